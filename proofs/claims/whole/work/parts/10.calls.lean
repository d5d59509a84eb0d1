/-! ENDS AND CALLS -/
theorem go_ret {d : Nat} {M : AM} {pc : Nat} {L : AL} {S : AS} {F : AF} {G : AG} {Q : AQ} {r : Option AV} (hr : zRt M.2.1 M.2.2.2 pc r) (hq : Q r S F G) : Go d M pc L r.toList S F G Q := by
  intro h1 h2 h3
  refine ⟨r, S, F, G, hq, ⟨Nat.le_refl _, Nat.le_refl _, rfl, rfl, h1, fun v hv => h2 v (by cases r with | none => cases hv | some w => cases hv; exact List.mem_singleton.mpr rfl)⟩, ?_⟩
  intro p l e R s m args below meth c H locs cells slots Qs D ad ca tys A H0 ls x1 x2 x3 x4 x5 x6 x7 x8 x9 x10 x11
  have := x11 H locs ad ca tys pc ls x7 ex_refl x8 hr
  have e : (r.map (vt ad)).toList = r.toList.map (vt ad) := by cases r <;> rfl
  rw [e] at this
  simpa only [Nat.sub_self, Nat.add_zero] using this
theorem go_iret {d : Nat} {M : AM} {pc : Nat} {L : AL} {S : AS} {F : AF} {G : AG} {Q : AQ} {z : Int} (hd : decode M.2.1 pc = .ok (.ireturn, 1)) (hr : M.2.2.2 = some .int) (hq : Q (some (vI z)) S F G) : Go d M pc L [vI z] S F G Q := go_ret (r := some (vI z)) ⟨hd, Or.inl hr⟩ hq
theorem go_zret {d : Nat} {M : AM} {pc : Nat} {L : AL} {S : AS} {F : AF} {G : AG} {Q : AQ} {z : Int} (hd : decode M.2.1 pc = .ok (.ireturn, 1)) (hr : M.2.2.2 = some .boolean) (hz : z = 0 ∨ z = 1) (hq : Q (some (vI z)) S F G) : Go d M pc L [vI z] S F G Q := go_ret (r := some (vI z)) ⟨hd, Or.inr (Or.inl ⟨hr, hz⟩)⟩ hq
theorem go_nret {d : Nat} {M : AM} {pc : Nat} {L : AL} {S : AS} {F : AF} {G : AG} {Q : AQ} {z : Int} {ty : FieldType} (hd : decode M.2.1 pc = .ok (.ireturn, 1)) (hr : M.2.2.2 = some ty) (hz : narrow ty (.int (Int32.ofInt z)) = .int (Int32.ofInt z)) (hq : Q (some (vI z)) S F G) : Go d M pc L [vI z] S F G Q := go_ret (r := some (vI z)) ⟨hd, Or.inr (Or.inr ⟨ty, hr, hz⟩)⟩ hq
theorem go_lret {d : Nat} {M : AM} {pc : Nat} {L : AL} {S : AS} {F : AF} {G : AG} {Q : AQ} {z : Int} (hd : decode M.2.1 pc = .ok (.lreturn, 1)) (hr : M.2.2.2 = some .long) (hq : Q (some (vJ z)) S F G) : Go d M pc L [vJ z] S F G Q := go_ret (r := some (vJ z)) ⟨hd, hr⟩ hq
theorem go_aret {d : Nat} {M : AM} {pc : Nat} {L : AL} {S : AS} {F : AF} {G : AG} {Q : AQ} {z : Nat} {C : String} (hd : decode M.2.1 pc = .ok (.areturn, 1)) (hr : M.2.2.2 = some (.object C)) (hq : Q (some (vR z)) S F G) : Go d M pc L [vR z] S F G Q := go_ret (r := some (vR z)) ⟨hd, C, hr⟩ hq
theorem go_vret {d : Nat} {M : AM} {pc : Nat} {L : AL} {S : AS} {F : AF} {G : AG} {Q : AQ} (hd : decode M.2.1 pc = .ok (.return_, 1)) (hr : M.2.2.2 = none) (hq : Q none S F G) : Go d M pc L [] S F G Q := go_ret (r := none) ⟨hd, hr⟩ hq
/-- the slots at a method's entry -/
def zArgs (av : List AV) : AL := match av with
  | [] => []
  | v :: vs => bif isJ (some v) then some v :: none :: zArgs vs else some v :: zArgs vs
def zEnt (av : List AV) (n : Nat) : AL := zArgs av ++ List.replicate (n - (zArgs av).length) none
theorem zArgs_at (ad : Nat → Nat) : ∀ (av : List AV) (o i : Nat) (v : AV), (zArgs av)[i]? = some (some v) → (o + i, vt ad v) ∈ lv_args o (av.map (vt ad)) ∧ v ∈ av := by
  intro av
  induction av with
  | nil => intro o i v h; simp [zArgs] at h
  | cons a as ih =>
    intro o i v h
    simp only [zArgs] at h
    simp only [List.map_cons, lv_args]
    cases hj : isJ (some a) with
    | true =>
      rw [hj, cond_true] at h
      have hc : (vt ad a).category = 2 := by
        match a, hj with
        | .inr (.inl z), _ => rfl
      rw [if_pos hc]
      match i, h with
      | 0, h =>
        simp only [List.getElem?_cons_zero, Option.some.injEq] at h
        subst h
        exact ⟨List.mem_cons_self, List.mem_cons_self⟩
      | 1, h => simp at h
      | i + 2, h =>
        simp only [List.getElem?_cons_succ] at h
        obtain ⟨h1, h2⟩ := ih (o + 2) i v h
        rw [show o + 2 + i = o + (i + 2) by omega] at h1
        exact ⟨List.mem_cons_of_mem _ h1, List.mem_cons_of_mem _ h2⟩
    | false =>
      rw [hj, cond_false] at h
      have hc := vt_cat (ad := ad) hj
      rw [if_neg hc]
      match i, h with
      | 0, h =>
        simp only [List.getElem?_cons_zero, Option.some.injEq] at h
        subst h
        exact ⟨List.mem_cons_self, List.mem_cons_self⟩
      | i + 1, h =>
        simp only [List.getElem?_cons_succ] at h
        obtain ⟨h1, h2⟩ := ih (o + 1) i v h
        rw [show o + 1 + i = o + (i + 1) by omega] at h1
        exact ⟨List.mem_cons_of_mem _ h1, List.mem_cons_of_mem _ h2⟩
theorem zEnt_at {ad : Nat → Nat} {av : List AV} {n i : Nat} {v : AV} (h : (zEnt av n)[i]? = some (some v)) : (i, vt ad v) ∈ lv_args 0 (av.map (vt ad)) ∧ v ∈ av := by
  simp only [zEnt] at h
  by_cases hi : i < (zArgs av).length
  · rw [List.getElem?_append_left hi] at h
    have := zArgs_at ad av 0 i v h
    rw [Nat.zero_add] at this
    exact this
  · rw [List.getElem?_append_right (by omega), List.getElem?_replicate] at h
    split at h <;> cases h
theorem zArgs_len (ad : Nat → Nat) : ∀ av : List AV, (lg_sl (av.map (vt ad))).length = (zArgs av).length := by
  intro av
  induction av with
  | nil => rfl
  | cons a as ih =>
    match a with
    | .inl z => simpa [zArgs, lg_sl, vt, isJ, Value.category] using ih
    | .inr (.inl z) => simpa [zArgs, lg_sl, vt, isJ, Value.category] using ih
    | .inr (.inr r) =>
      by_cases hr : r = 0 <;> simpa [zArgs, lg_sl, vt, isJ, rf, hr, va_rf, Value.category] using ih
def MetTo (d : Nat) (M : AM) (av : List AV) (S : AS) (F : AF) (G : AG) (r : Option AV) (S' : AS) (F' : AF) (G' : AG) : Prop :=
  ∀ (l : Launch) (D : va_G) (ad : Nat → Nat) (ca : Nat → ClassId) (tys : List (ClassId × FieldType)) (sz d' : Nat), d ≤ d' →
    Met l M.1 (wsM M.1 M.2.1 M.2.2.1 M.2.2.2) ({ frames := d', cells := sn S' - sn S, slots := ss S' - ss S, locals := 80 * d' }) (va_Pc (av.map (vt ad)) (fun U => U.heap.size = sz ∧ zNw U ∧ zStr ad (va_A (wl ad ca S F G) sz) U.heap U ∧ Sm D ad ca tys S F G (fun _ => True) U.heap U))
      (fun _ st oc t => (∃ (ad1 : Nat → Nat) (ca1 : Nat → ClassId) (tys1 : List (ClassId × FieldType)), oc = .returned (r.map (vt ad1)) ∧ Ex ad ad1 (sn S) (sn S') ∧ Sm D ad1 ca1 tys1 S' F' G' (va_A (wl ad ca S F G) sz) t.heap t) ∧ va_F (va_A (wl ad ca S F G) sz) st t) (sn S' - sn S) (ss S' - ss S) (va_A (wl ad ca S F G) sz)
/-- a call of the method: it returns, and its answer and heap hold Q -/
def Ok (d : Nat) (M : AM) (av : List AV) (S : AS) (F : AF) (G : AG) (Q : AQ) : Prop :=
  RG S F G → okS (sn S) av → ∃ (r : Option AV) (S' : AS) (F' : AF) (G' : AG), Q r S' F' G' ∧ zOk S r S' F' G' ∧ MetTo d M av S F G r S' F' G'
theorem ok_mono {d : Nat} {M : AM} {av : List AV} {S : AS} {F : AF} {G : AG} {Q Q' : AQ} (h : Ok d M av S F G Q) (hq : ∀ r S' F' G', Q r S' F' G' → Q' r S' F' G') : Ok d M av S F G Q' := by
  intro h1 h2
  obtain ⟨r, S', F', G', a, b⟩ := h h1 h2
  exact ⟨r, S', F', G', hq _ _ _ _ a, b⟩
theorem ok_up {d d2 : Nat} {M : AM} {av : List AV} {S : AS} {F : AF} {G : AG} {Q : AQ} (h : Ok d M av S F G Q) (hd : d ≤ d2) : Ok d2 M av S F G Q := by
  intro h1 h2
  obtain ⟨r, S', F', G', a, b, g⟩ := h h1 h2
  exact ⟨r, S', F', G', a, b, fun l D ad ca tys sz d' h9 => g l D ad ca tys sz d' (Nat.le_trans hd h9)⟩
/-- what is known of the heap behind it -/
theorem ok_rg {d : Nat} {M : AM} {av : List AV} {S : AS} {F : AF} {G : AG} {Q : AQ} (h : RG S F G → okS (sn S) av → Ok d M av S F G Q) : Ok d M av S F G Q := fun h1 h2 => h h1 h2 h1 h2
theorem sm_at {D : va_G} {ad : Nat → Nat} {ca : Nat → ClassId} {tys : List (ClassId × FieldType)} {S : AS} {F : AF} {G : AG} {A : Nat → Prop} {H : Heap} {s t : State} (h : Sm D ad ca tys S F G A H s) (hv : s.vm.Alike t.vm) : Sm D ad ca tys S F G A H t := ⟨va_K.moved hv h.1, h.2⟩
theorem ok_go {d : Nat} {M : AM} {av : List AV} {S : AS} {F : AF} {G : AG} {Q : AQ} (hpl : plainName M.1.cls = true) (hnl : M.1.name ≠ "law") (hlen : (zArgs av).length ≤ M.2.2.1) (h : Go d M 0 (zEnt av M.2.2.1) [] S F G Q) : Ok d M av S F G Q := by
  intro h1 h2
  obtain ⟨r, S', F', G', a, b, g⟩ := h h1 (fun v hv => by cases hv) (fun i v hi => h2 v (zEnt_at (ad := fun x => x) hi).2)
  refine ⟨r, S', F', G', a, b, ?_⟩
  intro l D ad ca tys sz d' hd'
  refine Met.ofW (cc := M.2.1) (maxL := M.2.2.1) (ret := M.2.2.2) hpl rfl ?_
  intro p e s m args below meth c s₁ B hml hv
  obtain ⟨rfl, hsz, hnw, hst, hm⟩ := hv
  subst hsz
  have hts := atoms_spec (ws := wsM M.1 M.2.1 M.2.2.1 M.2.2.2) B.pre
  have hE : zEn M p s m (av.map (vt ad)).toArray meth c := ⟨B.exec, B.bytes, hml, findClass_of_methodNamed B.named, fun w hw => hts w (List.mem_cons_of_mem _ hw), B.returns, B.notSynchronized, fun hin => by
    have := (name_of_methodNamed B.named B.method).1
    rw [this]
    exact hin, hnw⟩
  have hl : zLS ad ((lg_sl (av.map (vt ad)) ++ List.replicate (M.2.2.1 - (lg_sl (av.map (vt ad))).length) Slot.unset).toArray) M.2.2.1 (zEnt av M.2.2.1) := by
    have q := lv_entry (av.map (vt ad)) (n := M.2.2.1) (by rw [zArgs_len]; exact hlen)
    exact ⟨q.1, q.2.1, fun i v hi => q.2.2 (i, vt ad v) (zEnt_at hi).1⟩
  rw [lg_entry_eq]
  have hA : ∀ q : Nat, s.heap.size ≤ q → va_A (wl ad ca S F G) s.heap.size q := fun q hq => Or.inr hq
  have hm2 : Sm D ad ca tys S F G (va_A (wl ad ca S F G) s.heap.size) s.heap s := ⟨hm.1, hm.2.1, hm.2.2.1.self, hm.2.2.2⟩
  have hlk := B.notSynchronized
  refine g p l e _ s m _ below meth c s.heap [] 0 0 _ D ad ca tys _ s.heap _ hE ⟨fun q => absurd q hnl, hst⟩ hd' (by show 80 * d ≤ 80 * d'; omega) (by show 0 + (sn S' - sn S) ≤ sn S' - sn S; omega) (by show 0 + (ss S' - ss S) ≤ ss S' - ss S; omega) hm2 va_S.rf hA hl (fun H1 locs1 ad1 ca1 tys1 pc1 ls1 y1 y2 y3 y4 => ?_)
  rw [Nat.zero_add, Nat.zero_add]
  have fin : ∀ (oc : Outcome), oc = .returned (r.map (vt ad1)) → ∀ t : State, t.heap = H1 → s.WarmedH t.vm → ((∃ (ad1 : Nat → Nat) (ca1 : Nat → ClassId) (tys1 : List (ClassId × FieldType)), oc = .returned (r.map (vt ad1)) ∧ Ex ad ad1 (sn S) (sn S') ∧ Sm D ad1 ca1 tys1 S' F' G' (va_A (wl ad ca S F G) s.heap.size) t.heap t) ∧ va_F (va_A (wl ad ca S F G) s.heap.size) s t) := by
    intro oc ho t ht hW
    exact ⟨⟨ad1, ca1, tys1, ho, y2, by rw [ht]; exact sm_at y1 hW.alike⟩, y3.F ht⟩
  match r, y4, fin with
  | none, y4, fin => exact W.vret B.exec B.bytes (B.returns.trans y4.2) (fun t ht hW => fin _ rfl t ht hW) y3.2.2 y4.1 hlk
  | some (.inl z), y4, fin =>
    rcases y4.2 with q | ⟨q, hz⟩ | ⟨ty, q, hz⟩
    · exact W.iret B.exec B.bytes (B.returns.trans q) (fun t ht hW => fin _ rfl t ht hW) y3.2.2 y4.1 hlk
    · exact W.zret B.exec B.bytes (B.returns.trans q) (by rcases hz with rfl | rfl <;> rfl) (fun t ht hW => fin _ rfl t ht hW) y3.2.2 y4.1 hlk
    · exact W.zret B.exec B.bytes (B.returns.trans q) hz (fun t ht hW => fin _ rfl t ht hW) y3.2.2 y4.1 hlk
  | some (.inr (.inl z)), y4, fin => exact W.lret B.exec B.bytes (B.returns.trans y4.2) (fun t ht hW => fin _ rfl t ht hW) y3.2.2 y4.1 hlk
  | some (.inr (.inr q)), y4, fin =>
    obtain ⟨y5, C, y6⟩ := y4
    exact W.aret B.exec B.bytes (B.returns.trans y6) (Or.inl ⟨C, rfl⟩) (by simp only [vt, rf]; split; exact Or.inl rfl; exact Or.inr ⟨_, rfl⟩) (fun t ht hW => fin _ rfl t ht hW) y3.2.2 y5 hlk
