/-! CALLS -/
/-- what the tables say of a method that is called -/
def zMt (M : AM) (n : Nat) : Prop := Cond.code M.1 M.2.1 M.2.2.1 M.2.2.2 ∈ lw_good ∧ Cond.initialized M.1.cls ∈ lw_good ∧ (M.1.cls ≠ "java/lang/invoke/MethodHandle" ∧ M.1.cls ≠ "java/lang/invoke/VarHandle") ∧ (parseMethodDescriptor M.1.desc).map (fun d => d.parameters.length) = some n ∧ M.2.2.1 ≤ 60
theorem ws_good {M2 : AM} (h : Cond.code M2.1 M2.2.1 M2.2.2.1 M2.2.2.2 ∈ lw_good) {w : Cond} (hw : w ∈ wsM M2.1 M2.2.1 M2.2.2.1 M2.2.2.2) : w ∈ lw_good := (List.mem_cons.mp hw).elim (fun e => e ▸ h) (fun q => q)
theorem zMt_len {M : AM} {n : Nat} (h : zMt M n) : ∀ sig, parseMethodDescriptor M.1.desc = some sig → n = sig.parameters.length := by
  intro sig hs
  have := h.2.2.2.1
  rw [hs] at this
  simp only [Option.map_some, Option.some.injEq] at this
  exact this.symm
theorem zCallB {M M2 : AM} {n mc ms d d2 idx : Nat} {p : Program} {s : State} {m : MethodId} {args : Array Value} {meth : Method} {c : Code} {R : Room} (hE : zEn M p s m args meth c) (h : zMt M2 n) (hd2 : d2 + 1 ≤ d) (hfr : d ≤ R.frames) (hlo : 80 * d ≤ R.locals) (hw : Cond.methodLink M.1.cls idx M2.1 ∈ lw_good) : CallB R s args M.1.cls idx M2.1 M2.2.1 M2.2.2.1 M2.2.2.2 (wsM M2.1 M2.2.1 M2.2.2.1 M2.2.2.2) ({ frames := d2, cells := mc, slots := ms, locals := 80 * d2 }) mc ms n := by
  refine ⟨rfl, rfl, by show d2 + 1 ≤ R.frames; omega, by show 8 + (M2.2.2.1 + 11) + 80 * d2 ≤ R.locals; have := h.2.2.2.2; omega, fun w hw a' U hW => word_at hW (good_ok (ws_good h.1 hw)) (hE.2.2.2.2.1 w (ws_good h.1 hw)), List.mem_cons_self, hE.2.2.2.2.1 _ h.1, hE.2.2.2.2.1 _ h.2.1, h.2.2.1, zMt_len h, hE.2.2.2.2.1 _ hw⟩
theorem zPc_blind {D : va_G} {ad : Nat → Nat} {ca : Nat → ClassId} {tys : List (ClassId × FieldType)} {S : AS} {F : AF} {G : AG} {av : List Value} {sz : Nat} : FrameBlind (va_Pc av (fun U => U.heap.size = sz ∧ zNw U ∧ zStr ad (va_A (wl ad ca S F G) sz) U.heap U ∧ Sm D ad ca tys S F G (fun _ => True) U.heap U)) := by
  intro a U g mk q
  obtain ⟨q0, q1, qN, qS, qK, qP, qD, qT⟩ := q
  exact ⟨q0, q1, zNw_same rfl qN, zStr_same (s := U) (U := U.calling g mk a) rfl qS, va_K.moved (u := U) (U := U.calling g mk a) (Vm.Alike.refl U.vm) qK, qP, qD, qT⟩
theorem zPc_pre {D : va_G} {ad : Nat → Nat} {ca : Nat → ClassId} {tys : List (ClassId × FieldType)} {S : AS} {F : AF} {G : AG} {A : Nat → Prop} {av : List Value} {H : Heap} {s : State} {H0 : Heap} {locs : List Loc} (hN : zNw s) (hstr : zStr ad A H0 s) (hv : va_S A H0 H locs) (hA : ∀ q, H0.size ≤ q → A q) (hm : Sm D ad ca tys S F G A H s) : ∀ U : State, U.heap = H → s.WarmedH U.vm → va_Pc av (fun U => U.heap.size = H.size ∧ zNw U ∧ zStr ad (va_A (wl ad ca S F G) H.size) U.heap U ∧ Sm D ad ca tys S F G (fun _ => True) U.heap U) av.toArray U := by
  intro U hU hW
  refine ⟨rfl, by rw [hU], zNw_warm hW hN, ?_⟩
  rw [hU]
  have hfree : ∀ q, va_A (wl ad ca S F G) H.size q → A q := by
    intro q hq
    rcases hq with ⟨k, x, hk9⟩ | hq
    · exact hm.2.2.1.2 k _ hk9
    · exact hA q (Nat.le_trans hv.1 hq)
  refine ⟨zStr_warm hW (zStr_narrow (zStr_kept hstr hv.2.1) hfree), ?_⟩
  exact ⟨va_K.moved hW.alike hm.1, hm.2.1, hm.2.2.1.weaken (fun _ _ _ _ => trivial), hm.2.2.2⟩
/-- behind a call -/
theorem zBack {pc : Nat} {st : List AV} {S S1 : AS} {F F1 : AF} {G G1 : AG} {r : Option AV} {p : Program} {l : Launch} {e : Env} {R : Room} {s : State} {m : MethodId} {args : Array Value} {below : List Frame} {meth : Method} {c : Code} {H : Heap} {locs : List Loc} {cells slots mc ms : Nat} {Qs : State → Prop} {D : va_G} {ad : Nat → Nat} {ca : Nat → ClassId} {tys : List (ClassId × FieldType)} {A : Nat → Prop} {H0 : Heap} {ls : Array Slot} {stk : List Value} {Qa : State → Outcome → State → Prop}
    (hmc : mc = sn S1 - sn S) (hms : ms = ss S1 - ss S) (hn1 : sn S1 < 999999) (h1 : okS (sn S) st) (hm : Sm D ad ca tys S F G A H s) (hv : va_S A H0 H locs) (hA : ∀ q, H0.size ≤ q → A q)
    (hQ : ∀ st oc t, Qa st oc t → (∃ (ad1 : Nat → Nat) (ca1 : Nat → ClassId) (tys1 : List (ClassId × FieldType)), oc = .returned (r.map (vt ad1)) ∧ Ex ad ad1 (sn S) (sn S1) ∧ Sm D ad1 ca1 tys1 S1 F1 G1 (va_A (wl ad ca S F G) H.size) t.heap t) ∧ va_F (va_A (wl ad ca S F G) H.size) st t)
    (hrun : va_Run p l e R s m args below meth c H locs cells slots mc ms (F0 m pc ls stk) (st.map (vt ad)) Qa (va_A (wl ad ca S F G) H.size))
    (k9 : ∀ (H1 : Heap) (locs1 : List Loc) (ad1 : Nat → Nat) (ca1 : Nat → ClassId) (tys1 : List (ClassId × FieldType)), Sm D ad1 ca1 tys1 S1 F1 G1 A H1 s → Ex ad ad1 (sn S) (sn S1) → va_S A H0 H1 locs1 → W p l e R s m args below meth c H1 locs1 (cells + (sn S1 - sn S)) (slots + (ss S1 - ss S)) Qs (F0 m (pc + 3) ls ((r.toList ++ st).map (vt ad1)))) :
    W p l e R s m args below meth c H locs cells slots Qs (F0 m pc ls stk) := by
  subst hmc; subst hms
  intro T hT X
  obtain ⟨v, st₀, t, T', L9, y0, X', hL, e1, e2, hqa, stp⟩ := hrun T hT X
  obtain ⟨⟨ad1, ca1, tys1, hr, hex, hsm⟩, hz, hk⟩ := hQ _ _ _ hqa
  cases hr
  rw [y0] at hz hk
  have hvm : s.vm.Alike t.vm := by rw [← e2]; exact X'.warmed.alike
  have hfree : ∀ q, va_A (wl ad ca S F G) H.size q → A q := by
    intro q hq
    rcases hq with ⟨k, x, hk9⟩ | hq
    · exact hm.2.2.1.2 k _ hk9
    · exact hA q (Nat.le_trans hv.1 hq)
  have hsm1 : Sm D ad1 ca1 tys1 S1 F1 G1 A T'.heap s := by
    rw [e1]
    exact ⟨va_K.moved hvm.symm hsm.1, hsm.2.1, hsm.2.2.1.weaken (fun _ q _ h => hfree q.1 h), hsm.2.2.2⟩
  have hS1 : va_S A H0 T'.heap (locs ++ L9) := by
    refine ⟨Nat.le_trans hv.1 (by rw [e1]; exact hz), fun q a1 a2 => ?_, fun q hq => ?_⟩
    · rw [e1, hk q (Nat.lt_of_lt_of_le a1 hv.1) (fun z => a2 (hfree q z))]
      exact hv.2.1 q a1 a2
    · rcases List.mem_append.mp hq with h | h
      · exact hv.2.2 q h
      · exact hfree _ (hL q h)
  have hw := k9 T'.heap (locs ++ L9) ad1 ca1 tys1 hsm1 hex hS1
  have ev : (r.toList ++ st).map (vt ad1) = (r.map (vt ad1)).toList ++ st.map (vt ad) := by
    rw [List.map_append, ex_st hex hn1 h1]
    cases r <;> rfl
  rw [ev] at hw
  obtain ⟨t2, a1, b1⟩ := hw T' rfl X'
  exact ⟨t2, stp t2 a1, b1⟩

theorem go_callS {d d2 : Nat} {M M2 : AM} {pc : Nat} {L : AL} {st av : List AV} {S : AS} {F : AF} {G : AG} {Q : AQ} {idx n : Nat} (hd : decode M.2.1 pc = .ok (.invokestatic idx, 3)) (hw : Cond.methodLink M.1.cls idx M2.1 ∈ lw_good) (hm2 : zMt M2 n) (hw2 : Cond.static M2.1 ∈ lw_good) (hn : (av).length = n) (hs : cs st ≤ 8) (hd2 : d2 + 1 ≤ d) (h : Ok d2 M2 (av) S F G (fun r S1 F1 G1 => Go d M (pc + 3) L (r.toList ++ st) S1 F1 G1 Q)) : Go d M pc L (av.reverse ++ st) S F G Q := by
  refine go_rg (fun h0 h1 h2 => ?_)
  have hav : okS (sn S) (av) := fun v hv => h1 v (by simp only [List.mem_append, List.mem_reverse, List.mem_cons] at *; exact Or.inl hv)
  have hst : okS (sn S) st := fun v hv => h1 v (by simp only [List.mem_append, List.mem_reverse, List.mem_cons]; exact Or.inr hv)
  obtain ⟨r, S1, F1, G1, hk, hok, hmet⟩ := h h0 hav
  refine go_hp hk (fun _ _ _ => ⟨⟨hok.1, hok.2.1, hok.2.2.1, hok.2.2.2.1, hok.2.2.2.2.1, fun v hv => by cases hv⟩, ?_, ?_⟩)
  · intro v hv
    rcases List.mem_append.mp hv with q | q
    · exact hok.2.2.2.2.2 v (by cases r with | none => cases q | some w => rw [List.mem_singleton.mp q]; exact rfl)
    · exact okV_up hok.1 (hst v q)
  intro p l e R s m args below meth c H locs cells slots Qs D ad ca tys A H0 ls hE hsc hfr hlo hce hsl hm hv hA hl k9
  have hMt := hmet l D ad ca tys H.size d2 (Nat.le_refl _)
  have hc9 := lv_room (m := m) (pc := pc) (ls := ls) (rest := (av.reverse ++ st).map (vt ad)) (st := st.map (vt ad)) (by rw [cs_vt]; exact hs)
  have hrun := va_runS (p := p) (l := l) (e := e) (R := R) (s := s) (m := m) (args := args) (below := below) (meth := meth) (c := c) (H := H) (locs := locs) (cells := cells) (slots := slots) (As := av.map (vt ad)) (rest := st.map (vt ad)) (g := F0 m pc ls ((av.reverse ++ st).map (vt ad))) (nL := M.2.2.1) (cc := M.2.1) (Ts := lw_good) ⟨hE.1, hE.2.1, hE.2.2.1, hE.2.2.2.1, hE.2.2.2.2.1⟩ hMt ⟨zCallB hE hm2 hd2 hfr hlo hw, hE.2.2.2.2.1 _ hw2⟩ ⟨zPc_blind, zPc_pre hE.2.2.2.2.2.2.2.2 hsc.2 hv hA hm⟩ rfl (by rw [List.length_map]; exact hn) hl.1 (by simp) hc9 hd ⟨hce, hsl⟩
  exact zBack (S1 := S1) (F1 := F1) (G1 := G1) (r := r) rfl rfl hok.2.2.2.2.1.2.2.2.2.2 hst hm hv hA (fun _ _ _ q => q) hrun k9
theorem go_callV {d d2 : Nat} {M M2 : AM} {pc : Nat} {L : AL} {st av : List AV} {S : AS} {F : AF} {G : AG} {Q : AQ} {idx n ci b : Nat} (hd : decode M.2.1 pc = .ok (.invokevirtual idx, 3)) (hw : Cond.methodLink M.1.cls idx M2.1 ∈ lw_good) (hm2 : zMt M2 n) (hw2 : Cond.instanceMethod M2.1 ∈ lw_good) (hw3 : Cond.selects (cnm ci) M2.1 M2.1 ∈ lw_good) (hci : ci < 11) (hb : sK S b = ci) (hn : (av).length = n) (hs : cs st ≤ 8) (hd2 : d2 + 1 ≤ d) (h : Ok d2 M2 (vR b :: av) S F G (fun r S1 F1 G1 => Go d M (pc + 3) L (r.toList ++ st) S1 F1 G1 Q)) : Go d M pc L (av.reverse ++ vR b :: st) S F G Q := by
  refine go_rg (fun h0 h1 h2 => ?_)
  have hav : okS (sn S) (vR b :: av) := fun v hv => h1 v (by simp only [List.mem_append, List.mem_reverse, List.mem_cons] at *; rcases hv with q | q; exact Or.inr (Or.inl q); exact Or.inl q)
  have hst : okS (sn S) st := fun v hv => h1 v (by simp only [List.mem_append, List.mem_reverse, List.mem_cons]; exact Or.inr (Or.inr hv))
  obtain ⟨r, S1, F1, G1, hk, hok, hmet⟩ := h h0 hav
  refine go_hp hk (fun _ _ _ => ⟨⟨hok.1, hok.2.1, hok.2.2.1, hok.2.2.2.1, hok.2.2.2.2.1, fun v hv => by cases hv⟩, ?_, ?_⟩)
  · intro v hv
    rcases List.mem_append.mp hv with q | q
    · exact hok.2.2.2.2.2 v (by cases r with | none => cases q | some w => rw [List.mem_singleton.mp q]; exact rfl)
    · exact okV_up hok.1 (hst v q)
  intro p l e R s m args below meth c H locs cells slots Qs D ad ca tys A H0 ls hE hsc hfr hlo hce hsl hm hv hA hl k9
  have hMt := hmet l D ad ca tys H.size d2 (Nat.le_refl _)
  have hc9 := lv_room (m := m) (pc := pc) (ls := ls) (rest := (av.reverse ++ vR b :: st).map (vt ad)) (st := st.map (vt ad)) (by rw [cs_vt]; exact hs)
  obtain ⟨i1, i2⟩ := rg_in h0 hb (by omega)
  have hrec := va_recv (s := s) (H := H) hm.1 hm.2.1 (ci := ci) (q0 := b - 1) (cls_at hci) (by rw [wl_at i1 i2, ce_obj hb hci])
  have estk : ((av.reverse ++ vR b :: st).map (vt ad)) = (av.map (vt ad)).reverse ++ .ref (ad b) :: st.map (vt ad) := by
    rw [List.map_append, List.map_cons, List.map_reverse, vt_ref i1]
  have hpre := zPc_pre (av := (vR b :: av).map (vt ad)) hE.2.2.2.2.2.2.2.2 hsc.2 hv hA hm
  rw [List.map_cons, vt_ref i1] at hpre hMt
  have hrun := va_runV (p := p) (l := l) (e := e) (R := R) (s := s) (m := m) (args := args) (below := below) (meth := meth) (c := c) (H := H) (locs := locs) (cells := cells) (slots := slots) (As := av.map (vt ad)) (rest := st.map (vt ad)) (b := ad b) (C := cnm ci) (g := F0 m pc ls ((av.reverse ++ vR b :: st).map (vt ad))) (nL := M.2.2.1) (cc := M.2.1) (Ts := lw_good) ⟨hE.1, hE.2.1, hE.2.2.1, hE.2.2.2.1, hE.2.2.2.2.1⟩ hMt ⟨zCallB hE hm2 hd2 hfr hlo hw, hE.2.2.2.2.1 _ hw2, hE.2.2.2.2.1 _ hw3⟩ ⟨zPc_blind, hrec, hpre⟩ rfl (by rw [List.length_map]; exact hn) hl.1 estk hc9 hd ⟨hce, hsl⟩
  exact zBack (S1 := S1) (F1 := F1) (G1 := G1) (r := r) rfl rfl hok.2.2.2.2.1.2.2.2.2.2 hst hm hv hA (fun _ _ _ q => q) hrun k9
theorem go_callI {d d2 : Nat} {M M2 : AM} {pc : Nat} {L : AL} {st av : List AV} {S : AS} {F : AF} {G : AG} {Q : AQ} {idx n b : Nat} (hd : decode M.2.1 pc = .ok (.invokespecial idx, 3)) (hw : Cond.methodLink M.1.cls idx M2.1 ∈ lw_good) (hm2 : zMt M2 n) (hret : M2.2.2.2 = none) (hin : M2.1.name = "<init>") (hw2 : Cond.instanceMethod M2.1 ∈ lw_good) (hb : 1 ≤ b) (hn : (av).length = n) (hs : cs st ≤ 8) (hd2 : d2 + 1 ≤ d) (h : Ok d2 M2 (vR b :: av) S F G (fun r S1 F1 G1 => Go d M (pc + 3) L (r.toList ++ st) S1 F1 G1 Q)) : Go d M pc L (av.reverse ++ vR b :: st) S F G Q := by
  refine go_rg (fun h0 h1 h2 => ?_)
  have hav : okS (sn S) (vR b :: av) := fun v hv => h1 v (by simp only [List.mem_append, List.mem_reverse, List.mem_cons] at *; rcases hv with q | q; exact Or.inr (Or.inl q); exact Or.inl q)
  have hst : okS (sn S) st := fun v hv => h1 v (by simp only [List.mem_append, List.mem_reverse, List.mem_cons]; exact Or.inr (Or.inr hv))
  obtain ⟨r, S1, F1, G1, hk, hok, hmet⟩ := h h0 hav
  refine go_hp hk (fun _ _ _ => ⟨⟨hok.1, hok.2.1, hok.2.2.1, hok.2.2.2.1, hok.2.2.2.2.1, fun v hv => by cases hv⟩, ?_, ?_⟩)
  · intro v hv
    rcases List.mem_append.mp hv with q | q
    · exact hok.2.2.2.2.2 v (by cases r with | none => cases q | some w => rw [List.mem_singleton.mp q]; exact rfl)
    · exact okV_up hok.1 (hst v q)
  intro p l e R s m args below meth c H locs cells slots Qs D ad ca tys A H0 ls hE hsc hfr hlo hce hsl hm hv hA hl k9
  have hMt := hmet l D ad ca tys H.size d2 (Nat.le_refl _)
  have hc9 := lv_room (m := m) (pc := pc) (ls := ls) (rest := (av.reverse ++ vR b :: st).map (vt ad)) (st := st.map (vt ad)) (by rw [cs_vt]; exact hs)
  have i1 := hb
  have estk : ((av.reverse ++ vR b :: st).map (vt ad)) = (av.map (vt ad)).reverse ++ .ref (ad b) :: st.map (vt ad) := by
    rw [List.map_append, List.map_cons, List.map_reverse, vt_ref i1]
  have hpre := zPc_pre (av := (vR b :: av).map (vt ad)) hE.2.2.2.2.2.2.2.2 hsc.2 hv hA hm
  rw [List.map_cons, vt_ref i1] at hpre hMt
  have hcb := zCallB (n := n) (mc := sn S1 - sn S) (ms := ss S1 - ss S) hE hm2 hd2 hfr hlo hw
  rw [hret] at hcb hMt
  have hrun := va_runI (p := p) (l := l) (e := e) (R := R) (s := s) (m := m) (args := args) (below := below) (meth := meth) (c := c) (H := H) (locs := locs) (cells := cells) (slots := slots) (As := av.map (vt ad)) (rest := st.map (vt ad)) (b := ad b) (g := F0 m pc ls ((av.reverse ++ vR b :: st).map (vt ad))) (nL := M.2.2.1) (cc := M.2.1) (Ts := lw_good) ⟨hE.1, hE.2.1, hE.2.2.1, hE.2.2.2.1, hE.2.2.2.2.1⟩ hMt ⟨hcb, hin, hE.2.2.2.2.1 _ hw2⟩ ⟨zPc_blind, hpre⟩ rfl (by rw [List.length_map]; exact hn) hl.1 estk hc9 hd ⟨hce, hsl⟩
  exact zBack (S1 := S1) (F1 := F1) (G1 := G1) (r := r) rfl rfl hok.2.2.2.2.1.2.2.2.2.2 hst hm hv hA (fun _ _ _ q => q) hrun k9
theorem go_callIN {d d2 : Nat} {M M2 : AM} {pc : Nat} {L : AL} {st av : List AV} {S : AS} {F : AF} {G : AG} {Q : AQ} {idx n b : Nat} (hd : decode M.2.1 pc = .ok (.invokespecial idx, 3)) (hw : (M.1.cls, idx, M2.1) ∈ nestL) (hm2 : zMt M2 n) (hret : M2.2.2.2 = none) (hin : M2.1.name = "<init>") (hw2 : Cond.instanceMethod M2.1 ∈ lw_good) (hb : 1 ≤ b) (hn : (av).length = n) (hs : cs st ≤ 8) (hd2 : d2 + 1 ≤ d) (h : Ok d2 M2 (vR b :: av) S F G (fun r S1 F1 G1 => Go d M (pc + 3) L (r.toList ++ st) S1 F1 G1 Q)) : Go d M pc L (av.reverse ++ vR b :: st) S F G Q := by
  refine go_rg (fun h0 h1 h2 => ?_)
  have hav : okS (sn S) (vR b :: av) := fun v hv => h1 v (by simp only [List.mem_append, List.mem_reverse, List.mem_cons] at *; rcases hv with q | q; exact Or.inr (Or.inl q); exact Or.inl q)
  have hst : okS (sn S) st := fun v hv => h1 v (by simp only [List.mem_append, List.mem_reverse, List.mem_cons]; exact Or.inr (Or.inr hv))
  obtain ⟨r, S1, F1, G1, hk, hok, hmet⟩ := h h0 hav
  refine go_hp hk (fun _ _ _ => ⟨⟨hok.1, hok.2.1, hok.2.2.1, hok.2.2.2.1, hok.2.2.2.2.1, fun v hv => by cases hv⟩, ?_, ?_⟩)
  · intro v hv
    rcases List.mem_append.mp hv with q | q
    · exact hok.2.2.2.2.2 v (by cases r with | none => cases q | some w => rw [List.mem_singleton.mp q]; exact rfl)
    · exact okV_up hok.1 (hst v q)
  intro p l e R s m args below meth c H locs cells slots Qs D ad ca tys A H0 ls hE hsc hfr hlo hce hsl hm hv hA hl k9
  have hMt := hmet l D ad ca tys H.size d2 (Nat.le_refl _)
  have hc9 := lv_room (m := m) (pc := pc) (ls := ls) (rest := (av.reverse ++ vR b :: st).map (vt ad)) (st := st.map (vt ad)) (by rw [cs_vt]; exact hs)
  have i1 := hb
  have estk : ((av.reverse ++ vR b :: st).map (vt ad)) = (av.map (vt ad)).reverse ++ .ref (ad b) :: st.map (vt ad) := by
    rw [List.map_append, List.map_cons, List.map_reverse, vt_ref i1]
  have hpre := zPc_pre (av := (vR b :: av).map (vt ad)) hE.2.2.2.2.2.2.2.2 hsc.2 hv hA hm
  rw [List.map_cons, vt_ref i1] at hpre hMt
  have hcb := va_cnB (R := R) (s := s) (args := args) (own := M.1.cls) (host := "StockGrid") (index := idx) (y := M2.1) (bytes := M2.2.1) (maxL := M2.2.2.1) (ret := M2.2.2.2) (mc := sn S1 - sn S) (ms := ss S1 - ss S) (rm := { frames := d2, cells := sn S1 - sn S, slots := ss S1 - ss S, locals := 80 * d2 }) (Ts := lw_good) n hE.2.2.2.2.1 (ws := wsM M2.1 M2.2.1 M2.2.2.1 M2.2.2.2) (fun w hw9 => ⟨ws_good hm2.1 hw9, good_ok (ws_good hm2.1 hw9)⟩) rfl rfl rfl (hE.2.2.2.2.2.2.2.2.1 _ hw) (hE.2.2.2.2.1 _ hm2.2.1) ⟨hm2.2.2.1.1, hm2.2.2.1.2, hm2.2.2.2.1⟩ ⟨by show d2 + 1 ≤ R.frames; omega, by show 8 + (M2.2.2.1 + 11) + 80 * d2 ≤ R.locals; have := hm2.2.2.2.2; omega⟩
  rw [hret] at hcb hMt
  have hrun := va_runIN (p := p) (l := l) (e := e) (R := R) (s := s) (m := m) (args := args) (below := below) (meth := meth) (c := c) (H := H) (locs := locs) (cells := cells) (slots := slots) (As := av.map (vt ad)) (rest := st.map (vt ad)) (b := ad b) (g := F0 m pc ls ((av.reverse ++ vR b :: st).map (vt ad))) (nL := M.2.2.1) (cc := M.2.1) (Ts := lw_good) ⟨hE.1, hE.2.1, hE.2.2.1, hE.2.2.2.1, hE.2.2.2.2.1⟩ hMt ⟨hcb, hin, hE.2.2.2.2.1 _ hw2⟩ ⟨zPc_blind, hpre⟩ rfl (by rw [List.length_map]; exact hn) hl.1 estk hc9 hd ⟨hce, hsl⟩
  exact zBack (S1 := S1) (F1 := F1) (G1 := G1) (r := r) rfl rfl hok.2.2.2.2.1.2.2.2.2.2 hst hm hv hA (fun _ _ _ q => q) hrun k9
