/-! STEPS THAT CHANGE THE HEAP -/
def zStH (d : Nat) (M : AM) (pc : Nat) (L : AL) (st : List AV) (S : AS) (F : AF) (G : AG) (pc' : Nat) (st' : List AV) (S1 : AS) (F1 : AF) (G1 : AG) : Prop :=
  ∀ (p : Program) (l : Launch) (e : Env) (R : Room) (s : State) (m : MethodId) (args : Array Value) (below : List Frame) (meth : Method) (c : Code) (H : Heap) (locs : List Loc) (cells slots : Nat) (Qs : State → Prop) (D : va_G) (ad : Nat → Nat) (ca : Nat → ClassId) (tys : List (ClassId × FieldType)) (A : Nat → Prop) (H0 : Heap) (ls : Array Slot),
    zEn M p s m args meth c → zSc M S ad A H0 s → d ≤ R.frames → 80 * d ≤ R.locals → cells + (sn S1 - sn S) ≤ R.cells → slots + (ss S1 - ss S) ≤ R.slots →
    Sm D ad ca tys S F G A H s → va_S A H0 H locs → (∀ q, H0.size ≤ q → A q) → zLS ad ls M.2.2.1 L →
    (∀ (H1 : Heap) (locs1 : List Loc) (ad1 : Nat → Nat) (ca1 : Nat → ClassId) (tys1 : List (ClassId × FieldType)), Sm D ad1 ca1 tys1 S1 F1 G1 A H1 s → Ex ad ad1 (sn S) (sn S1) → va_S A H0 H1 locs1 → W p l e R s m args below meth c H1 locs1 (cells + (sn S1 - sn S)) (slots + (ss S1 - ss S)) Qs (F0 m pc' ls (st'.map (vt ad1)))) →
    W p l e R s m args below meth c H locs cells slots Qs (F0 m pc ls (st.map (vt ad)))
theorem go_hp {d : Nat} {M : AM} {pc pc' : Nat} {L : AL} {st st' : List AV} {S S1 : AS} {F F1 : AF} {G G1 : AG} {Q : AQ} (k : Go d M pc' L st' S1 F1 G1 Q) (h : RG S F G → okS (sn S) st → okL (sn S) L → zOk S none S1 F1 G1 ∧ okS (sn S1) st' ∧ zStH d M pc L st S F G pc' st' S1 F1 G1) : Go d M pc L st S F G Q := by
  intro h1 h2 h3
  obtain ⟨⟨a1, a2, a3, a4, a5, -⟩, h4, h5⟩ := h h1 h2 h3
  obtain ⟨r, S', F', G', a, ⟨b1, b2, b3, b4, b5, b6⟩, g⟩ := k a5 h4 (okL_up a1 h3)
  refine ⟨r, S', F', G', a, ⟨by omega, by omega, b3.trans a3, b4.trans a4, b5, b6⟩, ?_⟩
  have hn1 : sn S1 < 999999 := a5.2.2.2.2.2
  intro p l e R s m args below meth c H locs cells slots Qs D ad ca tys A H0 ls x1 x2 x3 x4 x5 x6 x7 x8 x9 x10 x11
  refine h5 p l e R s m args below meth c H locs cells slots Qs D ad ca tys A H0 ls x1 x2 x3 x4 (by omega) (by omega) x7 x8 x9 x10 (fun H1 locs1 ad1 ca1 tys1 y1 y2 y3 => ?_)
  have e9 : ad1 999999 = ad 999999 := y2 _ (Or.inr hn1)
  refine g p l e R s m args below meth c H1 locs1 _ _ Qs D ad1 ca1 tys1 A H0 ls x1 ⟨fun q => by rw [e9, a3, a4]; exact x2.1 q, zStr_ad x2.2 (fun k hk => y2 k (Or.inr (by omega)))⟩ x3 x4 (by omega) (by omega) y1 y3 x9 (ex_ls y2 hn1 h3 x10) (fun H2 locs2 ad2 ca2 tys2 pc2 ls2 z1 z2 z3 z4 => ?_)
  rw [show cells + (sn S1 - sn S) + (sn S' - sn S1) = cells + (sn S' - sn S) by omega, show slots + (ss S1 - ss S) + (ss S' - ss S1) = slots + (ss S' - ss S) by omega]
  exact x11 H2 locs2 ad2 ca2 tys2 pc2 ls2 z1 (ex_trans y2 z2 a1 b1) z3 z4
theorem rg_in {S : AS} {F : AF} {G : AG} (h : RG S F G) {o q : Nat} (hk : sK S o = q) (hq : q < 99) : 1 ≤ o ∧ o ≤ sn S := by
  by_cases h0 : o = 0 ∨ sn S < o
  · have := h.1 o h0
    omega
  · omega
theorem vt_ref {ad : Nat → Nat} {r : Nat} (h : 1 ≤ r) : vt ad (vR r) = .ref (ad r) := by
  have : ¬ r = 0 := by omega
  simp only [vt, rf, if_neg this, va_rf]
theorem ce_obj {ad : Nat → Nat} {ca : Nat → ClassId} {S : AS} {F : AF} {G : AG} {o ci : Nat} (h : sK S o = ci) (hc : ci < 11) : ce ad ca S F G o = .inr (ci, (List.range (cN ci)).map (fun k => fv ad (fk ci k) (F o k) (sR S o k))) := by
  subst h
  simp only [ce, if_pos hc]
theorem ce_int {ad : Nat → Nat} {ca : Nat → ClassId} {S : AS} {F : AF} {G : AG} {o : Nat} (h : sK S o = 20 ∨ sK S o = 22 ∨ sK S o = 23) : ce ad ca S F G o = .inl (ca o, sN S o, .inl (fun j => Int32.ofInt (G o j))) := by
  simp only [ce]
  rw [if_neg (by omega), if_neg (by omega), if_neg (by omega)]
theorem ce_long {ad : Nat → Nat} {ca : Nat → ClassId} {S : AS} {F : AF} {G : AG} {o : Nat} (h : sK S o = 21) : ce ad ca S F G o = .inl (ca o, sN S o, .inr (.inl (fun j => Int64.ofInt (G o j)))) := by
  simp only [ce]
  rw [if_neg (by omega), if_pos h]
theorem ce_row {ad : Nat → Nat} {ca : Nat → ClassId} {S : AS} {F : AF} {G : AG} {o : Nat} (h : sK S o = 24 ∨ sK S o = 25) : ce ad ca S F G o = .inl (ca o, sN S o, .inr (.inr (.inr (.inr (fun j => rf ad (sR S o j)))))) := by
  simp only [ce]
  rw [if_neg (by omega), if_neg (by omega), if_pos h]
def rd (t : Nat) (z : Int) (r : Nat) : AV := match t with
  | 1 => vJ z
  | 2 => vR r
  | _ => vI z
theorem rd_vt {ad : Nat → Nat} {t : Nat} {z : Int} {r : Nat} : vt ad (rd t z r) = fv ad t z r := by
  match t with
  | 0 => rfl
  | 1 => rfl
  | 2 => rfl
  | t + 3 => rfl
theorem rd_ok {n t : Nat} {z : Int} {r : Nat} (h : okF t z) (hr : r ≤ n) : okV n (rd t z r) := by
  match t, h with
  | 0, h => exact h
  | 1, h => exact h
  | 2, _ => exact Or.inl hr
  | 3, h => show r32 z; simp only [okF] at h; omega
  | t + 4, h => exact h
/-- a field by a method's own link -/
def zFl (own : String) (idx ci k : Nat) : Prop := ci < 11 ∧ k < cN ci ∧ Cond.fieldLink own idx (cT ci k).1 (cT ci k).2.1 (cT ci k).2.2.1 ∈ lw_good
theorem go_get {d : Nat} {M : AM} {pc : Nat} {L : AL} {st : List AV} {S : AS} {F : AF} {G : AG} {Q : AQ} {idx ci k o : Nat} (hd : decode M.2.1 pc = .ok (.getfield idx, 3)) (hf : zFl M.1.cls idx ci k) (ho : sK S o = ci) (kk : Go d M (pc + 3) L (rd (fk ci k) (F o k) (sR S o k) :: st) S F G Q) : Go d M pc L (vR o :: st) S F G Q := by
  obtain ⟨hc, hk, hl9⟩ := hf
  refine go_step kk (fun h0 h1 h2 => ?_)
  obtain ⟨i1, i2⟩ := rg_in h0 ho (by omega)
  have g1 := h0.2.1 o i1 i2
  refine ⟨okS_c (rd_ok (by have := g1.2.1 (by omega) k; rw [ho] at this; exact this) (h0.2.2.1 o k)) (okS_t h1), ?_⟩
  intro p l e R s m args below meth c H locs cells slots Qs D ad ca tys A H0 ls hE _ _ _ _ _ hm hv hl k9
  have hP := hm.2.1
  simp only [List.map_cons, vt_ref i1]
  refine va_get (D := D) (ci := ci) (C := cnm ci) (T := cT ci) (N := cN ci) hE.1 hE.2.1 hE.2.2.2.2.1 (cls_w hc) hE.2.2.2.1 hm.1 hP (o - 1) (by rw [wl_at i1 i2, ce_obj ho hc]) (cls_at hc) k hk (hE.2.2.2.2.1 _ hl9) (fun _ h => h) (v := fv ad (fk ci k) (F o k) (sR S o k)) (by simp [hk]) hd ?_
  rw [← rd_vt]
  exact k9
theorem go_getI {d : Nat} {M : AM} {pc : Nat} {L : AL} {st : List AV} {S : AS} {F : AF} {G : AG} {Q : AQ} {idx ci k o : Nat} (hd : decode M.2.1 pc = .ok (.getfield idx, 3)) (hf : zFl M.1.cls idx ci k) (ht : fk ci k = 0 ∨ fk ci k = 3) (ho : sK S o = ci) (kk : Go d M (pc + 3) L (vI (F o k) :: st) S F G Q) : Go d M pc L (vR o :: st) S F G Q :=
  go_get hd hf ho (by rcases ht with h | h <;> rw [h] <;> exact kk)
theorem go_getJ {d : Nat} {M : AM} {pc : Nat} {L : AL} {st : List AV} {S : AS} {F : AF} {G : AG} {Q : AQ} {idx ci k o : Nat} (hd : decode M.2.1 pc = .ok (.getfield idx, 3)) (hf : zFl M.1.cls idx ci k) (ht : fk ci k = 1) (ho : sK S o = ci) (kk : Go d M (pc + 3) L (vJ (F o k) :: st) S F G Q) : Go d M pc L (vR o :: st) S F G Q :=
  go_get hd hf ho (by rw [ht]; exact kk)
theorem go_getR {d : Nat} {M : AM} {pc : Nat} {L : AL} {st : List AV} {S : AS} {F : AF} {G : AG} {Q : AQ} {idx ci k o : Nat} (hd : decode M.2.1 pc = .ok (.getfield idx, 3)) (hf : zFl M.1.cls idx ci k) (ht : fk ci k = 2) (ho : sK S o = ci) (kk : Go d M (pc + 3) L (vR (sR S o k) :: st) S F G Q) : Go d M pc L (vR o :: st) S F G Q :=
  go_get hd hf ho (by rw [ht]; exact kk)
theorem mr_set {α : Type} (n k : Nat) (f : Nat → α) (v : α) : ((List.range n).map f).set k v = (List.range n).map (fun j => if j = k then v else f j) := by
  apply List.ext_getElem?
  intro j
  by_cases hj : j = k
  · subst hj
    rw [List.getElem?_set]
    simp only [if_true, List.length_map, List.length_range]
    by_cases h : j < n
    · simp [h]
    · simp [h]
  · rw [List.getElem?_set_ne (fun e => hj e.symm)]
    by_cases h : j < n
    · simp [h, hj]
    · simp [h]
theorem fu_s {F : AF} {c k : Nat} {z : Int} : fu F c k z c k = z := by simp [fu]
theorem fu_c {F : AF} {c k b j : Nat} {z : Int} (h : b ≠ c) : fu F c k z b j = F b j := by simp [fu, h]
theorem fu_k {F : AF} {c k b j : Nat} {z : Int} (h : j ≠ k) : fu F c k z b j = F b j := by simp [fu, h]
theorem gu_s {G : AG} {c : Nat} {i z : Int} : gu G c i z c i = z := by simp [gu]
theorem gu_c {G : AG} {c b : Nat} {i j z : Int} (h : b ≠ c) : gu G c i z b j = G b j := by simp [gu, h]
theorem gu_i {G : AG} {c b : Nat} {i j z : Int} (h : j ≠ i) : gu G c i z b j = G b j := by simp [gu, h]
theorem ce_fu {ad : Nat → Nat} {ca : Nat → ClassId} {S : AS} {F : AF} {G : AG} {o k b : Nat} {z : Int} (h : b ≠ o) : ce ad ca S (fu F o k z) G b = ce ad ca S F G b := by
  simp only [ce, fu_c h]
theorem ce_gu {ad : Nat → Nat} {ca : Nat → ClassId} {S : AS} {F : AF} {G : AG} {o b : Nat} {i z : Int} (h : b ≠ o) : ce ad ca S F (gu G o i z) b = ce ad ca S F G b := by
  simp only [ce, gu_c h]
theorem rg_fu {S : AS} {F : AF} {G : AG} (h : RG S F G) {o k : Nat} {z : Int} (hz : okF (fk (sK S o) k) z) : RG S (fu F o k z) G := by
  refine ⟨h.1, fun c h1 h2 => ?_, h.2.2⟩
  obtain ⟨a, b, c1⟩ := h.2.1 c h1 h2
  refine ⟨a, fun q j => ?_, c1⟩
  by_cases e : c = o ∧ j = k
  · obtain ⟨rfl, rfl⟩ := e
    rw [fu_s]
    exact hz
  · simp only [fu, if_neg e]
    exact b q j
theorem rg_gu {S : AS} {F : AF} {G : AG} (h : RG S F G) {o : Nat} {i z : Int} (hz : okA (sK S o) z) : RG S F (gu G o i z) := by
  refine ⟨h.1, fun c h1 h2 => ?_, h.2.2⟩
  obtain ⟨a, b, c1, c2⟩ := h.2.1 c h1 h2
  refine ⟨a, b, fun q j => ?_, c2⟩
  by_cases e : c = o ∧ j = i
  · obtain ⟨rfl, rfl⟩ := e
    rw [gu_s]
    exact hz
  · simp only [gu, if_neg e]
    exact c1 q j
theorem zOk_same {S : AS} {F : AF} {G : AG} (h : RG S F G) : zOk S none S F G := ⟨Nat.le_refl _, Nat.le_refl _, rfl, rfl, h, fun v hv => by cases hv⟩

/-- a field of numbers is written: the concrete value x is that of z -/
theorem go_putZ {d : Nat} {M : AM} {pc : Nat} {L : AL} {st : List AV} {S : AS} {F : AF} {G : AG} {Q : AQ} {idx ci k o : Nat} {v : AV} {z : Int} (hd : decode M.2.1 pc = .ok (.putfield idx, 3)) (hf : zFl M.1.cls idx ci k) (ht : fk ci k ≠ 2) (hn : (cT ci k).2.2.2 = false ∨ (M.1.name = "<init>" ∧ cnm ci = M.1.cls)) (ho : sK S o = ci) (hz : okF (fk ci k) z) (hvz : v = rd (fk ci k) z 0) (hnar : ∀ ad, narrow (cty ci k) (fv ad (fk ci k) z 0) = fv ad (fk ci k) z 0 ∧ fits (cty ci k) (fv ad (fk ci k) z 0) = true) (kk : Go d M (pc + 3) L st S (fu F o k z) G Q) : Go d M pc L (v :: vR o :: st) S F G Q := by
  obtain ⟨hc, hk, hl9⟩ := hf
  refine go_hp kk (fun h0 h1 h2 => ?_)
  obtain ⟨i1, i2⟩ := rg_in h0 ho (by omega)
  refine ⟨zOk_same (rg_fu h0 (by rw [ho]; exact hz)), okS_t (okS_t h1), ?_⟩
  intro p l e R s m args below meth c H locs cells slots Qs D ad ca tys A H0 ls hE _ _ _ _ _ hm hv hA hl k9
  have hP := hm.2.1
  simp only [List.map_cons, vt_ref i1, hvz, rd_vt]
  have hw : (wl ad ca S F G).set (o - 1) (ad o, .inr (ci, ((List.range (cN ci)).map (fun k => fv ad (fk ci k) (F o k) (sR S o k))).set k (fv ad (fk ci k) z 0))) = wl ad ca S (fu F o k z) G := by
    refine wl_set i1 i2 rfl ?_ (fun b hb => ce_fu hb)
    rw [ce_obj ho hc, mr_set]
    congr 2
    apply List.map_congr_left
    intro j _
    by_cases hj : j = k
    · subst hj
      rw [if_pos rfl, fu_s]
      revert ht
      cases fk ci j with
      | zero => intro _; rfl
      | succ n => cases n with
        | zero => intro _; rfl
        | succ n => cases n with
          | zero => intro h; exact absurd rfl h
          | succ n => intro _; rfl
    · rw [if_neg hj, fu_k hj]
  have fin : ∀ (H1 : Heap) (locs1 : List Loc), va_P D cls ((wl ad ca S F G).set (o - 1) (ad o, .inr (ci, ((List.range (cN ci)).map (fun k => fv ad (fk ci k) (F o k) (sR S o k))).set k (fv ad (fk ci k) z 0)))) H1 → va_D A ((wl ad ca S F G).set (o - 1) (ad o, .inr (ci, ((List.range (cN ci)).map (fun k => fv ad (fk ci k) (F o k) (sR S o k))).set k (fv ad (fk ci k) z 0)))) → va_S A H0 H1 locs1 → W p l e R s m args below meth c H1 locs1 cells slots Qs (F0 m (pc + 3) ls (st.map (vt ad))) := by
    intro H1 locs1 p1 p2 p3
    rw [hw] at p1 p2
    have := k9 H1 locs1 ad ca tys ⟨hm.1, p1, p2, hm.2.2.2⟩ ex_refl p3
    simpa only [Nat.sub_self, Nat.add_zero] using this
  rcases hn with hn | hn
  · exact va_put (D := D) (ci := ci) (C := cnm ci) (T := cT ci) (N := cN ci) hE.1 hE.2.1 hE.2.2.2.2.1 (cls_w hc) (cty ci) (cls_ty hc) (cls_nm hc) hE.2.2.2.1 hm.1 hP hm.2.2.1 hv (o - 1) (by rw [wl_at i1 i2, ce_obj ho hc]) (cls_at hc) k hk (hE.2.2.2.2.1 _ hl9) (fun _ h => h) hn (ty := cty ci k) (cls_ty hc k hk) (hnar ad).1 (hnar ad).2 (by simp [hk]) hd fin
  · by_cases hn2 : (cT ci k).2.2.2 = false
    · exact va_put (D := D) (ci := ci) (C := cnm ci) (T := cT ci) (N := cN ci) hE.1 hE.2.1 hE.2.2.2.2.1 (cls_w hc) (cty ci) (cls_ty hc) (cls_nm hc) hE.2.2.2.1 hm.1 hP hm.2.2.1 hv (o - 1) (by rw [wl_at i1 i2, ce_obj ho hc]) (cls_at hc) k hk (hE.2.2.2.2.1 _ hl9) (fun _ h => h) hn2 (ty := cty ci k) (cls_ty hc k hk) (hnar ad).1 (hnar ad).2 (by simp [hk]) hd fin
    · exact va_putF (D := D) (ci := ci) (C := cnm ci) (T := cT ci) (N := cN ci) hE.1 hE.2.1 hE.2.2.2.2.1 (cls_w hc) (cty ci) (cls_ty hc) (cls_nm hc) hE.2.2.2.1 hm.1 hP hm.2.2.1 hv (o - 1) (by rw [wl_at i1 i2, ce_obj ho hc]) (cls_at hc) k hk (hE.2.2.2.2.1 _ hl9) (fun _ h => h) (by simpa using hn2) (hE.2.2.2.2.2.2.2.1 hn.1) ((cls_own hc k hk).trans hn.2) (ty := cty ci k) (cls_ty hc k hk) (hnar ad).1 (hnar ad).2 (by simp [hk]) hd fin
theorem go_putI {d : Nat} {M : AM} {pc : Nat} {L : AL} {st : List AV} {S : AS} {F : AF} {G : AG} {Q : AQ} {idx ci k o : Nat} {z : Int} (hd : decode M.2.1 pc = .ok (.putfield idx, 3)) (hf : zFl M.1.cls idx ci k) (ht : cty ci k = .int) (hn : (cT ci k).2.2.2 = false ∨ (M.1.name = "<init>" ∧ cnm ci = M.1.cls)) (ho : sK S o = ci) (kk : Go d M (pc + 3) L st S (fu F o k z) G Q) : Go d M pc L (vI z :: vR o :: st) S F G Q :=
  go_rg (fun _ h1 _ => go_putZ hd hf (by simp only [fk, ht, fkOf]; omega) hn ho (by simp only [fk, ht, fkOf]; exact okS_h h1) (by simp only [fk, ht, fkOf, rd]) (fun ad => by simp only [fk, ht, fkOf, fv]; exact ⟨rfl, rfl⟩) kk)
theorem go_putJ {d : Nat} {M : AM} {pc : Nat} {L : AL} {st : List AV} {S : AS} {F : AF} {G : AG} {Q : AQ} {idx ci k o : Nat} {z : Int} (hd : decode M.2.1 pc = .ok (.putfield idx, 3)) (hf : zFl M.1.cls idx ci k) (ht : cty ci k = .long) (hn : (cT ci k).2.2.2 = false ∨ (M.1.name = "<init>" ∧ cnm ci = M.1.cls)) (ho : sK S o = ci) (kk : Go d M (pc + 3) L st S (fu F o k z) G Q) : Go d M pc L (vJ z :: vR o :: st) S F G Q :=
  go_rg (fun _ h1 _ => go_putZ hd hf (by simp only [fk, ht, fkOf]; omega) hn ho (by simp only [fk, ht, fkOf]; exact okS_h h1) (by simp only [fk, ht, fkOf, rd]) (fun ad => by simp only [fk, ht, fkOf, fv]; exact ⟨rfl, rfl⟩) kk)
theorem go_putB {d : Nat} {M : AM} {pc : Nat} {L : AL} {st : List AV} {S : AS} {F : AF} {G : AG} {Q : AQ} {idx ci k o : Nat} {z : Int} (hd : decode M.2.1 pc = .ok (.putfield idx, 3)) (hf : zFl M.1.cls idx ci k) (ht : cty ci k = .boolean) (hn : (cT ci k).2.2.2 = false ∨ (M.1.name = "<init>" ∧ cnm ci = M.1.cls)) (ho : sK S o = ci) (hz : z = 0 ∨ z = 1) (kk : Go d M (pc + 3) L st S (fu F o k z) G Q) : Go d M pc L (vI z :: vR o :: st) S F G Q :=
  go_putZ hd hf (by simp only [fk, ht, fkOf]; omega) hn ho (by simp only [fk, ht, fkOf]; exact hz) (by simp only [fk, ht, fkOf, rd]) (fun ad => by simp only [fk, ht, fkOf, fv]; rcases hz with rfl | rfl <;> exact ⟨rfl, rfl⟩) kk

