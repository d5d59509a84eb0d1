/-! REFERENCES WRITTEN, ROWS COPIED -/
theorem ru_s {S : AS} {c k r : Nat} : sR (ru S c k r) c k = r := by simp [ru, sR]
theorem ru_c {S : AS} {c k r b j : Nat} (h : b ≠ c) : sR (ru S c k r) b j = sR S b j := by simp [ru, sR, h]
theorem ru_k {S : AS} {c k r b j : Nat} (h : j ≠ k) : sR (ru S c k r) b j = sR S b j := by simp [ru, sR, h]
theorem rg_ru {S : AS} {F : AF} {G : AG} (h : RG S F G) {o k r : Nat} (hr : r ≤ sn S) : RG (ru S o k r) F G := by
  refine ⟨h.1, h.2.1, fun c j => ?_, h.2.2.2⟩
  show (if c = o ∧ j = k then r else sR S c j) ≤ sn S
  split
  · exact hr
  · exact h.2.2.1 c j
theorem zOk_ru {S : AS} {F : AF} {G : AG} (h : RG S F G) {o k r : Nat} (hr : r ≤ sn S) : zOk S none (ru S o k r) F G := ⟨Nat.le_refl _, Nat.le_refl _, rfl, rfl, rg_ru h hr, fun v hv => by cases hv⟩
theorem ce_ru {ad : Nat → Nat} {ca : Nat → ClassId} {S : AS} {F : AF} {G : AG} {o k b r : Nat} (h : b ≠ o) : ce ad ca (ru S o k r) F G b = ce ad ca S F G b := by
  have e1 : sK (ru S o k r) b = sK S b := rfl
  have e2 : sN (ru S o k r) b = sN S b := rfl
  simp only [ce, ru_c h, e1, e2]
theorem go_putR {d : Nat} {M : AM} {pc : Nat} {L : AL} {st : List AV} {S : AS} {F : AF} {G : AG} {Q : AQ} {idx ci k o r : Nat} (hd : decode M.2.1 pc = .ok (.putfield idx, 3)) (hf : zFl M.1.cls idx ci k) (ht : fk ci k = 2) (hn : (cT ci k).2.2.2 = false ∨ (M.1.name = "<init>" ∧ cnm ci = M.1.cls)) (ho : sK S o = ci) (hrn : r ≤ sn S) (kk : Go d M (pc + 3) L st (ru S o k r) F G Q) : Go d M pc L (vR r :: vR o :: st) S F G Q := by
  obtain ⟨hc, hk, hl9⟩ := hf
  refine go_hp kk (fun h0 h1 h2 => ?_)
  obtain ⟨i1, i2⟩ := rg_in h0 ho (by omega)
  refine ⟨zOk_ru h0 hrn, okS_t (okS_t h1), ?_⟩
  intro p l e R s m args below meth c H locs cells slots Qs D ad ca tys A H0 ls hE hsc hfr hlo hce hsl hm hv hA hl k9
  have hP := hm.2.1
  simp only [List.map_cons, vt_ref i1]
  have hw : (wl ad ca S F G).set (o - 1) (ad o, .inr (ci, ((List.range (cN ci)).map (fun k => fv ad (fk ci k) (F o k) (sR S o k))).set k (vt ad (vR r)))) = wl ad ca (ru S o k r) F G := by
    refine wl_set (S' := ru S o k r) i1 i2 rfl ?_ (fun b hb => ce_ru hb)
    rw [ce_obj (S := ru S o k r) ho hc, mr_set]
    congr 2
    apply List.map_congr_left
    intro j _
    by_cases hj : j = k
    · subst hj
      rw [if_pos rfl, ru_s, ht]
      rfl
    · rw [if_neg hj, ru_k hj]
  have fin : ∀ (H1 : Heap) (locs1 : List Loc), va_P D cls ((wl ad ca S F G).set (o - 1) (ad o, .inr (ci, ((List.range (cN ci)).map (fun k => fv ad (fk ci k) (F o k) (sR S o k))).set k (vt ad (vR r))))) H1 → va_D A ((wl ad ca S F G).set (o - 1) (ad o, .inr (ci, ((List.range (cN ci)).map (fun k => fv ad (fk ci k) (F o k) (sR S o k))).set k (vt ad (vR r))))) → va_S A H0 H1 locs1 → W p l e R s m args below meth c H1 locs1 cells slots Qs (F0 m (pc + 3) ls (st.map (vt ad))) := by
    intro H1 locs1 p1 p2 p3
    rw [hw] at p1 p2
    have := k9 H1 locs1 ad ca tys ⟨hm.1, p1, p2, hm.2.2.2⟩ ex_refl p3
    have e1 : sn (ru S o k r) - sn S = 0 := Nat.sub_self _
    have e2 : ss (ru S o k r) - ss S = 0 := Nat.sub_self _
    simpa only [e1, e2, Nat.add_zero] using this
  have hnar : narrow (cty ci k) (vt ad (vR r)) = vt ad (vR r) ∧ fits (cty ci k) (vt ad (vR r)) = true := by
    simp only [fk] at ht
    revert ht
    generalize cty ci k = ty
    intro ht
    simp only [vt, rf]
    cases ty <;> simp only [fkOf] at ht <;> first | omega | (split <;> exact ⟨rfl, rfl⟩)
  by_cases hn2 : (cT ci k).2.2.2 = false
  · exact va_put (D := D) (ci := ci) (C := cnm ci) (T := cT ci) (N := cN ci) hE.1 hE.2.1 hE.2.2.2.2.1 (cls_w hc) (cty ci) (cls_ty hc) (cls_nm hc) hE.2.2.2.1 hm.1 hP hm.2.2.1 hv (o - 1) (by rw [wl_at i1 i2, ce_obj ho hc]) (cls_at hc) k hk (hE.2.2.2.2.1 _ hl9) (fun _ h => h) hn2 (ty := cty ci k) (cls_ty hc k hk) hnar.1 hnar.2 (by simp [hk]) hd fin
  · have hn3 := hn.resolve_left hn2
    exact va_putF (D := D) (ci := ci) (C := cnm ci) (T := cT ci) (N := cN ci) hE.1 hE.2.1 hE.2.2.2.2.1 (cls_w hc) (cty ci) (cls_ty hc) (cls_nm hc) hE.2.2.2.1 hm.1 hP hm.2.2.1 hv (o - 1) (by rw [wl_at i1 i2, ce_obj ho hc]) (cls_at hc) k hk (hE.2.2.2.2.1 _ hl9) (fun _ h => h) (by simpa using hn2) (hE.2.2.2.2.2.2.2.1 hn3.1) ((cls_own hc k hk).trans hn3.2) (ty := cty ci k) (cls_ty hc k hk) hnar.1 hnar.2 (by simp [hk]) hd fin
theorem go_aastore {d : Nat} {M : AM} {pc : Nat} {L : AL} {st : List AV} {S : AS} {F : AF} {G : AG} {Q : AQ} {o r ci : Nat} {i : Int} (hd : decode M.2.1 pc = .ok (.aastore, 1)) (ho : sK S o = 24 ∨ sK S o = 25) (hr : sK S r = ci) (hc : ci < 11) (hty : aty (sK S o) = .object (cnm ci)) (h0i : 0 ≤ i) (h1i : i < sN S o) (kk : Go d M (pc + 1) L st (ru S o i.toNat r) F G Q) : Go d M pc L (vR r :: vI i :: vR o :: st) S F G Q := by
  refine go_hp kk (fun h0 h1 h2 => ?_)
  obtain ⟨i1, i2⟩ := rg_in h0 rfl (show sK S o < 99 by omega)
  obtain ⟨j1, j2⟩ := rg_in h0 hr (by omega)
  have hi : r32 i := okS_h (okS_t h1)
  refine ⟨zOk_ru h0 j2, okS_t (okS_t (okS_t h1)), ?_⟩
  intro p l e R s m args below meth c H locs cells slots Qs D ad ca tys A H0 ls hE hsc hfr hlo hce hsl hm hv hA hl k9
  simp only [List.map_cons, vt_ref i1, vt_ref j1]
  obtain ⟨t0, ht0⟩ := hm.2.2.2 o i1 i2 (by omega)
  rw [hty] at ht0
  have en : (Int32.ofInt i).toNatClampNeg = i.toNat := by rw [← Int32.toNat_toInt, zi_t hi]
  have hw : (wl ad ca S F G).set (o - 1) (ad o, .inl (ca o, sN S o, .inr (.inr (.inr (.inr (va_up (fun j => rf ad (sR S o j)) (Int32.ofInt i).toNatClampNeg (some (ad r)))))))) = wl ad ca (ru S o i.toNat r) F G := by
    refine wl_set (S' := ru S o i.toNat r) i1 i2 rfl ?_ (fun b hb => ce_ru hb)
    rw [ce_row (S := ru S o i.toNat r) ho]
    have : (fun j => rf ad (sR (ru S o i.toNat r) o j)) = va_up (fun j => rf ad (sR S o j)) (Int32.ofInt i).toNatClampNeg (some (ad r)) := by
      funext j
      simp only [va_up, en]
      by_cases hj : j = i.toNat
      · rw [if_pos hj, hj, ru_s]
        have : ¬ r = 0 := by omega
        simp only [rf, if_neg this]
      · rw [if_neg hj, ru_k hj]
    rw [this]
    rfl
  refine va_astq hE.1 hE.2.1 hm.1 hm.2.1 hm.2.2.1 hv (o - 1) t0 (r - 1) ci (r := (cnm ci, cT ci, cN ci)) (by rw [wl_at i1 i2, ce_row ho]) ht0 (by rw [wl_at j1 j2, ce_obj hr hc]) (cls_at hc) (zi_in hi h0i h1i) hd (fun H1 locs1 p1 p2 p3 => ?_)
  rw [hw] at p1 p2
  have := k9 H1 locs1 ad ca tys ⟨hm.1, p1, p2, hm.2.2.2⟩ ex_refl p3
  have e1 : sn (ru S o i.toNat r) - sn S = 0 := Nat.sub_self _
  have e2 : ss (ru S o i.toNat r) - ss S = 0 := Nat.sub_self _
  simpa only [e1, e2, Nat.add_zero] using this
def gcp (G : AG) (a b : Nat) (sp dp n : Int) : AG := fun c j => if c = b ∧ dp ≤ j ∧ j < dp + n then G a (sp + (j - dp)) else G c j
theorem gcp_c {G : AG} {a b c : Nat} {sp dp n j : Int} (h : c ≠ b) : gcp G a b sp dp n c j = G c j := by simp [gcp, h]
theorem rg_gcp {S : AS} {F : AF} {G : AG} (h : RG S F G) {a b : Nat} {sp dp n : Int} (hab : sK S a = sK S b) (h20 : 20 ≤ sK S a) (h25 : sK S a ≤ 25) : RG S F (gcp G a b sp dp n) := by
  refine ⟨h.1, fun c h1 h2 => ?_, h.2.2⟩
  obtain ⟨x1, x2, x3, x4⟩ := h.2.1 c h1 h2
  refine ⟨x1, x2, fun q j => ?_, x4⟩
  simp only [gcp]
  split
  · rename_i hq
    obtain ⟨i1, i2⟩ := rg_in h rfl (show sK S a < 99 by omega)
    have := (h.2.1 a i1 i2).2.2.1 h20 (sp + (j - dp))
    rw [hq.1, ← hab]
    exact this
  · exact x3 q j

theorem go_copyI {d : Nat} {M : AM} {pc : Nat} {L : AL} {st : List AV} {S : AS} {F : AF} {G : AG} {Q : AQ} {idx a b : Nat} {sp dp n : Int} (hd : decode M.2.1 pc = .ok (.invokestatic idx, 3)) (hw1 : Cond.methodLink M.1.cls idx arraycopyName ∈ lw_good) (hw2 : Cond.native arraycopyName ∈ lw_good) (hw3 : Cond.static arraycopyName ∈ lw_good) (hw4 : Cond.initialized "java/lang/System" ∈ lw_good) (hka : sK S a = 20) (hkb : sK S b = 20) (hsp : 0 ≤ sp) (hdp : 0 ≤ dp) (hn0 : 0 ≤ n) (hn1 : sp + n ≤ sN S a) (hn2 : dp + n ≤ sN S b) (hs : cs st ≤ 8) (hd1 : 1 ≤ d) (kk : Go d M (pc + 3) L st S F (gcp G a b sp dp n) Q) : Go d M pc L (vI n :: vI dp :: vR b :: vI sp :: vR a :: st) S F G Q := by
  refine go_hp kk (fun h0 h1 h2 => ?_)
  obtain ⟨i1, i2⟩ := rg_in h0 hka (by omega)
  obtain ⟨j1, j2⟩ := rg_in h0 hkb (by omega)
  refine ⟨zOk_same (rg_gcp h0 (hka.trans hkb.symm) (by omega) (by omega)), okS_t (okS_t (okS_t (okS_t (okS_t h1)))), ?_⟩
  have rn : r32 n := okS_h h1
  have rdp : r32 dp := okS_h (okS_t h1)
  have rsp : r32 sp := okS_h (okS_t (okS_t (okS_t h1)))
  intro p l e R s m args below meth c H locs cells slots Qs D ad ca tys A H0 ls hE hsc hfr hlo hce hsl hm hv hA hl k9
  simp only [List.map_cons, vt_ref i1, vt_ref j1]
  obtain ⟨t0, ht0⟩ := hm.2.2.2 a i1 i2 (by omega)
  obtain ⟨t1, ht1⟩ := hm.2.2.2 b j1 j2 (by omega)
  rw [hka] at ht0
  rw [hkb] at ht1
  have en := zi_n rn hn0
  have ed := zi_n rdp hdp
  have es := zi_n rsp hsp
  have hc9 := cs_vt (ad := ad) st
  have hw : (wl ad ca S F G).set (b - 1) (ad b, .inl (ca b, sN S b, .inl (va_cpy (fun j => Int32.ofInt (G a j)) (fun j => Int32.ofInt (G b j)) (Int32.ofInt sp).toNatClampNeg (Int32.ofInt dp).toNatClampNeg (Int32.ofInt n).toNatClampNeg))) = wl ad ca S F (gcp G a b sp dp n) := by
    refine wl_set j1 j2 rfl ?_ (fun c hc => by simp only [ce, gcp_c hc])
    rw [ce_int (Or.inl hkb)]
    have : (fun j : Nat => Int32.ofInt (gcp G a b sp dp n b j)) = va_cpy (fun j => Int32.ofInt (G a j)) (fun j => Int32.ofInt (G b j)) (Int32.ofInt sp).toNatClampNeg (Int32.ofInt dp).toNatClampNeg (Int32.ofInt n).toNatClampNeg := by
      funext j
      simp only [va_cpy, gcp]
      by_cases hj : (Int32.ofInt dp).toNatClampNeg ≤ j ∧ j < (Int32.ofInt dp).toNatClampNeg + (Int32.ofInt n).toNatClampNeg
      · rw [if_pos hj, if_pos ⟨trivial, by omega, by omega⟩]
        congr 2
        omega
      · rw [if_neg hj, if_neg (fun q => hj (by omega))]
    rw [this]
  refine va_copyi (ty := aty 20) hE.1 hE.2.1 (hE.2.2.1.trans hl.1.symm) hE.2.2.2.1 (hE.2.2.2.2.1 _ hw1) (hE.2.2.2.2.1 _ hw2) (hE.2.2.2.2.1 _ hw3) (hE.2.2.2.2.1 _ hw4) hm.1 hm.2.1 hm.2.2.1 hv (a - 1) (b - 1) t0 t1 (by rw [wl_at i1 i2, ce_int (Or.inl hka)]) (by rw [wl_at j1 j2, ce_int (Or.inl hkb)]) ht0 ht1 rfl (zi_neg rsp hsp) (zi_neg rdp hdp) (zi_neg rn hn0) (by omega) (by omega) (fun i _ => rfl) (by omega) (by
    have : nativeFrameWords "java/lang/System" "arraycopy" 5 = 7 := by decide
    omega) hd (fun H1 locs1 p1 p2 p3 => ?_)
  rw [hw] at p1 p2
  have := k9 H1 locs1 ad ca tys ⟨hm.1, p1, p2, hm.2.2.2⟩ ex_refl p3
  simpa only [Nat.sub_self, Nat.add_zero] using this
theorem go_copyJ {d : Nat} {M : AM} {pc : Nat} {L : AL} {st : List AV} {S : AS} {F : AF} {G : AG} {Q : AQ} {idx a b : Nat} {sp dp n : Int} (hd : decode M.2.1 pc = .ok (.invokestatic idx, 3)) (hw1 : Cond.methodLink M.1.cls idx arraycopyName ∈ lw_good) (hw2 : Cond.native arraycopyName ∈ lw_good) (hw3 : Cond.static arraycopyName ∈ lw_good) (hw4 : Cond.initialized "java/lang/System" ∈ lw_good) (hka : sK S a = 21) (hkb : sK S b = 21) (hsp : 0 ≤ sp) (hdp : 0 ≤ dp) (hn0 : 0 ≤ n) (hn1 : sp + n ≤ sN S a) (hn2 : dp + n ≤ sN S b) (hs : cs st ≤ 8) (hd1 : 1 ≤ d) (kk : Go d M (pc + 3) L st S F (gcp G a b sp dp n) Q) : Go d M pc L (vI n :: vI dp :: vR b :: vI sp :: vR a :: st) S F G Q := by
  refine go_hp kk (fun h0 h1 h2 => ?_)
  obtain ⟨i1, i2⟩ := rg_in h0 hka (by omega)
  obtain ⟨j1, j2⟩ := rg_in h0 hkb (by omega)
  refine ⟨zOk_same (rg_gcp h0 (hka.trans hkb.symm) (by omega) (by omega)), okS_t (okS_t (okS_t (okS_t (okS_t h1)))), ?_⟩
  have rn : r32 n := okS_h h1
  have rdp : r32 dp := okS_h (okS_t h1)
  have rsp : r32 sp := okS_h (okS_t (okS_t (okS_t h1)))
  intro p l e R s m args below meth c H locs cells slots Qs D ad ca tys A H0 ls hE hsc hfr hlo hce hsl hm hv hA hl k9
  simp only [List.map_cons, vt_ref i1, vt_ref j1]
  obtain ⟨t0, ht0⟩ := hm.2.2.2 a i1 i2 (by omega)
  obtain ⟨t1, ht1⟩ := hm.2.2.2 b j1 j2 (by omega)
  rw [hka] at ht0
  rw [hkb] at ht1
  have en := zi_n rn hn0
  have ed := zi_n rdp hdp
  have es := zi_n rsp hsp
  have hc9 := cs_vt (ad := ad) st
  have hw : (wl ad ca S F G).set (b - 1) (ad b, .inl (ca b, sN S b, .inr (.inl (va_cpy (fun j => Int64.ofInt (G a j)) (fun j => Int64.ofInt (G b j)) (Int32.ofInt sp).toNatClampNeg (Int32.ofInt dp).toNatClampNeg (Int32.ofInt n).toNatClampNeg)))) = wl ad ca S F (gcp G a b sp dp n) := by
    refine wl_set j1 j2 rfl ?_ (fun c hc => by simp only [ce, gcp_c hc])
    rw [ce_long hkb]
    have : (fun j : Nat => Int64.ofInt (gcp G a b sp dp n b j)) = va_cpy (fun j => Int64.ofInt (G a j)) (fun j => Int64.ofInt (G b j)) (Int32.ofInt sp).toNatClampNeg (Int32.ofInt dp).toNatClampNeg (Int32.ofInt n).toNatClampNeg := by
      funext j
      simp only [va_cpy, gcp]
      by_cases hj : (Int32.ofInt dp).toNatClampNeg ≤ j ∧ j < (Int32.ofInt dp).toNatClampNeg + (Int32.ofInt n).toNatClampNeg
      · rw [if_pos hj, if_pos ⟨trivial, by omega, by omega⟩]
        congr 2
        omega
      · rw [if_neg hj, if_neg (fun q => hj (by omega))]
    rw [this]
  refine va_copyl (ty := aty 21) hE.1 hE.2.1 (hE.2.2.1.trans hl.1.symm) hE.2.2.2.1 (hE.2.2.2.2.1 _ hw1) (hE.2.2.2.2.1 _ hw2) (hE.2.2.2.2.1 _ hw3) (hE.2.2.2.2.1 _ hw4) hm.1 hm.2.1 hm.2.2.1 hv (a - 1) (b - 1) t0 t1 (by rw [wl_at i1 i2, ce_long hka]) (by rw [wl_at j1 j2, ce_long hkb]) ht0 ht1 rfl (zi_neg rsp hsp) (zi_neg rdp hdp) (zi_neg rn hn0) (by omega) (by omega) (fun i _ => rfl) (by omega) (by
    have : nativeFrameWords "java/lang/System" "arraycopy" 5 = 7 := by decide
    omega) hd (fun H1 locs1 p1 p2 p3 => ?_)
  rw [hw] at p1 p2
  have := k9 H1 locs1 ad ca tys ⟨hm.1, p1, p2, hm.2.2.2⟩ ex_refl p3
  simpa only [Nat.sub_self, Nat.add_zero] using this
