/-! ROWS -/
def cs (st : List AV) : Nat := (st.map (fun v => bif isJ (some v) then 2 else 1)).sum
theorem cs_vt {ad : Nat → Nat} (st : List AV) : ((st.map (vt ad)).map fun v => v.category).sum = cs st := by
  simp only [cs, List.map_map]
  congr 1
  apply List.map_congr_left
  intro v _
  match v with
  | .inl z => rfl
  | .inr (.inl z) => rfl
  | .inr (.inr r) =>
    simp only [Function.comp, vt, rf]
    split <;> rfl
theorem zi_n {i : Int} (h : r32 i) (h0 : 0 ≤ i) : (((Int32.ofInt i).toNatClampNeg : Nat) : Int) = i := by
  rw [← Int32.toNat_toInt, zi_t h]
  omega
theorem zi_in {i : Int} (h : r32 i) {n : Nat} (h0 : 0 ≤ i) (h1 : i < n) : vp_in (Int32.ofInt i) n := by
  rw [vp_in_iff, zi_t h]
  exact ⟨h0, h1⟩
theorem zi_neg {i : Int} (h : r32 i) (h0 : 0 ≤ i) : ¬ Int32.ofInt i < 0 := by
  rw [zi_0, zi_lt h zr0]
  omega
theorem gu_fun32 {G : AG} {o : Nat} {i z : Int} (h : r32 i) (h0 : 0 ≤ i) : (fun j : Nat => Int32.ofInt (gu G o i z o j)) = upd (fun j => Int32.ofInt (G o j)) (Int32.ofInt i).toNatClampNeg (Int32.ofInt z) := by
  funext j
  simp only [upd]
  have e := zi_n h h0
  by_cases hj : j = (Int32.ofInt i).toNatClampNeg
  · rw [if_pos hj, hj, e, gu_s]
  · rw [if_neg hj, gu_i (by omega)]
theorem gu_fun64 {G : AG} {o : Nat} {i z : Int} (h : r32 i) (h0 : 0 ≤ i) : (fun j : Nat => Int64.ofInt (gu G o i z o j)) = vp_updL (fun j => Int64.ofInt (G o j)) (Int32.ofInt i).toNatClampNeg (Int64.ofInt z) := by
  funext j
  simp only [vp_updL]
  have e := zi_n h h0
  by_cases hj : j = (Int32.ofInt i).toNatClampNeg
  · rw [if_pos hj, hj, e, gu_s]
  · rw [if_neg hj, gu_i (by omega)]
theorem zb_nar {z : Int} (h : -128 ≤ z ∧ z < 128) : vp_nar .byte (Int32.ofInt z) = Int32.ofInt z := by
  rw [vp_nar_byte, ← Int32.toInt_inj, Int8.toInt_toInt32, Int32.toInt_toInt8, zi_t (by omega)]
  exact Int.bmod_eq_of_le (by omega) (by omega)
theorem zz_nar {z : Int} (h : z = 0 ∨ z = 1) : vp_nar .boolean (Int32.ofInt z) = Int32.ofInt z := by
  rcases h with rfl | rfl <;> rfl

theorem go_iaload {d : Nat} {M : AM} {pc : Nat} {L : AL} {st : List AV} {S : AS} {F : AF} {G : AG} {Q : AQ} {o : Nat} {i : Int} (hd : decode M.2.1 pc = .ok (.iaload, 1)) (ho : sK S o = 20) (h0i : 0 ≤ i) (h1i : i < sN S o) (kk : Go d M (pc + 1) L (vI (G o i) :: st) S F G Q) : Go d M pc L (vI i :: vR o :: st) S F G Q := by
  refine go_step kk (fun h0 h1 h2 => ?_)
  obtain ⟨i1, i2⟩ := rg_in h0 ho (by omega)
  have g2 := (h0.2.1 o i1 i2).2.2.1 (by omega)
  rw [ho] at g2
  refine ⟨okS_c (g2 i) (okS_t (okS_t h1)), ?_⟩
  intro p l e R s m args below meth c H locs cells slots Qs D ad ca tys A H0 ls hE hsc _ _ _ _ hm hv hl k9
  simp only [List.map_cons, vt_ref i1]
  obtain ⟨t0, ht0⟩ := hm.2.2.2 o i1 i2 (by omega)
  rw [ho] at ht0
  refine va_iald hE.1 hE.2.1 hm.1 hm.2.1 (o - 1) t0 (by rw [wl_at i1 i2, ce_int (Or.inl ho)]) ht0 (zi_in (okS_h h1) h0i h1i) hd ?_
  have e := zi_n (okS_h h1) h0i
  simp only [e]
  exact k9
theorem go_laload {d : Nat} {M : AM} {pc : Nat} {L : AL} {st : List AV} {S : AS} {F : AF} {G : AG} {Q : AQ} {o : Nat} {i : Int} (hd : decode M.2.1 pc = .ok (.laload, 1)) (ho : sK S o = 21) (h0i : 0 ≤ i) (h1i : i < sN S o) (kk : Go d M (pc + 1) L (vJ (G o i) :: st) S F G Q) : Go d M pc L (vI i :: vR o :: st) S F G Q := by
  refine go_step kk (fun h0 h1 h2 => ?_)
  obtain ⟨i1, i2⟩ := rg_in h0 ho (by omega)
  have g2 := (h0.2.1 o i1 i2).2.2.1 (by omega)
  rw [ho] at g2
  refine ⟨okS_c (g2 i) (okS_t (okS_t h1)), ?_⟩
  intro p l e R s m args below meth c H locs cells slots Qs D ad ca tys A H0 ls hE hsc _ _ _ _ hm hv hl k9
  simp only [List.map_cons, vt_ref i1]
  obtain ⟨t0, ht0⟩ := hm.2.2.2 o i1 i2 (by omega)
  rw [ho] at ht0
  refine va_lald hE.1 hE.2.1 hm.1 hm.2.1 (o - 1) t0 (by rw [wl_at i1 i2, ce_long ho]) ht0 (zi_in (okS_h h1) h0i h1i) hd ?_
  have e := zi_n (okS_h h1) h0i
  simp only [e]
  exact k9
theorem go_baload {d : Nat} {M : AM} {pc : Nat} {L : AL} {st : List AV} {S : AS} {F : AF} {G : AG} {Q : AQ} {o : Nat} {i : Int} (hd : decode M.2.1 pc = .ok (.baload, 1)) (ho : sK S o = 22) (h0i : 0 ≤ i) (h1i : i < sN S o) (kk : Go d M (pc + 1) L (vI (G o i) :: st) S F G Q) : Go d M pc L (vI i :: vR o :: st) S F G Q := by
  refine go_step kk (fun h0 h1 h2 => ?_)
  obtain ⟨i1, i2⟩ := rg_in h0 ho (by omega)
  have g2 := (h0.2.1 o i1 i2).2.2.1 (by omega)
  rw [ho] at g2
  refine ⟨okS_c (by have := g2 i; simp only [okA] at this; simp only [okV, r32]; simp at this; omega) (okS_t (okS_t h1)), ?_⟩
  intro p l e R s m args below meth c H locs cells slots Qs D ad ca tys A H0 ls hE hsc _ _ _ _ hm hv hl k9
  simp only [List.map_cons, vt_ref i1]
  obtain ⟨t0, ht0⟩ := hm.2.2.2 o i1 i2 (by omega)
  rw [ho] at ht0
  refine va_bald hE.1 hE.2.1 hm.1 hm.2.1 (o - 1) t0 (by rw [wl_at i1 i2, ce_int (Or.inr (Or.inl ho))]) ht0 (zi_in (okS_h h1) h0i h1i) hd ?_
  have e := zi_n (okS_h h1) h0i
  simp only [e]
  exact k9
theorem go_zaload {d : Nat} {M : AM} {pc : Nat} {L : AL} {st : List AV} {S : AS} {F : AF} {G : AG} {Q : AQ} {o : Nat} {i : Int} (hd : decode M.2.1 pc = .ok (.baload, 1)) (ho : sK S o = 23) (h0i : 0 ≤ i) (h1i : i < sN S o) (kk : Go d M (pc + 1) L (vI (G o i) :: st) S F G Q) : Go d M pc L (vI i :: vR o :: st) S F G Q := by
  refine go_step kk (fun h0 h1 h2 => ?_)
  obtain ⟨i1, i2⟩ := rg_in h0 ho (by omega)
  have g2 := (h0.2.1 o i1 i2).2.2.1 (by omega)
  rw [ho] at g2
  refine ⟨okS_c (by have := g2 i; simp only [okA] at this; simp only [okV, r32]; simp at this; omega) (okS_t (okS_t h1)), ?_⟩
  intro p l e R s m args below meth c H locs cells slots Qs D ad ca tys A H0 ls hE hsc _ _ _ _ hm hv hl k9
  simp only [List.map_cons, vt_ref i1]
  obtain ⟨t0, ht0⟩ := hm.2.2.2 o i1 i2 (by omega)
  rw [ho] at ht0
  refine va_zald hE.1 hE.2.1 hm.1 hm.2.1 (o - 1) t0 (by rw [wl_at i1 i2, ce_int (Or.inr (Or.inr ho))]) ht0 (zi_in (okS_h h1) h0i h1i) hd ?_
  have e := zi_n (okS_h h1) h0i
  simp only [e]
  exact k9
theorem go_iastore {d : Nat} {M : AM} {pc : Nat} {L : AL} {st : List AV} {S : AS} {F : AF} {G : AG} {Q : AQ} {o : Nat} {i z : Int} (hd : decode M.2.1 pc = .ok (.iastore, 1)) (ho : sK S o = 20) (h0i : 0 ≤ i) (h1i : i < sN S o)  (kk : Go d M (pc + 1) L st S F (gu G o i z) Q) : Go d M pc L (vI z :: vI i :: vR o :: st) S F G Q := by
  refine go_hp kk (fun h0 h1 h2 => ?_)
  obtain ⟨i1, i2⟩ := rg_in h0 ho (by omega)
  have hi : r32 i := okS_h (okS_t h1)
  refine ⟨zOk_same (rg_gu h0 (by rw [ho]; exact okS_h h1)), okS_t (okS_t (okS_t h1)), ?_⟩
  intro p l e R s m args below meth c H locs cells slots Qs D ad ca tys A H0 ls hE hsc hfr hlo _ _ hm hv hA hl k9
  simp only [List.map_cons, vt_ref i1]
  obtain ⟨t0, ht0⟩ := hm.2.2.2 o i1 i2 (by omega)
  rw [ho] at ht0
  have hw : (wl ad ca S F G).set (o - 1) (ad o, .inl (ca o, sN S o, .inl (upd (fun j => Int32.ofInt (G o j)) (Int32.ofInt i).toNatClampNeg (Int32.ofInt z)))) = wl ad ca S F (gu G o i z) := by
    refine wl_set i1 i2 rfl ?_ (fun b hb => ce_gu hb)
    rw [ce_int (Or.inl ho), gu_fun32 hi h0i]
  refine va_iast hE.1 hE.2.1 hm.1 hm.2.1 hm.2.2.1 hv (o - 1) t0 (by rw [wl_at i1 i2, ce_int (Or.inl ho)]) ht0 (zi_in hi h0i h1i) hd (fun H1 locs1 p1 p2 p3 => ?_)
  · rw [hw] at p1 p2
    have := k9 H1 locs1 ad ca tys ⟨hm.1, p1, p2, hm.2.2.2⟩ ex_refl p3
    simpa only [Nat.sub_self, Nat.add_zero] using this
theorem go_lastore {d : Nat} {M : AM} {pc : Nat} {L : AL} {st : List AV} {S : AS} {F : AF} {G : AG} {Q : AQ} {o : Nat} {i z : Int} (hd : decode M.2.1 pc = .ok (.lastore, 1)) (ho : sK S o = 21) (h0i : 0 ≤ i) (h1i : i < sN S o)  (kk : Go d M (pc + 1) L st S F (gu G o i z) Q) : Go d M pc L (vJ z :: vI i :: vR o :: st) S F G Q := by
  refine go_hp kk (fun h0 h1 h2 => ?_)
  obtain ⟨i1, i2⟩ := rg_in h0 ho (by omega)
  have hi : r32 i := okS_h (okS_t h1)
  refine ⟨zOk_same (rg_gu h0 (by rw [ho]; exact okS_h h1)), okS_t (okS_t (okS_t h1)), ?_⟩
  intro p l e R s m args below meth c H locs cells slots Qs D ad ca tys A H0 ls hE hsc hfr hlo _ _ hm hv hA hl k9
  simp only [List.map_cons, vt_ref i1]
  obtain ⟨t0, ht0⟩ := hm.2.2.2 o i1 i2 (by omega)
  rw [ho] at ht0
  have hw : (wl ad ca S F G).set (o - 1) (ad o, .inl (ca o, sN S o, .inr (.inl (vp_updL (fun j => Int64.ofInt (G o j)) (Int32.ofInt i).toNatClampNeg (Int64.ofInt z))))) = wl ad ca S F (gu G o i z) := by
    refine wl_set i1 i2 rfl ?_ (fun b hb => ce_gu hb)
    rw [ce_long ho, gu_fun64 hi h0i]
  refine va_last hE.1 hE.2.1 hm.1 hm.2.1 hm.2.2.1 hv (o - 1) t0 (by rw [wl_at i1 i2, ce_long ho]) ht0 (zi_in hi h0i h1i) hd (fun H1 locs1 p1 p2 p3 => ?_)
  · rw [hw] at p1 p2
    have := k9 H1 locs1 ad ca tys ⟨hm.1, p1, p2, hm.2.2.2⟩ ex_refl p3
    simpa only [Nat.sub_self, Nat.add_zero] using this
theorem go_bastore {d : Nat} {M : AM} {pc : Nat} {L : AL} {st : List AV} {S : AS} {F : AF} {G : AG} {Q : AQ} {o : Nat} {i z : Int} (hd : decode M.2.1 pc = .ok (.bastore, 1)) (ho : sK S o = 22) (h0i : 0 ≤ i) (h1i : i < sN S o) (hz : -128 ≤ z ∧ z < 128) (kk : Go d M (pc + 1) L st S F (gu G o i z) Q) : Go d M pc L (vI z :: vI i :: vR o :: st) S F G Q := by
  refine go_hp kk (fun h0 h1 h2 => ?_)
  obtain ⟨i1, i2⟩ := rg_in h0 ho (by omega)
  have hi : r32 i := okS_h (okS_t h1)
  refine ⟨zOk_same (rg_gu h0 (by rw [ho]; exact (by simp only [okA]; simp; exact hz))), okS_t (okS_t (okS_t h1)), ?_⟩
  intro p l e R s m args below meth c H locs cells slots Qs D ad ca tys A H0 ls hE hsc hfr hlo _ _ hm hv hA hl k9
  simp only [List.map_cons, vt_ref i1]
  obtain ⟨t0, ht0⟩ := hm.2.2.2 o i1 i2 (by omega)
  rw [ho] at ht0
  have hw : (wl ad ca S F G).set (o - 1) (ad o, .inl (ca o, sN S o, .inl (upd (fun j => Int32.ofInt (G o j)) (Int32.ofInt i).toNatClampNeg (Int32.ofInt z)))) = wl ad ca S F (gu G o i z) := by
    refine wl_set i1 i2 rfl ?_ (fun b hb => ce_gu hb)
    rw [ce_int (Or.inr (Or.inl ho)), gu_fun32 hi h0i]
  refine va_bast hE.1 hE.2.1 hm.1 hm.2.1 hm.2.2.1 hv (o - 1) t0 (by rw [wl_at i1 i2, ce_int (Or.inr (Or.inl ho))]) ht0 (zi_in hi h0i h1i) hd (fun H1 locs1 p1 p2 p3 => ?_)
  · rw [zb_nar hz] at p1 p2
    rw [hw] at p1 p2
    have := k9 H1 locs1 ad ca tys ⟨hm.1, p1, p2, hm.2.2.2⟩ ex_refl p3
    simpa only [Nat.sub_self, Nat.add_zero] using this
theorem go_zastore {d : Nat} {M : AM} {pc : Nat} {L : AL} {st : List AV} {S : AS} {F : AF} {G : AG} {Q : AQ} {o : Nat} {i z : Int} (hd : decode M.2.1 pc = .ok (.bastore, 1)) (ho : sK S o = 23) (h0i : 0 ≤ i) (h1i : i < sN S o) (hz : z = 0 ∨ z = 1) (kk : Go d M (pc + 1) L st S F (gu G o i z) Q) : Go d M pc L (vI z :: vI i :: vR o :: st) S F G Q := by
  refine go_hp kk (fun h0 h1 h2 => ?_)
  obtain ⟨i1, i2⟩ := rg_in h0 ho (by omega)
  have hi : r32 i := okS_h (okS_t h1)
  refine ⟨zOk_same (rg_gu h0 (by rw [ho]; exact (by simp only [okA]; simp; exact hz))), okS_t (okS_t (okS_t h1)), ?_⟩
  intro p l e R s m args below meth c H locs cells slots Qs D ad ca tys A H0 ls hE hsc hfr hlo _ _ hm hv hA hl k9
  simp only [List.map_cons, vt_ref i1]
  obtain ⟨t0, ht0⟩ := hm.2.2.2 o i1 i2 (by omega)
  rw [ho] at ht0
  have hw : (wl ad ca S F G).set (o - 1) (ad o, .inl (ca o, sN S o, .inl (upd (fun j => Int32.ofInt (G o j)) (Int32.ofInt i).toNatClampNeg (Int32.ofInt z)))) = wl ad ca S F (gu G o i z) := by
    refine wl_set i1 i2 rfl ?_ (fun b hb => ce_gu hb)
    rw [ce_int (Or.inr (Or.inr ho)), gu_fun32 hi h0i]
  refine va_zast hE.1 hE.2.1 hm.1 hm.2.1 hm.2.2.1 hv (o - 1) t0 (by rw [wl_at i1 i2, ce_int (Or.inr (Or.inr ho))]) ht0 (zi_in hi h0i h1i) hd (fun H1 locs1 p1 p2 p3 => ?_)
  · rw [zz_nar hz] at p1 p2
    rw [hw] at p1 p2
    have := k9 H1 locs1 ad ca tys ⟨hm.1, p1, p2, hm.2.2.2⟩ ex_refl p3
    simpa only [Nat.sub_self, Nat.add_zero] using this
theorem go_alen {d : Nat} {M : AM} {pc : Nat} {L : AL} {st : List AV} {S : AS} {F : AF} {G : AG} {Q : AQ} {o : Nat} (hd : decode M.2.1 pc = .ok (.arraylength, 1)) (ho : 20 ≤ sK S o ∧ sK S o ≤ 25) (kk : Go d M (pc + 1) L (vI (sN S o) :: st) S F G Q) : Go d M pc L (vR o :: st) S F G Q := by
  refine go_step kk (fun h0 h1 h2 => ?_)
  obtain ⟨i1, i2⟩ := rg_in h0 rfl (show sK S o < 99 by omega)
  have g2 := (h0.2.1 o i1 i2).2.2.2
  refine ⟨okS_c (by simp only [okV, r32]; omega) (okS_t h1), ?_⟩
  intro p l e R s m args below meth c H locs cells slots Qs D ad ca tys A H0 ls hE hsc _ _ _ _ hm hv hl k9
  simp only [List.map_cons, vt_ref i1]
  obtain ⟨t0, ht0⟩ := hm.2.2.2 o i1 i2 (by omega)
  have hx : ∃ x : vp_A, x.1 = sN S o ∧ ce ad ca S F G o = .inl (ca o, x) := by
    by_cases h21 : sK S o = 21
    · exact ⟨_, rfl, ce_long h21⟩
    · by_cases h24 : sK S o = 24 ∨ sK S o = 25
      · exact ⟨_, rfl, ce_row h24⟩
      · exact ⟨_, rfl, ce_int (by omega)⟩
  obtain ⟨x, hx1, hx2⟩ := hx
  exact va_alen hE.1 hE.2.1 hm.1 hm.2.1 (o - 1) t0 (by rw [wl_at i1 i2, hx2]) ht0 (by rw [hx1]; exact Int32.ofInt_eq_ofNat.symm) hd k9
theorem go_aaload {d : Nat} {M : AM} {pc : Nat} {L : AL} {st : List AV} {S : AS} {F : AF} {G : AG} {Q : AQ} {o : Nat} {i : Int} (hd : decode M.2.1 pc = .ok (.aaload, 1)) (ho : sK S o = 24 ∨ sK S o = 25) (h0i : 0 ≤ i) (h1i : i < sN S o) (kk : Go d M (pc + 1) L (vR (sR S o i.toNat) :: st) S F G Q) : Go d M pc L (vI i :: vR o :: st) S F G Q := by
  refine go_step kk (fun h0 h1 h2 => ?_)
  obtain ⟨i1, i2⟩ := rg_in h0 rfl (show sK S o < 99 by omega)
  refine ⟨okS_c (Or.inl (h0.2.2.1 _ _)) (okS_t (okS_t h1)), ?_⟩
  intro p l e R s m args below meth c H locs cells slots Qs D ad ca tys A H0 ls hE hsc _ _ _ _ hm hv hl k9
  simp only [List.map_cons, vt_ref i1]
  obtain ⟨t0, ht0⟩ := hm.2.2.2 o i1 i2 (by omega)
  have hty : ∃ C, aty (sK S o) = .object C := by
    rcases ho with h | h <;> rw [h] <;> exact ⟨_, rfl⟩
  obtain ⟨C, hC⟩ := hty
  rw [hC] at ht0
  refine va_aldq hE.1 hE.2.1 hm.1 hm.2.1 (o - 1) t0 (by rw [wl_at i1 i2, ce_row ho]) ht0 (zi_in (okS_h h1) h0i h1i) hd ?_
  rw [← Int32.toNat_toInt, zi_t (okS_h h1)]
  exact k9
theorem go_scrlen {d : Nat} {M : AM} {pc : Nat} {L : AL} {st : List AV} {S : AS} {F : AF} {G : AG} {Q : AQ} (hd : decode M.2.1 pc = .ok (.arraylength, 1)) (hM : M.1.name = "law") (kk : Go d M (pc + 1) L (vI (sL S) :: st) S F G Q) : Go d M pc L (vR 999999 :: st) S F G Q := by
  refine go_step kk (fun h0 h1 h2 => ?_)
  have g2 := h0.2.2.2.2.1
  refine ⟨okS_c (by simp only [okV, r32]; omega) (okS_t h1), ?_⟩
  intro p l e R s m args below meth c H locs cells slots Qs D ad ca tys A H0 ls hE hsc _ _ _ _ hm hv hl k9
  simp only [List.map_cons, vt_ref (show 1 ≤ 999999 by omega)]
  obtain ⟨q1, q2, q3⟩ := hsc.1 hM
  refine va_slen hE.1 hE.2.1 q1 q2 q3 hv hd ?_
  rw [← Int32.ofInt_eq_ofNat]
  exact k9
theorem go_scrld {d : Nat} {M : AM} {pc : Nat} {L : AL} {st : List AV} {S : AS} {F : AF} {G : AG} {Q : AQ} {i : Int} (hd : decode M.2.1 pc = .ok (.iaload, 1)) (hM : M.1.name = "law") (h0i : 0 ≤ i) (h1i : i < sL S) (kk : Go d M (pc + 1) L (vI (sx S i) :: st) S F G Q) : Go d M pc L (vI i :: vR 999999 :: st) S F G Q := by
  refine go_step kk (fun h0 h1 h2 => ?_)
  refine ⟨okS_c (h0.2.2.2.1 i) (okS_t (okS_t h1)), ?_⟩
  intro p l e R s m args below meth c H locs cells slots Qs D ad ca tys A H0 ls hE hsc _ _ _ _ hm hv hl k9
  simp only [List.map_cons, vt_ref (show 1 ≤ 999999 by omega)]
  obtain ⟨q1, q2, q3⟩ := hsc.1 hM
  refine va_sld hE.1 hE.2.1 q1 q2 q3 hv (zi_in (okS_h h1) h0i h1i) hd ?_
  have e := zi_n (okS_h h1) h0i
  simp only [e]
  exact k9
theorem go_ldc2 {d : Nat} {M : AM} {pc : Nat} {L : AL} {st : List AV} {S : AS} {F : AF} {G : AG} {Q : AQ} {idx : Nat} {z : Int} (hd : decode M.2.1 pc = .ok (.ldc2_w idx, 3)) (hw : Cond.constantLong M.1.cls idx (Int64.ofInt z) ∈ lw_good) (hz : r64 z) (kk : Go d M (pc + 3) L (vJ z :: st) S F G Q) : Go d M pc L st S F G Q := by
  refine go_step kk (fun h0 h1 h2 => ⟨okS_c hz h1, ?_⟩)
  intro p l e R s m args below meth c H locs cells slots Qs D ad ca tys A H0 ls hE hsc _ _ _ _ hm hv hl k9
  exact lv_ldc2 hE.1 hE.2.1 hE.2.2.2.1 (hE.2.2.2.2.1 _ hw) hd k9
theorem go_ldc {d : Nat} {M : AM} {pc : Nat} {L : AL} {st : List AV} {S : AS} {F : AF} {G : AG} {Q : AQ} {idx : Nat} {z : Int} (hd : decode M.2.1 pc = .ok (.ldc idx, 2)) (hw : Cond.constant M.1.cls idx (Int32.ofInt z) ∈ lw_good) (hz : r32 z) (kk : Go d M (pc + 2) L (vI z :: st) S F G Q) : Go d M pc L st S F G Q := by
  refine go_step kk (fun h0 h1 h2 => ⟨okS_c hz h1, ?_⟩)
  intro p l e R s m args below meth c H locs cells slots Qs D ad ca tys A H0 ls hE hsc _ _ _ _ hm hv hl k9
  exact lv_ldc hE.1 hE.2.1 hE.2.2.2.1 (hE.2.2.2.2.1 _ hw) hd k9
theorem go_swIn {d : Nat} {M : AM} {pc : Nat} {L : AL} {st : List AV} {S : AS} {F : AF} {G : AG} {Q : AQ} {x dflt lo hi : Int} {offs : Array Int} {len : Nat} {off : Int} {tgt : Nat} (hd : decode M.2.1 pc = .ok (.tableswitch dflt lo hi offs, len)) (h1x : ¬ x < lo) (h2x : ¬ hi < x) (hof : offs[(x - lo).toNat]? = some off) (ht : (pc : Int) + off = (tgt : Int)) (kk : Go d M tgt L st S F G Q) : Go d M pc L (vI x :: st) S F G Q := by
  refine go_step kk (fun h0 h1 h2 => ⟨okS_t h1, ?_⟩)
  intro p l e R s m args below meth c H locs cells slots Qs D ad ca tys A H0 ls hE hsc _ _ _ _ hm hv hl k9
  have e := zi_t (okS_h h1)
  exact lv_tableIn hE.1 hE.2.1 hd (by rw [e]; exact h1x) (by rw [e]; exact h2x) (by rw [e]; exact hof) ht k9
theorem go_swOut {d : Nat} {M : AM} {pc : Nat} {L : AL} {st : List AV} {S : AS} {F : AF} {G : AG} {Q : AQ} {x dflt lo hi : Int} {offs : Array Int} {len : Nat} {tgt : Nat} (hd : decode M.2.1 pc = .ok (.tableswitch dflt lo hi offs, len)) (hx : x < lo ∨ hi < x) (ht : (pc : Int) + dflt = (tgt : Int)) (kk : Go d M tgt L st S F G Q) : Go d M pc L (vI x :: st) S F G Q := by
  refine go_step kk (fun h0 h1 h2 => ⟨okS_t h1, ?_⟩)
  intro p l e R s m args below meth c H locs cells slots Qs D ad ca tys A H0 ls hE hsc _ _ _ _ hm hv hl k9
  have e := zi_t (okS_h h1)
  exact lv_tableOut hE.1 hE.2.1 hd (by rw [e]; exact hx) ht k9
theorem go_lookup {d : Nat} {M : AM} {pc : Nat} {L : AL} {st : List AV} {S : AS} {F : AF} {G : AG} {Q : AQ} {x dflt : Int} {ps : Array (Int × Int)} {len : Nat} {off : Int} {tgt : Nat} (hd : decode M.2.1 pc = .ok (.lookupswitch dflt ps, len)) (hp : (ps.toList.zip (ps.toList.drop 1)).all (fun (a, next) => a.1 < next.1) = true) (hof : Op.lookupswitch.offset ps.toList dflt x = off) (ht : (pc : Int) + off = (tgt : Int)) (kk : Go d M tgt L st S F G Q) : Go d M pc L (vI x :: st) S F G Q := by
  refine go_step kk (fun h0 h1 h2 => ⟨okS_t h1, ?_⟩)
  intro p l e R s m args below meth c H locs cells slots Qs D ad ca tys A H0 ls hE hsc _ _ _ _ hm hv hl k9
  have e := zi_t (okS_h h1)
  exact lv_lookup hE.1 hE.2.1 hd hp (by rw [e]; exact hof) ht k9
theorem go_objInit {d : Nat} {M : AM} {pc : Nat} {L : AL} {st : List AV} {S : AS} {F : AF} {G : AG} {Q : AQ} {idx r : Nat} (hd : decode M.2.1 pc = .ok (.invokespecial idx, 3)) (hw : Cond.methodLink M.1.cls idx Lib.objectInit ∈ lw_good) (hw2 : Cond.instanceMethod Lib.objectInit ∈ lw_good) (hw3 : Cond.code Lib.objectInit ⟨#[0xb1]⟩ 1 none ∈ lw_good) (hr : 1 ≤ r) (hs : cs st ≤ 8) (hd1 : 1 ≤ d) (kk : Go d M (pc + 3) L st S F G Q) : Go d M pc L (vR r :: st) S F G Q := by
  refine go_step kk (fun h0 h1 h2 => ⟨okS_t h1, ?_⟩)
  intro p l e R s m args below meth c H locs cells slots Qs D ad ca tys A H0 ls hE hsc hfr hlo _ _ hm hv hl k9
  simp only [List.map_cons, vt_ref hr]
  have hc9 := lv_room (m := m) (pc := pc) (ls := ls) (rest := st.map (vt ad)) (st := st.map (vt ad)) (by rw [cs_vt]; exact hs)
  have hq := W.objInit (p := p) (l := l) (e := e) (R := R) (s := s) (m := m) (args := args) (below := below) (meth := meth) (c := c) (H := H) (locs := locs) (cells := cells) (slots := slots) (Q := Qs) hE.1 hE.2.1 hE.2.2.2.1 (hE.2.2.2.2.1 _ hw) (hE.2.2.2.2.1 _ hw2) (hE.2.2.2.2.1 _ hw3) (g := F0 m pc ls (.ref (ad r) :: st.map (vt ad))) rfl (by rw [hE.2.2.1]; exact hl.1) (a := ad r) (rest := st.map (vt ad)) rfl hd (by omega) (by
    have : 2 * (F0 m pc ls (.ref (ad r) :: st.map (vt ad))).monitorRoom + ((st.map (vt ad)).map fun v => v.category).sum ≤ 8 := hc9
    omega) k9
  exact hq
theorem go_maxI {d : Nat} {M : AM} {pc : Nat} {L : AL} {st : List AV} {S : AS} {F : AF} {G : AG} {Q : AQ} {idx : Nat} {x y : Int} (hd : decode M.2.1 pc = .ok (.invokestatic idx, 3)) (hw : Cond.methodLink M.1.cls idx Lib.Math.max.name ∈ lw_good) (hw2 : Cond.static Lib.Math.max.name ∈ lw_good) (hw3 : Cond.initialized "java/lang/Math" ∈ lw_good) (hw4 : Cond.code Lib.Math.max.name Lib.Math.max.code 2 (some .int) ∈ lw_good) (hs : cs st ≤ 8) (hd1 : 1 ≤ d) (kk : Go d M (pc + 3) L (vI (if x < y then y else x) :: st) S F G Q) : Go d M pc L (vI y :: vI x :: st) S F G Q := by
  refine go_step kk (fun h0 h1 h2 => ⟨okS_c (by split <;> first | exact okS_h h1 | exact okS_h (okS_t h1)) (okS_t (okS_t h1)), ?_⟩)
  intro p l e R s m args below meth c H locs cells slots Qs D ad ca tys A H0 ls hE hsc hfr hlo hce hsl hm hv hl k9
  have hc9 := cs_vt (ad := ad) st
  refine va_mmax hE.1 hE.2.1 (hE.2.2.1.trans hl.1.symm) hE.2.2.2.1 (hE.2.2.2.2.1 _ hw) (hE.2.2.2.2.1 _ hw2) (hE.2.2.2.2.1 _ hw3) (hE.2.2.2.2.1 _ hw4) (by omega) (by omega) hce hsl hd ?_
  have e9 : (Int32.ofInt x < Int32.ofInt y) = (x < y) := propext (zi_lt (okS_h (okS_t h1)) (okS_h h1))
  have e8 : (if Int32.ofInt x < Int32.ofInt y then Int32.ofInt y else Int32.ofInt x) = Int32.ofInt (if x < y then y else x) := by
    simp only [e9]
    split <;> rfl
  rw [e8]
  exact k9
theorem go_minI {d : Nat} {M : AM} {pc : Nat} {L : AL} {st : List AV} {S : AS} {F : AF} {G : AG} {Q : AQ} {idx : Nat} {x y : Int} (hd : decode M.2.1 pc = .ok (.invokestatic idx, 3)) (hw : Cond.methodLink M.1.cls idx Lib.Math.min.name ∈ lw_good) (hw2 : Cond.static Lib.Math.min.name ∈ lw_good) (hw3 : Cond.initialized "java/lang/Math" ∈ lw_good) (hw4 : Cond.code Lib.Math.min.name Lib.Math.min.code 2 (some .int) ∈ lw_good) (hs : cs st ≤ 8) (hd1 : 1 ≤ d) (kk : Go d M (pc + 3) L (vI (if y < x then y else x) :: st) S F G Q) : Go d M pc L (vI y :: vI x :: st) S F G Q := by
  refine go_step kk (fun h0 h1 h2 => ⟨okS_c (by split <;> first | exact okS_h h1 | exact okS_h (okS_t h1)) (okS_t (okS_t h1)), ?_⟩)
  intro p l e R s m args below meth c H locs cells slots Qs D ad ca tys A H0 ls hE hsc hfr hlo hce hsl hm hv hl k9
  have hc9 := cs_vt (ad := ad) st
  refine va_mmin hE.1 hE.2.1 (hE.2.2.1.trans hl.1.symm) hE.2.2.2.1 (hE.2.2.2.2.1 _ hw) (hE.2.2.2.2.1 _ hw2) (hE.2.2.2.2.1 _ hw3) (hE.2.2.2.2.1 _ hw4) (by omega) (by omega) hce hsl hd ?_
  have e9 : (Int32.ofInt y < Int32.ofInt x) = (y < x) := propext (zi_lt (okS_h h1) (okS_h (okS_t h1)))
  have e8 : (if Int32.ofInt y < Int32.ofInt x then Int32.ofInt y else Int32.ofInt x) = Int32.ofInt (if y < x then y else x) := by
    simp only [e9]
    split <;> rfl
  rw [e8]
  exact k9
theorem go_maxJ {d : Nat} {M : AM} {pc : Nat} {L : AL} {st : List AV} {S : AS} {F : AF} {G : AG} {Q : AQ} {idx : Nat} {x y : Int} (hd : decode M.2.1 pc = .ok (.invokestatic idx, 3)) (hw : Cond.methodLink M.1.cls idx Lib.MathLoose.max_long.x ∈ lw_good) (hw2 : Cond.static Lib.MathLoose.max_long.x ∈ lw_good) (hw3 : Cond.initialized "java/lang/Math" ∈ lw_good) (hw4 : Cond.code Lib.MathLoose.max_long.x Lib.MathLoose.max_long.code 4 (some .long) ∈ lw_good) (hs : cs st ≤ 8) (hd1 : 1 ≤ d) (kk : Go d M (pc + 3) L (vJ (if y < x then x else y) :: st) S F G Q) : Go d M pc L (vJ y :: vJ x :: st) S F G Q := by
  refine go_step kk (fun h0 h1 h2 => ⟨okS_c (by split <;> first | exact okS_h h1 | exact okS_h (okS_t h1)) (okS_t (okS_t h1)), ?_⟩)
  intro p l e R s m args below meth c H locs cells slots Qs D ad ca tys A H0 ls hE hsc hfr hlo hce hsl hm hv hl k9
  have hc9 := cs_vt (ad := ad) st
  refine va_mmax_long hE.1 hE.2.1 (hE.2.2.1.trans hl.1.symm) hE.2.2.2.1 (hE.2.2.2.2.1 _ hw) (hE.2.2.2.2.1 _ hw2) (hE.2.2.2.2.1 _ hw3) (hE.2.2.2.2.1 _ hw4) (by omega) (by omega) hce hsl hd ?_
  have e9 : (Int64.ofInt y < Int64.ofInt x) = (y < x) := propext (zj_lt (okS_h h1) (okS_h (okS_t h1)))
  have e8 : (if Int64.ofInt y < Int64.ofInt x then Int64.ofInt x else Int64.ofInt y) = Int64.ofInt (if y < x then x else y) := by
    simp only [e9]
    split <;> rfl
  rw [e8]
  exact k9
theorem go_minJ {d : Nat} {M : AM} {pc : Nat} {L : AL} {st : List AV} {S : AS} {F : AF} {G : AG} {Q : AQ} {idx : Nat} {x y : Int} (hd : decode M.2.1 pc = .ok (.invokestatic idx, 3)) (hw : Cond.methodLink M.1.cls idx Lib.MathLoose.min_long.x ∈ lw_good) (hw2 : Cond.static Lib.MathLoose.min_long.x ∈ lw_good) (hw3 : Cond.initialized "java/lang/Math" ∈ lw_good) (hw4 : Cond.code Lib.MathLoose.min_long.x Lib.MathLoose.min_long.code 4 (some .long) ∈ lw_good) (hs : cs st ≤ 8) (hd1 : 1 ≤ d) (kk : Go d M (pc + 3) L (vJ (if y < x then y else x) :: st) S F G Q) : Go d M pc L (vJ y :: vJ x :: st) S F G Q := by
  refine go_step kk (fun h0 h1 h2 => ⟨okS_c (by split <;> first | exact okS_h h1 | exact okS_h (okS_t h1)) (okS_t (okS_t h1)), ?_⟩)
  intro p l e R s m args below meth c H locs cells slots Qs D ad ca tys A H0 ls hE hsc hfr hlo hce hsl hm hv hl k9
  have hc9 := cs_vt (ad := ad) st
  refine va_mmin_long hE.1 hE.2.1 (hE.2.2.1.trans hl.1.symm) hE.2.2.2.1 (hE.2.2.2.2.1 _ hw) (hE.2.2.2.2.1 _ hw2) (hE.2.2.2.2.1 _ hw3) (hE.2.2.2.2.1 _ hw4) (by omega) (by omega) hce hsl hd ?_
  have e9 : (Int64.ofInt y < Int64.ofInt x) = (y < x) := propext (zj_lt (okS_h h1) (okS_h (okS_t h1)))
  have e8 : (if Int64.ofInt y < Int64.ofInt x then Int64.ofInt y else Int64.ofInt x) = Int64.ofInt (if y < x then y else x) := by
    simp only [e9]
    split <;> rfl
  rw [e8]
  exact k9
