section
/-! DOES, with numbers that may be left from an elder text -/
def iL (x : Int) : Int := (Int64.ofInt x).toInt32.toInt
theorem iL_r (x : Int) : r32 (iL x) := zi_r _
theorem go_l2iw {d : Nat} {M : AM} {pc : Nat} {L : AL} {st : List AV} {S : AS} {F : AF} {G : AG} {Q : AQ} {x : Int} (hd : decode M.2.1 pc = .ok (.l2i, 1)) (k : Go d M (pc + 1) L (vI (iL x) :: st) S F G Q) : Go d M pc L (vJ x :: st) S F G Q := by
  refine go_step k (fun h0 h1 h2 => ⟨okS_c (zi_r _) (okS_t h1), ?_⟩)
  intro p l e R s m args below meth c H locs cells slots Qs D ad ca tys A H0 ls hE _ _ _ _ _ hm hv hl kk
  exact lv_l2i hE.1 hE.2.1 hd (Int32.ofInt_toInt _).symm kk
def VW_X10_does_0 (d : Nat) (S : AS) (F : AF) (G : AG) (Q : AQ) (a1 : Int) : Prop :=
  (r32 (7 * a1)) ∧
  ∀ x2 : Int, x2 = 7 * a1 →
  (r32 (x2 + 1)) ∧
  ((0 : Int) ≤ x2 + 1) ∧
  ((x2 + 1 : Int) < 210) ∧
  ∀ x6 : Int, x6 = iL (G 73 (x2 + 1)) →
  (r32 (x2 + 2)) ∧
  ((0 : Int) ≤ x2 + 2) ∧
  ((x2 + 2 : Int) < 210) ∧
  ∀ x10 : Int, x10 = iL (G 73 (x2 + 2)) →
  (r32 (x2 + 3)) ∧
  ((0 : Int) ≤ x2 + 3) ∧
  ((x2 + 3 : Int) < 210) ∧
  ∀ x14 : Int, x14 = iL (G 73 (x2 + 3)) →
  (r32 (x2 + 4)) ∧
  ((0 : Int) ≤ x2 + 4) ∧
  ((x2 + 4 : Int) < 210) ∧
  ∀ x18 : Int, x18 = iL (G 73 (x2 + 4)) →
  (r32 (x2 + 5)) ∧
  ((0 : Int) ≤ x2 + 5) ∧
  ((x2 + 5 : Int) < 210) ∧
  ∀ x22 : Int, x22 = iL (G 73 (x2 + 5)) →
  ((0 : Int) ≤ x2) ∧
  ((x2 : Int) < 210) ∧
  ((iL (G 73 x2) = 0) →
    (r32 (x2 + 6)) ∧
    ((0 : Int) ≤ x2 + 6) ∧
    ((x2 + 6 : Int) < 210) ∧
    (1 ≤ d) ∧
    Ok (d - 1) MX10_add [vR 53, vI x6, vI x10, vI x14, vI x18, vI x22, vI (iL (G 73 (x2 + 6)))] S F G (fun w29 S30 F31 G32 =>
    S30 = S ∧
    ∃ z33 : Int, w29 = some (vJ z33) ∧
    Q (some (vJ z33)) S F31 G32)) ∧
  ((iL (G 73 x2) = 1) →
    (r32 (x2 + 6)) ∧
    ((0 : Int) ≤ x2 + 6) ∧
    ((x2 + 6 : Int) < 210) ∧
    (1 ≤ d) ∧
    Ok (d - 1) MX10_pick [vR 53, vI x6, vI x10, vI x14, vI x18, vI x22, vJ (G 73 (x2 + 6))] S F G (fun w38 S39 F40 G41 =>
    S39 = S ∧
    ∃ z42 : Int, w38 = some (vJ z42) ∧
    Q (some (vJ z42)) S F40 G41)) ∧
  ((iL (G 73 x2) = 2) →
    (1 ≤ d) ∧
    Ok (d - 1) MX10_begin [vR 53] S F G (fun w44 S45 F46 G47 =>
    S45 = S ∧
    ∃ z48 : Int, w44 = some (vI z48) ∧
    Q (some (vJ z48)) S F46 G47)) ∧
  ((iL (G 73 x2) = 3) →
    (1 ≤ d) ∧
    Ok (d - 1) MX10_commit [vR 53] S F G (fun w50 S51 F52 G53 =>
    S51 = S ∧
    ∃ z54 : Int, w50 = some (vI z54) ∧
    Q (some (vJ z54)) S F52 G53)) ∧
  ((iL (G 73 x2) < 0 ∨ 3 < iL (G 73 x2)) →
    (1 ≤ d) ∧
    Ok (d - 1) MX10_cancel [vR 53] S F G (fun w56 S57 F58 G59 =>
    S57 = S ∧
    ∃ z60 : Int, w56 = some (vI z60) ∧
    Q (some (vJ z60)) S F58 G59))
theorem RW_X10_does_0 {d : Nat} {S : AS} {F : AF} {G : AG} {Q : AQ} {a1 : Int} (hsm : ShM S) (h : VW_X10_does_0 d S F G Q a1) : Go d MX10_does 0 [some (vR 53), some (vI a1), none, none, none, none, none, none] [] S F G Q := by
  unfold VW_X10_does_0 at h
  refine go_bipush (show decode cX10_does 0 = .ok (.bipush 7, 2) by decide +kernel) (by decide) ?_
  refine go_iload_n (show decode cX10_does 2 = .ok (.iload_n 1, 1) by decide +kernel) (by rfl) ?_
  obtain ⟨q1, h⟩ := h
  refine go_imul (show decode cX10_does 3 = .ok (.imul, 1) by decide +kernel) q1 ?_
  obtain ⟨x2, x2e⟩ : ∃ x2 : Int, x2 = 7 * a1 := ⟨_, rfl⟩
  have h := h x2 x2e
  rw [← x2e]
  refine go_istore_n (show decode cX10_does 4 = .ok (.istore_n 2, 1) by decide +kernel) (by decide) ?_
  show Go d MX10_does 5 [some (vR 53), some (vI a1), some (vI x2), none, none, none, none, none] [] S F G Q
  refine go_aload_n (show decode cX10_does 5 = .ok (.aload_n 0, 1) by decide +kernel) (by rfl) ?_
  refine go_getRc (show decode cX10_does 6 = .ok (.getfield 90, 3) by decide +kernel) fl_X10_90 rfl (shm_k hsm 53 (by decide) (by decide)) (v := 73) (shm_r hsm 53 40 (by decide) (by decide)) ?_
  refine go_iload_n (show decode cX10_does 9 = .ok (.iload_n 2, 1) by decide +kernel) (by rfl) ?_
  refine go_iconst (show decode cX10_does 10 = .ok (.iconst 1, 1) by decide +kernel) (by decide) ?_
  obtain ⟨q3, h⟩ := h
  refine go_iadd (show decode cX10_does 11 = .ok (.iadd, 1) by decide +kernel) q3 ?_
  obtain ⟨q4, h⟩ := h
  obtain ⟨q5, h⟩ := h
  refine go_laload (show decode cX10_does 12 = .ok (.laload, 1) by decide +kernel) (shm_k hsm 73 (by decide) (by decide)) q4 (lt_n (m := 210) q5 (shm_n hsm 73 (by decide) (by decide))) ?_
  refine go_l2iw (show decode cX10_does 13 = .ok (.l2i, 1) by decide +kernel) ?_
  obtain ⟨x6, x6e⟩ : ∃ x6 : Int, x6 = iL (G 73 (x2 + 1)) := ⟨_, rfl⟩
  have h := h x6 x6e
  rw [← x6e]
  refine go_istore_n (show decode cX10_does 14 = .ok (.istore_n 3, 1) by decide +kernel) (by decide) ?_
  show Go d MX10_does 15 [some (vR 53), some (vI a1), some (vI x2), some (vI x6), none, none, none, none] [] S F G Q
  refine go_aload_n (show decode cX10_does 15 = .ok (.aload_n 0, 1) by decide +kernel) (by rfl) ?_
  refine go_getRc (show decode cX10_does 16 = .ok (.getfield 90, 3) by decide +kernel) fl_X10_90 rfl (shm_k hsm 53 (by decide) (by decide)) (v := 73) (shm_r hsm 53 40 (by decide) (by decide)) ?_
  refine go_iload_n (show decode cX10_does 19 = .ok (.iload_n 2, 1) by decide +kernel) (by rfl) ?_
  refine go_iconst (show decode cX10_does 20 = .ok (.iconst 2, 1) by decide +kernel) (by decide) ?_
  obtain ⟨q7, h⟩ := h
  refine go_iadd (show decode cX10_does 21 = .ok (.iadd, 1) by decide +kernel) q7 ?_
  obtain ⟨q8, h⟩ := h
  obtain ⟨q9, h⟩ := h
  refine go_laload (show decode cX10_does 22 = .ok (.laload, 1) by decide +kernel) (shm_k hsm 73 (by decide) (by decide)) q8 (lt_n (m := 210) q9 (shm_n hsm 73 (by decide) (by decide))) ?_
  refine go_l2iw (show decode cX10_does 23 = .ok (.l2i, 1) by decide +kernel) ?_
  obtain ⟨x10, x10e⟩ : ∃ x10 : Int, x10 = iL (G 73 (x2 + 2)) := ⟨_, rfl⟩
  have h := h x10 x10e
  rw [← x10e]
  refine go_istore (show decode cX10_does 24 = .ok (.istore 4, 2) by decide +kernel) (by decide) ?_
  show Go d MX10_does 26 [some (vR 53), some (vI a1), some (vI x2), some (vI x6), some (vI x10), none, none, none] [] S F G Q
  refine go_aload_n (show decode cX10_does 26 = .ok (.aload_n 0, 1) by decide +kernel) (by rfl) ?_
  refine go_getRc (show decode cX10_does 27 = .ok (.getfield 90, 3) by decide +kernel) fl_X10_90 rfl (shm_k hsm 53 (by decide) (by decide)) (v := 73) (shm_r hsm 53 40 (by decide) (by decide)) ?_
  refine go_iload_n (show decode cX10_does 30 = .ok (.iload_n 2, 1) by decide +kernel) (by rfl) ?_
  refine go_iconst (show decode cX10_does 31 = .ok (.iconst 3, 1) by decide +kernel) (by decide) ?_
  obtain ⟨q11, h⟩ := h
  refine go_iadd (show decode cX10_does 32 = .ok (.iadd, 1) by decide +kernel) q11 ?_
  obtain ⟨q12, h⟩ := h
  obtain ⟨q13, h⟩ := h
  refine go_laload (show decode cX10_does 33 = .ok (.laload, 1) by decide +kernel) (shm_k hsm 73 (by decide) (by decide)) q12 (lt_n (m := 210) q13 (shm_n hsm 73 (by decide) (by decide))) ?_
  refine go_l2iw (show decode cX10_does 34 = .ok (.l2i, 1) by decide +kernel) ?_
  obtain ⟨x14, x14e⟩ : ∃ x14 : Int, x14 = iL (G 73 (x2 + 3)) := ⟨_, rfl⟩
  have h := h x14 x14e
  rw [← x14e]
  refine go_istore (show decode cX10_does 35 = .ok (.istore 5, 2) by decide +kernel) (by decide) ?_
  show Go d MX10_does 37 [some (vR 53), some (vI a1), some (vI x2), some (vI x6), some (vI x10), some (vI x14), none, none] [] S F G Q
  refine go_aload_n (show decode cX10_does 37 = .ok (.aload_n 0, 1) by decide +kernel) (by rfl) ?_
  refine go_getRc (show decode cX10_does 38 = .ok (.getfield 90, 3) by decide +kernel) fl_X10_90 rfl (shm_k hsm 53 (by decide) (by decide)) (v := 73) (shm_r hsm 53 40 (by decide) (by decide)) ?_
  refine go_iload_n (show decode cX10_does 41 = .ok (.iload_n 2, 1) by decide +kernel) (by rfl) ?_
  refine go_iconst (show decode cX10_does 42 = .ok (.iconst 4, 1) by decide +kernel) (by decide) ?_
  obtain ⟨q15, h⟩ := h
  refine go_iadd (show decode cX10_does 43 = .ok (.iadd, 1) by decide +kernel) q15 ?_
  obtain ⟨q16, h⟩ := h
  obtain ⟨q17, h⟩ := h
  refine go_laload (show decode cX10_does 44 = .ok (.laload, 1) by decide +kernel) (shm_k hsm 73 (by decide) (by decide)) q16 (lt_n (m := 210) q17 (shm_n hsm 73 (by decide) (by decide))) ?_
  refine go_l2iw (show decode cX10_does 45 = .ok (.l2i, 1) by decide +kernel) ?_
  obtain ⟨x18, x18e⟩ : ∃ x18 : Int, x18 = iL (G 73 (x2 + 4)) := ⟨_, rfl⟩
  have h := h x18 x18e
  rw [← x18e]
  refine go_istore (show decode cX10_does 46 = .ok (.istore 6, 2) by decide +kernel) (by decide) ?_
  show Go d MX10_does 48 [some (vR 53), some (vI a1), some (vI x2), some (vI x6), some (vI x10), some (vI x14), some (vI x18), none] [] S F G Q
  refine go_aload_n (show decode cX10_does 48 = .ok (.aload_n 0, 1) by decide +kernel) (by rfl) ?_
  refine go_getRc (show decode cX10_does 49 = .ok (.getfield 90, 3) by decide +kernel) fl_X10_90 rfl (shm_k hsm 53 (by decide) (by decide)) (v := 73) (shm_r hsm 53 40 (by decide) (by decide)) ?_
  refine go_iload_n (show decode cX10_does 52 = .ok (.iload_n 2, 1) by decide +kernel) (by rfl) ?_
  refine go_iconst (show decode cX10_does 53 = .ok (.iconst 5, 1) by decide +kernel) (by decide) ?_
  obtain ⟨q19, h⟩ := h
  refine go_iadd (show decode cX10_does 54 = .ok (.iadd, 1) by decide +kernel) q19 ?_
  obtain ⟨q20, h⟩ := h
  obtain ⟨q21, h⟩ := h
  refine go_laload (show decode cX10_does 55 = .ok (.laload, 1) by decide +kernel) (shm_k hsm 73 (by decide) (by decide)) q20 (lt_n (m := 210) q21 (shm_n hsm 73 (by decide) (by decide))) ?_
  refine go_l2iw (show decode cX10_does 56 = .ok (.l2i, 1) by decide +kernel) ?_
  obtain ⟨x22, x22e⟩ : ∃ x22 : Int, x22 = iL (G 73 (x2 + 5)) := ⟨_, rfl⟩
  have h := h x22 x22e
  rw [← x22e]
  refine go_istore (show decode cX10_does 57 = .ok (.istore 7, 2) by decide +kernel) (by decide) ?_
  show Go d MX10_does 59 [some (vR 53), some (vI a1), some (vI x2), some (vI x6), some (vI x10), some (vI x14), some (vI x18), some (vI x22)] [] S F G Q
  refine go_aload_n (show decode cX10_does 59 = .ok (.aload_n 0, 1) by decide +kernel) (by rfl) ?_
  refine go_getRc (show decode cX10_does 60 = .ok (.getfield 90, 3) by decide +kernel) fl_X10_90 rfl (shm_k hsm 53 (by decide) (by decide)) (v := 73) (shm_r hsm 53 40 (by decide) (by decide)) ?_
  refine go_iload_n (show decode cX10_does 63 = .ok (.iload_n 2, 1) by decide +kernel) (by rfl) ?_
  obtain ⟨q23, h⟩ := h
  obtain ⟨q24, h⟩ := h
  refine go_laload (show decode cX10_does 64 = .ok (.laload, 1) by decide +kernel) (shm_k hsm 73 (by decide) (by decide)) q23 (lt_n (m := 210) q24 (shm_n hsm 73 (by decide) (by decide))) ?_
  refine go_l2iw (show decode cX10_does 65 = .ok (.l2i, 1) by decide +kernel) ?_
  obtain ⟨h_0, h_1, h_2, h_3, h_d⟩ := h
  by_cases hd9 : iL (G 73 x2) < 0 ∨ 3 < iL (G 73 x2)
  · have h := h_d hd9
    refine go_swOut (tgt := 155) (show decode cX10_does 66 = .ok (.tableswitch 89 0 3 #[30, 54, 77, 83], 30) by decide +kernel) hd9 (by decide) ?_
    refine go_aload_n (show decode cX10_does 155 = .ok (.aload_n 0, 1) by decide +kernel) (by rfl) ?_
    obtain ⟨q55, h⟩ := h
    refine go_callV (d2 := d - 1) (M2 := MX10_cancel) (n := 0) (ci := 10) (av := []) (st := []) (show decode cX10_does 156 = .ok (.invokevirtual 387, 3) by decide +kernel) ml_X10_387 mt_X10_cancel min_X10_cancel mse_X10_cancel (by decide) (shm_k hsm 53 (by decide) (by decide)) rfl (Nat.le_of_ble_eq_true rfl) (by omega) (ok_mono h (fun w56 S57 F58 G59 h => ?_))
    obtain ⟨e8, h⟩ := h
    replace e8 := e8.symm; subst e8
    obtain ⟨z60, e9, h⟩ := h
    subst e9
    show Go d MX10_does 159 [some (vR 53), some (vI a1), some (vI x2), some (vI x6), some (vI x10), some (vI x14), some (vI x18), some (vI x22)] [vI z60] S F58 G59 Q
    refine go_i2l (show decode cX10_does 159 = .ok (.i2l, 1) by decide +kernel) ?_
    exact go_lret (show decode cX10_does 160 = .ok (.lreturn, 1) by decide +kernel) rfl h
  by_cases hc0 : iL (G 73 x2) = 0
  · have h := h_0 hc0
    refine go_swIn (tgt := 96) (show decode cX10_does 66 = .ok (.tableswitch 89 0 3 #[30, 54, 77, 83], 30) by decide +kernel) (by omega) (by omega) (by rw [hc0]; rfl) (by decide) ?_
    refine go_aload_n (show decode cX10_does 96 = .ok (.aload_n 0, 1) by decide +kernel) (by rfl) ?_
    refine go_iload_n (show decode cX10_does 97 = .ok (.iload_n 3, 1) by decide +kernel) (by rfl) ?_
    refine go_iload (show decode cX10_does 98 = .ok (.iload 4, 2) by decide +kernel) (by rfl) ?_
    refine go_iload (show decode cX10_does 100 = .ok (.iload 5, 2) by decide +kernel) (by rfl) ?_
    refine go_iload (show decode cX10_does 102 = .ok (.iload 6, 2) by decide +kernel) (by rfl) ?_
    refine go_iload (show decode cX10_does 104 = .ok (.iload 7, 2) by decide +kernel) (by rfl) ?_
    refine go_aload_n (show decode cX10_does 106 = .ok (.aload_n 0, 1) by decide +kernel) (by rfl) ?_
    refine go_getRc (show decode cX10_does 107 = .ok (.getfield 90, 3) by decide +kernel) fl_X10_90 rfl (shm_k hsm 53 (by decide) (by decide)) (v := 73) (shm_r hsm 53 40 (by decide) (by decide)) ?_
    refine go_iload_n (show decode cX10_does 110 = .ok (.iload_n 2, 1) by decide +kernel) (by rfl) ?_
    refine go_bipush (show decode cX10_does 111 = .ok (.bipush 6, 2) by decide +kernel) (by decide) ?_
    obtain ⟨q25, h⟩ := h
    refine go_iadd (show decode cX10_does 113 = .ok (.iadd, 1) by decide +kernel) q25 ?_
    obtain ⟨q26, h⟩ := h
    obtain ⟨q27, h⟩ := h
    refine go_laload (show decode cX10_does 114 = .ok (.laload, 1) by decide +kernel) (shm_k hsm 73 (by decide) (by decide)) q26 (lt_n (m := 210) q27 (shm_n hsm 73 (by decide) (by decide))) ?_
    refine go_l2iw (show decode cX10_does 115 = .ok (.l2i, 1) by decide +kernel) ?_
    obtain ⟨q28, h⟩ := h
    refine go_callV (d2 := d - 1) (M2 := MX10_add) (n := 6) (ci := 10) (av := [vI x6, vI x10, vI x14, vI x18, vI x22, vI (iL (G 73 (x2 + 6)))]) (st := []) (show decode cX10_does 116 = .ok (.invokevirtual 373, 3) by decide +kernel) ml_X10_373 mt_X10_add min_X10_add mse_X10_add (by decide) (shm_k hsm 53 (by decide) (by decide)) rfl (Nat.le_of_ble_eq_true rfl) (by omega) (ok_mono h (fun w29 S30 F31 G32 h => ?_))
    obtain ⟨e8, h⟩ := h
    replace e8 := e8.symm; subst e8
    obtain ⟨z33, e9, h⟩ := h
    subst e9
    show Go d MX10_does 119 [some (vR 53), some (vI a1), some (vI x2), some (vI x6), some (vI x10), some (vI x14), some (vI x18), some (vI x22)] [vJ z33] S F31 G32 Q
    exact go_lret (show decode cX10_does 119 = .ok (.lreturn, 1) by decide +kernel) rfl h
  by_cases hc1 : iL (G 73 x2) = 1
  · have h := h_1 hc1
    refine go_swIn (tgt := 120) (show decode cX10_does 66 = .ok (.tableswitch 89 0 3 #[30, 54, 77, 83], 30) by decide +kernel) (by omega) (by omega) (by rw [hc1]; rfl) (by decide) ?_
    refine go_aload_n (show decode cX10_does 120 = .ok (.aload_n 0, 1) by decide +kernel) (by rfl) ?_
    refine go_iload_n (show decode cX10_does 121 = .ok (.iload_n 3, 1) by decide +kernel) (by rfl) ?_
    refine go_iload (show decode cX10_does 122 = .ok (.iload 4, 2) by decide +kernel) (by rfl) ?_
    refine go_iload (show decode cX10_does 124 = .ok (.iload 5, 2) by decide +kernel) (by rfl) ?_
    refine go_iload (show decode cX10_does 126 = .ok (.iload 6, 2) by decide +kernel) (by rfl) ?_
    refine go_iload (show decode cX10_does 128 = .ok (.iload 7, 2) by decide +kernel) (by rfl) ?_
    refine go_aload_n (show decode cX10_does 130 = .ok (.aload_n 0, 1) by decide +kernel) (by rfl) ?_
    refine go_getRc (show decode cX10_does 131 = .ok (.getfield 90, 3) by decide +kernel) fl_X10_90 rfl (shm_k hsm 53 (by decide) (by decide)) (v := 73) (shm_r hsm 53 40 (by decide) (by decide)) ?_
    refine go_iload_n (show decode cX10_does 134 = .ok (.iload_n 2, 1) by decide +kernel) (by rfl) ?_
    refine go_bipush (show decode cX10_does 135 = .ok (.bipush 6, 2) by decide +kernel) (by decide) ?_
    obtain ⟨q34, h⟩ := h
    refine go_iadd (show decode cX10_does 137 = .ok (.iadd, 1) by decide +kernel) q34 ?_
    obtain ⟨q35, h⟩ := h
    obtain ⟨q36, h⟩ := h
    refine go_laload (show decode cX10_does 138 = .ok (.laload, 1) by decide +kernel) (shm_k hsm 73 (by decide) (by decide)) q35 (lt_n (m := 210) q36 (shm_n hsm 73 (by decide) (by decide))) ?_
    obtain ⟨q37, h⟩ := h
    refine go_callV (d2 := d - 1) (M2 := MX10_pick) (n := 6) (ci := 10) (av := [vI x6, vI x10, vI x14, vI x18, vI x22, vJ (G 73 (x2 + 6))]) (st := []) (show decode cX10_does 139 = .ok (.invokevirtual 377, 3) by decide +kernel) ml_X10_377 mt_X10_pick min_X10_pick mse_X10_pick (by decide) (shm_k hsm 53 (by decide) (by decide)) rfl (Nat.le_of_ble_eq_true rfl) (by omega) (ok_mono h (fun w38 S39 F40 G41 h => ?_))
    obtain ⟨e8, h⟩ := h
    replace e8 := e8.symm; subst e8
    obtain ⟨z42, e9, h⟩ := h
    subst e9
    show Go d MX10_does 142 [some (vR 53), some (vI a1), some (vI x2), some (vI x6), some (vI x10), some (vI x14), some (vI x18), some (vI x22)] [vJ z42] S F40 G41 Q
    exact go_lret (show decode cX10_does 142 = .ok (.lreturn, 1) by decide +kernel) rfl h
  by_cases hc2 : iL (G 73 x2) = 2
  · have h := h_2 hc2
    refine go_swIn (tgt := 143) (show decode cX10_does 66 = .ok (.tableswitch 89 0 3 #[30, 54, 77, 83], 30) by decide +kernel) (by omega) (by omega) (by rw [hc2]; rfl) (by decide) ?_
    refine go_aload_n (show decode cX10_does 143 = .ok (.aload_n 0, 1) by decide +kernel) (by rfl) ?_
    obtain ⟨q43, h⟩ := h
    refine go_callV (d2 := d - 1) (M2 := MX10_begin) (n := 0) (ci := 10) (av := []) (st := []) (show decode cX10_does 144 = .ok (.invokevirtual 381, 3) by decide +kernel) ml_X10_381 mt_X10_begin min_X10_begin mse_X10_begin (by decide) (shm_k hsm 53 (by decide) (by decide)) rfl (Nat.le_of_ble_eq_true rfl) (by omega) (ok_mono h (fun w44 S45 F46 G47 h => ?_))
    obtain ⟨e8, h⟩ := h
    replace e8 := e8.symm; subst e8
    obtain ⟨z48, e9, h⟩ := h
    subst e9
    show Go d MX10_does 147 [some (vR 53), some (vI a1), some (vI x2), some (vI x6), some (vI x10), some (vI x14), some (vI x18), some (vI x22)] [vI z48] S F46 G47 Q
    refine go_i2l (show decode cX10_does 147 = .ok (.i2l, 1) by decide +kernel) ?_
    exact go_lret (show decode cX10_does 148 = .ok (.lreturn, 1) by decide +kernel) rfl h
  by_cases hc3 : iL (G 73 x2) = 3
  · have h := h_3 hc3
    refine go_swIn (tgt := 149) (show decode cX10_does 66 = .ok (.tableswitch 89 0 3 #[30, 54, 77, 83], 30) by decide +kernel) (by omega) (by omega) (by rw [hc3]; rfl) (by decide) ?_
    refine go_aload_n (show decode cX10_does 149 = .ok (.aload_n 0, 1) by decide +kernel) (by rfl) ?_
    obtain ⟨q49, h⟩ := h
    refine go_callV (d2 := d - 1) (M2 := MX10_commit) (n := 0) (ci := 10) (av := []) (st := []) (show decode cX10_does 150 = .ok (.invokevirtual 384, 3) by decide +kernel) ml_X10_384 mt_X10_commit min_X10_commit mse_X10_commit (by decide) (shm_k hsm 53 (by decide) (by decide)) rfl (Nat.le_of_ble_eq_true rfl) (by omega) (ok_mono h (fun w50 S51 F52 G53 h => ?_))
    obtain ⟨e8, h⟩ := h
    replace e8 := e8.symm; subst e8
    obtain ⟨z54, e9, h⟩ := h
    subst e9
    show Go d MX10_does 153 [some (vR 53), some (vI a1), some (vI x2), some (vI x6), some (vI x10), some (vI x14), some (vI x18), some (vI x22)] [vI z54] S F52 G53 Q
    refine go_i2l (show decode cX10_does 153 = .ok (.i2l, 1) by decide +kernel) ?_
    exact go_lret (show decode cX10_does 154 = .ok (.lreturn, 1) by decide +kernel) rfl h
  exact absurd hd9 (by omega)
end
