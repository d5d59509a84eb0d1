def V_X10_count_0 (d : Nat) (S : AS) (F : AF) (G : AG) (Q : AQ) (a1 : Int) : Prop :=
  ∀ F1 : AF, F1 = fu F 53 0 0 →
  ((a1 = 0) →
    (r64 ((F1 53 1) * (F1 53 2))) ∧
    Q (some (vJ ((F1 53 1) * (F1 53 2)))) S F1 G) ∧
  ((a1 = 1) →
    Q (some (vJ (F1 53 1))) S F1 G) ∧
  ((a1 = 2) →
    Q (some (vJ (F1 53 2))) S F1 G) ∧
  ((a1 = 3) →
    Q (some (vJ (F1 53 11))) S F1 G) ∧
  ((a1 = 4) →
    Q (some (vJ (F1 53 14))) S F1 G) ∧
  ((a1 = 5) →
    Q (some (vJ (F1 53 34))) S F1 G) ∧
  ((a1 = 6) →
    Q (some (vJ (F1 53 3))) S F1 G) ∧
  ((a1 < 0 ∨ 6 < a1) →
    Q (some (vJ (-1))) S F1 G)
theorem R_X10_count_0 {d : Nat} {S : AS} {F : AF} {G : AG} {Q : AQ} {a1 : Int} (hsm : ShM S) (h : V_X10_count_0 d S F G Q a1) : Go d MX10_count 0 [some (vR 53), some (vI a1)] [] S F G Q := by
  unfold V_X10_count_0 at h
  refine go_aload_n (show decode cX10_count 0 = .ok (.aload_n 0, 1) by decide +kernel) (by rfl) ?_
  refine go_iconst (show decode cX10_count 1 = .ok (.iconst 0, 1) by decide +kernel) (by decide) ?_
  refine go_putI (show decode cX10_count 2 = .ok (.putfield 1, 3) by decide +kernel) fl_X10_1 rfl (Or.inl rfl) (shm_k hsm 53 (by decide) (by decide)) ?_
  obtain ⟨F1, F1e⟩ : ∃ F1 : AF, F1 = fu F 53 0 0 := ⟨_, rfl⟩
  have h := h F1 F1e
  rw [← F1e]
  refine go_iload_n (show decode cX10_count 5 = .ok (.iload_n 1, 1) by decide +kernel) (by rfl) ?_
  obtain ⟨h_0, h_1, h_2, h_3, h_4, h_5, h_6, h_d⟩ := h
  by_cases hd9 : a1 < 0 ∨ 6 < a1
  · have h := h_d hd9
    refine go_swOut (tgt := 95) (show decode cX10_count 6 = .ok (.tableswitch 89 0 6 #[42, 54, 60, 66, 72, 78, 84], 42) by decide +kernel) hd9 (by decide) ?_
    refine go_ldc2 (show decode cX10_count 95 = .ok (.ldc2_w 311, 3) by decide +kernel) lc_X10_311 (by decide) ?_
    exact go_lret (show decode cX10_count 98 = .ok (.lreturn, 1) by decide +kernel) rfl h
  by_cases hc0 : a1 = 0
  · have h := h_0 hc0
    refine go_swIn (tgt := 48) (show decode cX10_count 6 = .ok (.tableswitch 89 0 6 #[42, 54, 60, 66, 72, 78, 84], 42) by decide +kernel) (by omega) (by omega) (by rw [hc0]; rfl) (by decide) ?_
    refine go_aload_n (show decode cX10_count 48 = .ok (.aload_n 0, 1) by decide +kernel) (by rfl) ?_
    refine go_getI (show decode cX10_count 49 = .ok (.getfield 13, 3) by decide +kernel) fl_X10_13 (Or.inl rfl) (shm_k hsm 53 (by decide) (by decide)) ?_
    refine go_i2l (show decode cX10_count 52 = .ok (.i2l, 1) by decide +kernel) ?_
    refine go_aload_n (show decode cX10_count 53 = .ok (.aload_n 0, 1) by decide +kernel) (by rfl) ?_
    refine go_getI (show decode cX10_count 54 = .ok (.getfield 16, 3) by decide +kernel) fl_X10_16 (Or.inl rfl) (shm_k hsm 53 (by decide) (by decide)) ?_
    refine go_i2l (show decode cX10_count 57 = .ok (.i2l, 1) by decide +kernel) ?_
    obtain ⟨q2, h⟩ := h
    refine go_lmul (show decode cX10_count 58 = .ok (.lmul, 1) by decide +kernel) q2 ?_
    exact go_lret (show decode cX10_count 59 = .ok (.lreturn, 1) by decide +kernel) rfl h
  by_cases hc1 : a1 = 1
  · have h := h_1 hc1
    refine go_swIn (tgt := 60) (show decode cX10_count 6 = .ok (.tableswitch 89 0 6 #[42, 54, 60, 66, 72, 78, 84], 42) by decide +kernel) (by omega) (by omega) (by rw [hc1]; rfl) (by decide) ?_
    refine go_aload_n (show decode cX10_count 60 = .ok (.aload_n 0, 1) by decide +kernel) (by rfl) ?_
    refine go_getI (show decode cX10_count 61 = .ok (.getfield 13, 3) by decide +kernel) fl_X10_13 (Or.inl rfl) (shm_k hsm 53 (by decide) (by decide)) ?_
    refine go_i2l (show decode cX10_count 64 = .ok (.i2l, 1) by decide +kernel) ?_
    exact go_lret (show decode cX10_count 65 = .ok (.lreturn, 1) by decide +kernel) rfl h
  by_cases hc2 : a1 = 2
  · have h := h_2 hc2
    refine go_swIn (tgt := 66) (show decode cX10_count 6 = .ok (.tableswitch 89 0 6 #[42, 54, 60, 66, 72, 78, 84], 42) by decide +kernel) (by omega) (by omega) (by rw [hc2]; rfl) (by decide) ?_
    refine go_aload_n (show decode cX10_count 66 = .ok (.aload_n 0, 1) by decide +kernel) (by rfl) ?_
    refine go_getI (show decode cX10_count 67 = .ok (.getfield 16, 3) by decide +kernel) fl_X10_16 (Or.inl rfl) (shm_k hsm 53 (by decide) (by decide)) ?_
    refine go_i2l (show decode cX10_count 70 = .ok (.i2l, 1) by decide +kernel) ?_
    exact go_lret (show decode cX10_count 71 = .ok (.lreturn, 1) by decide +kernel) rfl h
  by_cases hc3 : a1 = 3
  · have h := h_3 hc3
    refine go_swIn (tgt := 72) (show decode cX10_count 6 = .ok (.tableswitch 89 0 6 #[42, 54, 60, 66, 72, 78, 84], 42) by decide +kernel) (by omega) (by omega) (by rw [hc3]; rfl) (by decide) ?_
    refine go_aload_n (show decode cX10_count 72 = .ok (.aload_n 0, 1) by decide +kernel) (by rfl) ?_
    refine go_getI (show decode cX10_count 73 = .ok (.getfield 108, 3) by decide +kernel) fl_X10_108 (Or.inl rfl) (shm_k hsm 53 (by decide) (by decide)) ?_
    refine go_i2l (show decode cX10_count 76 = .ok (.i2l, 1) by decide +kernel) ?_
    exact go_lret (show decode cX10_count 77 = .ok (.lreturn, 1) by decide +kernel) rfl h
  by_cases hc4 : a1 = 4
  · have h := h_4 hc4
    refine go_swIn (tgt := 78) (show decode cX10_count 6 = .ok (.tableswitch 89 0 6 #[42, 54, 60, 66, 72, 78, 84], 42) by decide +kernel) (by omega) (by omega) (by rw [hc4]; rfl) (by decide) ?_
    refine go_aload_n (show decode cX10_count 78 = .ok (.aload_n 0, 1) by decide +kernel) (by rfl) ?_
    refine go_getI (show decode cX10_count 79 = .ok (.getfield 111, 3) by decide +kernel) fl_X10_111 (Or.inl rfl) (shm_k hsm 53 (by decide) (by decide)) ?_
    refine go_i2l (show decode cX10_count 82 = .ok (.i2l, 1) by decide +kernel) ?_
    exact go_lret (show decode cX10_count 83 = .ok (.lreturn, 1) by decide +kernel) rfl h
  by_cases hc5 : a1 = 5
  · have h := h_5 hc5
    refine go_swIn (tgt := 84) (show decode cX10_count 6 = .ok (.tableswitch 89 0 6 #[42, 54, 60, 66, 72, 78, 84], 42) by decide +kernel) (by omega) (by omega) (by rw [hc5]; rfl) (by decide) ?_
    refine go_aload_n (show decode cX10_count 84 = .ok (.aload_n 0, 1) by decide +kernel) (by rfl) ?_
    refine go_getI (show decode cX10_count 85 = .ok (.getfield 313, 3) by decide +kernel) fl_X10_313 (Or.inl rfl) (shm_k hsm 53 (by decide) (by decide)) ?_
    refine go_i2l (show decode cX10_count 88 = .ok (.i2l, 1) by decide +kernel) ?_
    exact go_lret (show decode cX10_count 89 = .ok (.lreturn, 1) by decide +kernel) rfl h
  by_cases hc6 : a1 = 6
  · have h := h_6 hc6
    refine go_swIn (tgt := 90) (show decode cX10_count 6 = .ok (.tableswitch 89 0 6 #[42, 54, 60, 66, 72, 78, 84], 42) by decide +kernel) (by omega) (by omega) (by rw [hc6]; rfl) (by decide) ?_
    refine go_aload_n (show decode cX10_count 90 = .ok (.aload_n 0, 1) by decide +kernel) (by rfl) ?_
    refine go_getJ (show decode cX10_count 91 = .ok (.getfield 21, 3) by decide +kernel) fl_X10_21 rfl (shm_k hsm 53 (by decide) (by decide)) ?_
    exact go_lret (show decode cX10_count 94 = .ok (.lreturn, 1) by decide +kernel) rfl h
  exact absurd hd9 (by omega)
