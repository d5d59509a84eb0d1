def V_X10_act_0 (d : Nat) (S : AS) (F : AF) (G : AG) (Q : AQ) (a0 : Nat) (a1 : Int) (a2 : Int) : Prop :=
  (sK S a0 = 10) ∧
  ∀ F2 : AF, F2 = fu F a0 0 0 →
  (r32 ((F2 a0 14) - 1)) ∧
  (1 ≤ d) ∧
  Ok (d - 1) MX10_isIn [vJ a1, vJ 0, vJ ((F2 a0 14) - 1)] S F2 G (fun w5 S6 F7 G8 =>
  ∃ z9 : Int, w5 = some (vI z9) ∧
  ((z9 = 0) →
    Q (some (vJ (-2))) S6 F7 G8) ∧
  ((¬ z9 = 0) →
    Ok (d - 1) MX10_isIn [vJ a2, vJ 0, vJ 6] S6 F7 G8 (fun w10 S11 F12 G13 =>
    ∃ z14 : Int, w10 = some (vI z14) ∧
    ((z14 = 0) →
      Q (some (vJ (-2))) S11 F12 G13) ∧
    ((¬ z14 = 0) →
      (sK S11 a0 = 10) ∧
      (r32 (7 * a1)) ∧
      (r32 ((7 * a1) + a2)) ∧
      (sK S11 (sR S11 a0 13) = 21) ∧
      ((0 : Int) ≤ (7 * a1) + a2) ∧
      (((7 * a1) + a2 : Int) < (sN S11 (sR S11 a0 13) : Int)) ∧
      Q (some (vJ (G13 (sR S11 a0 13) ((7 * a1) + a2)))) S11 F12 G13))))
theorem R_X10_act_0 {d : Nat} {S : AS} {F : AF} {G : AG} {Q : AQ} {a0 : Nat} {a1 : Int} {a2 : Int} (h : V_X10_act_0 d S F G Q a0 a1 a2) : Go d MX10_act 0 [some (vR a0), some (vI a1), some (vI a2)] [] S F G Q := by
  unfold V_X10_act_0 at h
  refine go_aload_n (show decode cX10_act 0 = .ok (.aload_n 0, 1) by decide +kernel) (by rfl) ?_
  refine go_iconst (show decode cX10_act 1 = .ok (.iconst 0, 1) by decide +kernel) (by decide) ?_
  obtain ⟨q1, h⟩ := h
  refine go_putI (show decode cX10_act 2 = .ok (.putfield 1, 3) by decide +kernel) fl_X10_1 rfl (Or.inl rfl) q1 ?_
  obtain ⟨F2, F2e⟩ : ∃ F2 : AF, F2 = fu F a0 0 0 := ⟨_, rfl⟩
  have h := h F2 F2e
  rw [← F2e]
  refine go_iload_n (show decode cX10_act 5 = .ok (.iload_n 1, 1) by decide +kernel) (by rfl) ?_
  refine go_i2l (show decode cX10_act 6 = .ok (.i2l, 1) by decide +kernel) ?_
  refine go_lconst (n := 0) (show decode cX10_act 7 = .ok (.lconst 0, 1) by decide +kernel) ?_
  show Go d MX10_act 8 [some (vR a0), some (vI a1), some (vI a2)] [vJ 0, vJ a1] S F2 G Q
  refine go_aload_n (show decode cX10_act 8 = .ok (.aload_n 0, 1) by decide +kernel) (by rfl) ?_
  refine go_getI (show decode cX10_act 9 = .ok (.getfield 111, 3) by decide +kernel) fl_X10_111 (Or.inl rfl) q1 ?_
  refine go_iconst (show decode cX10_act 12 = .ok (.iconst 1, 1) by decide +kernel) (by decide) ?_
  obtain ⟨q3, h⟩ := h
  refine go_isub (show decode cX10_act 13 = .ok (.isub, 1) by decide +kernel) q3 ?_
  refine go_i2l (show decode cX10_act 14 = .ok (.i2l, 1) by decide +kernel) ?_
  obtain ⟨q4, h⟩ := h
  refine go_callS (d2 := d - 1) (M2 := MX10_isIn) (n := 3) (av := [vJ a1, vJ 0, vJ ((F2 a0 14) - 1)]) (st := []) (show decode cX10_act 15 = .ok (.invokestatic 116, 3) by decide +kernel) ml_X10_116 mt_X10_isIn mst_X10_isIn rfl (Nat.le_of_ble_eq_true rfl) (by omega) (ok_mono h (fun w5 S6 F7 G8 h => ?_))
  obtain ⟨z9, e9, h⟩ := h
  subst e9
  show Go d MX10_act 18 [some (vR a0), some (vI a1), some (vI a2)] [vI z9] S6 F7 G8 Q
  obtain ⟨ht, hf⟩ := h
  refine go_ifeq (tgt := 47) (show decode cX10_act 18 = .ok (.ifCond .eq 29, 3) by decide +kernel) (by decide) (fun hc => ?_) (fun hc => ?_)
  · have h := ht hc
    refine go_ldc2 (show decode cX10_act 47 = .ok (.ldc2_w 174, 3) by decide +kernel) lc_X10_174 (by decide) ?_
    exact go_lret (show decode cX10_act 50 = .ok (.lreturn, 1) by decide +kernel) rfl h
  · have h := hf hc
    refine go_iload_n (show decode cX10_act 21 = .ok (.iload_n 2, 1) by decide +kernel) (by rfl) ?_
    refine go_i2l (show decode cX10_act 22 = .ok (.i2l, 1) by decide +kernel) ?_
    refine go_lconst (n := 0) (show decode cX10_act 23 = .ok (.lconst 0, 1) by decide +kernel) ?_
    show Go d MX10_act 24 [some (vR a0), some (vI a1), some (vI a2)] [vJ 0, vJ a2] S6 F7 G8 Q
    refine go_ldc2 (show decode cX10_act 24 = .ok (.ldc2_w 457, 3) by decide +kernel) lc_X10_457 (by decide) ?_
    refine go_callS (d2 := d - 1) (M2 := MX10_isIn) (n := 3) (av := [vJ a2, vJ 0, vJ 6]) (st := []) (show decode cX10_act 27 = .ok (.invokestatic 116, 3) by decide +kernel) ml_X10_116 mt_X10_isIn mst_X10_isIn rfl (Nat.le_of_ble_eq_true rfl) (by omega) (ok_mono h (fun w10 S11 F12 G13 h => ?_))
    obtain ⟨z14, e9, h⟩ := h
    subst e9
    show Go d MX10_act 30 [some (vR a0), some (vI a1), some (vI a2)] [vI z14] S11 F12 G13 Q
    obtain ⟨ht, hf⟩ := h
    refine go_ifeq (tgt := 47) (show decode cX10_act 30 = .ok (.ifCond .eq 17, 3) by decide +kernel) (by decide) (fun hc => ?_) (fun hc => ?_)
    · have h := ht hc
      refine go_ldc2 (show decode cX10_act 47 = .ok (.ldc2_w 174, 3) by decide +kernel) lc_X10_174 (by decide) ?_
      exact go_lret (show decode cX10_act 50 = .ok (.lreturn, 1) by decide +kernel) rfl h
    · have h := hf hc
      refine go_aload_n (show decode cX10_act 33 = .ok (.aload_n 0, 1) by decide +kernel) (by rfl) ?_
      obtain ⟨q15, h⟩ := h
      refine go_getR (show decode cX10_act 34 = .ok (.getfield 52, 3) by decide +kernel) fl_X10_52 rfl q15 ?_
      refine go_bipush (show decode cX10_act 37 = .ok (.bipush 7, 2) by decide +kernel) (by decide) ?_
      refine go_iload_n (show decode cX10_act 39 = .ok (.iload_n 1, 1) by decide +kernel) (by rfl) ?_
      obtain ⟨q16, h⟩ := h
      refine go_imul (show decode cX10_act 40 = .ok (.imul, 1) by decide +kernel) q16 ?_
      refine go_iload_n (show decode cX10_act 41 = .ok (.iload_n 2, 1) by decide +kernel) (by rfl) ?_
      obtain ⟨q17, h⟩ := h
      refine go_iadd (show decode cX10_act 42 = .ok (.iadd, 1) by decide +kernel) q17 ?_
      obtain ⟨q18, h⟩ := h
      obtain ⟨q19, h⟩ := h
      obtain ⟨q20, h⟩ := h
      refine go_laload (show decode cX10_act 43 = .ok (.laload, 1) by decide +kernel) q18 q19 q20 ?_
      refine go_goto (tgt := 50) (show decode cX10_act 44 = .ok (.goto 6, 3) by decide +kernel) (by decide) ?_
      exact go_lret (show decode cX10_act 50 = .ok (.lreturn, 1) by decide +kernel) rfl h
def V_X10_count_0 (d : Nat) (S : AS) (F : AF) (G : AG) (Q : AQ) (a0 : Nat) (a1 : Int) : Prop :=
  (sK S a0 = 10) ∧
  ∀ F2 : AF, F2 = fu F a0 0 0 →
  ((a1 = 0) →
    (r64 ((F2 a0 1) * (F2 a0 2))) ∧
    Q (some (vJ ((F2 a0 1) * (F2 a0 2)))) S F2 G) ∧
  ((a1 = 1) →
    Q (some (vJ (F2 a0 1))) S F2 G) ∧
  ((a1 = 2) →
    Q (some (vJ (F2 a0 2))) S F2 G) ∧
  ((a1 = 3) →
    Q (some (vJ (F2 a0 11))) S F2 G) ∧
  ((a1 = 4) →
    Q (some (vJ (F2 a0 14))) S F2 G) ∧
  ((a1 = 5) →
    Q (some (vJ (F2 a0 34))) S F2 G) ∧
  ((a1 = 6) →
    Q (some (vJ (F2 a0 3))) S F2 G) ∧
  ((a1 < 0 ∨ 6 < a1) →
    Q (some (vJ (-1))) S F2 G)
theorem R_X10_count_0 {d : Nat} {S : AS} {F : AF} {G : AG} {Q : AQ} {a0 : Nat} {a1 : Int} (h : V_X10_count_0 d S F G Q a0 a1) : Go d MX10_count 0 [some (vR a0), some (vI a1)] [] S F G Q := by
  unfold V_X10_count_0 at h
  refine go_aload_n (show decode cX10_count 0 = .ok (.aload_n 0, 1) by decide +kernel) (by rfl) ?_
  refine go_iconst (show decode cX10_count 1 = .ok (.iconst 0, 1) by decide +kernel) (by decide) ?_
  obtain ⟨q1, h⟩ := h
  refine go_putI (show decode cX10_count 2 = .ok (.putfield 1, 3) by decide +kernel) fl_X10_1 rfl (Or.inl rfl) q1 ?_
  obtain ⟨F2, F2e⟩ : ∃ F2 : AF, F2 = fu F a0 0 0 := ⟨_, rfl⟩
  have h := h F2 F2e
  rw [← F2e]
  refine go_iload_n (show decode cX10_count 5 = .ok (.iload_n 1, 1) by decide +kernel) (by rfl) ?_
  obtain ⟨h_0, h_1, h_2, h_3, h_4, h_5, h_6, h_d⟩ := h
  by_cases hd9 : a1 < 0 ∨ 6 < a1
  · have h := h_d hd9
    refine go_swOut (tgt := 95) (show decode cX10_count 6 = .ok (.tableswitch 89 0 6 #[42, 54, 60, 66, 72, 78, 84], 42) by decide +kernel) hd9 (by decide) ?_
    refine go_ldc2 (show decode cX10_count 95 = .ok (.ldc2_w 311, 3) by decide +kernel) lc_X10_311 (by decide) ?_
    exact go_lret (show decode cX10_count 98 = .ok (.lreturn, 1) by decide +kernel) rfl h
  by_cases hc0 : a1 = 0
  · have h := h_0 hc0
    refine go_swIn (tgt := 48) (show decode cX10_count 6 = .ok (.tableswitch 89 0 6 #[42, 54, 60, 66, 72, 78, 84], 42) by decide +kernel) (by omega) (by omega) (by rw [hc0]; rfl) (by decide) ?_
    refine go_aload_n (show decode cX10_count 48 = .ok (.aload_n 0, 1) by decide +kernel) (by rfl) ?_
    refine go_getI (show decode cX10_count 49 = .ok (.getfield 13, 3) by decide +kernel) fl_X10_13 (Or.inl rfl) q1 ?_
    refine go_i2l (show decode cX10_count 52 = .ok (.i2l, 1) by decide +kernel) ?_
    refine go_aload_n (show decode cX10_count 53 = .ok (.aload_n 0, 1) by decide +kernel) (by rfl) ?_
    refine go_getI (show decode cX10_count 54 = .ok (.getfield 16, 3) by decide +kernel) fl_X10_16 (Or.inl rfl) q1 ?_
    refine go_i2l (show decode cX10_count 57 = .ok (.i2l, 1) by decide +kernel) ?_
    obtain ⟨q3, h⟩ := h
    refine go_lmul (show decode cX10_count 58 = .ok (.lmul, 1) by decide +kernel) q3 ?_
    exact go_lret (show decode cX10_count 59 = .ok (.lreturn, 1) by decide +kernel) rfl h
  by_cases hc1 : a1 = 1
  · have h := h_1 hc1
    refine go_swIn (tgt := 60) (show decode cX10_count 6 = .ok (.tableswitch 89 0 6 #[42, 54, 60, 66, 72, 78, 84], 42) by decide +kernel) (by omega) (by omega) (by rw [hc1]; rfl) (by decide) ?_
    refine go_aload_n (show decode cX10_count 60 = .ok (.aload_n 0, 1) by decide +kernel) (by rfl) ?_
    refine go_getI (show decode cX10_count 61 = .ok (.getfield 13, 3) by decide +kernel) fl_X10_13 (Or.inl rfl) q1 ?_
    refine go_i2l (show decode cX10_count 64 = .ok (.i2l, 1) by decide +kernel) ?_
    exact go_lret (show decode cX10_count 65 = .ok (.lreturn, 1) by decide +kernel) rfl h
  by_cases hc2 : a1 = 2
  · have h := h_2 hc2
    refine go_swIn (tgt := 66) (show decode cX10_count 6 = .ok (.tableswitch 89 0 6 #[42, 54, 60, 66, 72, 78, 84], 42) by decide +kernel) (by omega) (by omega) (by rw [hc2]; rfl) (by decide) ?_
    refine go_aload_n (show decode cX10_count 66 = .ok (.aload_n 0, 1) by decide +kernel) (by rfl) ?_
    refine go_getI (show decode cX10_count 67 = .ok (.getfield 16, 3) by decide +kernel) fl_X10_16 (Or.inl rfl) q1 ?_
    refine go_i2l (show decode cX10_count 70 = .ok (.i2l, 1) by decide +kernel) ?_
    exact go_lret (show decode cX10_count 71 = .ok (.lreturn, 1) by decide +kernel) rfl h
  by_cases hc3 : a1 = 3
  · have h := h_3 hc3
    refine go_swIn (tgt := 72) (show decode cX10_count 6 = .ok (.tableswitch 89 0 6 #[42, 54, 60, 66, 72, 78, 84], 42) by decide +kernel) (by omega) (by omega) (by rw [hc3]; rfl) (by decide) ?_
    refine go_aload_n (show decode cX10_count 72 = .ok (.aload_n 0, 1) by decide +kernel) (by rfl) ?_
    refine go_getI (show decode cX10_count 73 = .ok (.getfield 108, 3) by decide +kernel) fl_X10_108 (Or.inl rfl) q1 ?_
    refine go_i2l (show decode cX10_count 76 = .ok (.i2l, 1) by decide +kernel) ?_
    exact go_lret (show decode cX10_count 77 = .ok (.lreturn, 1) by decide +kernel) rfl h
  by_cases hc4 : a1 = 4
  · have h := h_4 hc4
    refine go_swIn (tgt := 78) (show decode cX10_count 6 = .ok (.tableswitch 89 0 6 #[42, 54, 60, 66, 72, 78, 84], 42) by decide +kernel) (by omega) (by omega) (by rw [hc4]; rfl) (by decide) ?_
    refine go_aload_n (show decode cX10_count 78 = .ok (.aload_n 0, 1) by decide +kernel) (by rfl) ?_
    refine go_getI (show decode cX10_count 79 = .ok (.getfield 111, 3) by decide +kernel) fl_X10_111 (Or.inl rfl) q1 ?_
    refine go_i2l (show decode cX10_count 82 = .ok (.i2l, 1) by decide +kernel) ?_
    exact go_lret (show decode cX10_count 83 = .ok (.lreturn, 1) by decide +kernel) rfl h
  by_cases hc5 : a1 = 5
  · have h := h_5 hc5
    refine go_swIn (tgt := 84) (show decode cX10_count 6 = .ok (.tableswitch 89 0 6 #[42, 54, 60, 66, 72, 78, 84], 42) by decide +kernel) (by omega) (by omega) (by rw [hc5]; rfl) (by decide) ?_
    refine go_aload_n (show decode cX10_count 84 = .ok (.aload_n 0, 1) by decide +kernel) (by rfl) ?_
    refine go_getI (show decode cX10_count 85 = .ok (.getfield 313, 3) by decide +kernel) fl_X10_313 (Or.inl rfl) q1 ?_
    refine go_i2l (show decode cX10_count 88 = .ok (.i2l, 1) by decide +kernel) ?_
    exact go_lret (show decode cX10_count 89 = .ok (.lreturn, 1) by decide +kernel) rfl h
  by_cases hc6 : a1 = 6
  · have h := h_6 hc6
    refine go_swIn (tgt := 90) (show decode cX10_count 6 = .ok (.tableswitch 89 0 6 #[42, 54, 60, 66, 72, 78, 84], 42) by decide +kernel) (by omega) (by omega) (by rw [hc6]; rfl) (by decide) ?_
    refine go_aload_n (show decode cX10_count 90 = .ok (.aload_n 0, 1) by decide +kernel) (by rfl) ?_
    refine go_getJ (show decode cX10_count 91 = .ok (.getfield 21, 3) by decide +kernel) fl_X10_21 rfl q1 ?_
    exact go_lret (show decode cX10_count 94 = .ok (.lreturn, 1) by decide +kernel) rfl h
  exact absurd hd9 (by omega)
