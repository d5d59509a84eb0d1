def V_X10_before_66 (d : Nat) (S : AS) (F : AF) (G : AG) (Q : AQ) (a0 : Nat) (a1 : Int) (a2 : Int) (a3 : Int) (a4 : Int) (a5 : Int) (a6 : Int) (a7 : Int) (a9 : Int) (a10 : Int) : Prop :=
  (sK S a0 = 10) ∧
  (sK S (sR S a0 5) = 20) ∧
  ((1 : Int) < (sN S (sR S a0 5) : Int)) ∧
  ((G (sR S a0 5) 1 ≤ a10) →
    (r32 (a9 + 1)) ∧
    Go d MX10_before 52 [some (vR a0), some (vI a1), some (vI a2), some (vI a3), some (vI a4), some (vI a5), some (vI a6), some (vJ a7), none, some (vI (a9 + 1)), none] [] S F G Q) ∧
  ((¬ G (sR S a0 5) 1 ≤ a10) →
    (r32 (6912 * a1)) ∧
    (1 ≤ d) ∧
    Ok (d - 1) MX10_slot [vI a2, vI a9, vI a10] S F G (fun w7 S8 F9 G10 =>
    ∃ z11 : Int, w7 = some (vI z11) ∧
    (r32 ((6912 * a1) + z11)) ∧
    (sK S8 (sR S a0 8) = 21) ∧
    ((0 : Int) ≤ (6912 * a1) + z11) ∧
    (((6912 * a1) + z11 : Int) < (sN S8 (sR S a0 8) : Int)) ∧
    (sK S8 a0 = 10) ∧
    Ok (d - 1) MX10_part [vR a0, vI 0, vI a9, vI a3, vI a5] S8 F9 G10 (fun w16 S17 F18 G19 =>
    ∃ z21 : Int, w16 = some (vI z21) ∧
    (r64 ((G10 (sR S a0 8) ((6912 * a1) + z11)) * z21)) ∧
    (sK S17 a0 = 10) ∧
    Ok (d - 1) MX10_part [vR a0, vI 1, vI a10, vI a4, vI a6] S17 F18 G19 (fun w23 S24 F25 G26 =>
    ∃ z28 : Int, w23 = some (vI z28) ∧
    (r64 (((G10 (sR S a0 8) ((6912 * a1) + z11)) * z21) * z28)) ∧
    (r64 (a7 + (((G10 (sR S a0 8) ((6912 * a1) + z11)) * z21) * z28))) ∧
    ∀ x31 : Int, x31 = a7 + (((G10 (sR S a0 8) ((6912 * a1) + z11)) * z21) * z28) →
    (r32 (a10 + 1)) ∧
    Go d MX10_before 66 [some (vR a0), some (vI a1), some (vI a2), some (vI a3), some (vI a4), some (vI a5), some (vI a6), some (vJ x31), none, some (vI a9), some (vI (a10 + 1))] [] S24 F25 G26 Q))))
theorem R_X10_before_66 {d : Nat} {S : AS} {F : AF} {G : AG} {Q : AQ} {a0 : Nat} {a1 : Int} {a2 : Int} {a3 : Int} {a4 : Int} {a5 : Int} {a6 : Int} {a7 : Int} {a9 : Int} {a10 : Int} (h : V_X10_before_66 d S F G Q a0 a1 a2 a3 a4 a5 a6 a7 a9 a10) : Go d MX10_before 66 [some (vR a0), some (vI a1), some (vI a2), some (vI a3), some (vI a4), some (vI a5), some (vI a6), some (vJ a7), none, some (vI a9), some (vI a10)] [] S F G Q := by
  unfold V_X10_before_66 at h
  refine go_iload (show decode cX10_before 66 = .ok (.iload 10, 2) by decide +kernel) (by rfl) ?_
  refine go_aload_n (show decode cX10_before 68 = .ok (.aload_n 0, 1) by decide +kernel) (by rfl) ?_
  obtain ⟨q1, h⟩ := h
  refine go_getR (show decode cX10_before 69 = .ok (.getfield 29, 3) by decide +kernel) fl_X10_29 rfl q1 ?_
  refine go_iconst (show decode cX10_before 72 = .ok (.iconst 1, 1) by decide +kernel) (by decide) ?_
  obtain ⟨q2, h⟩ := h
  obtain ⟨q3, h⟩ := h
  refine go_iaload (show decode cX10_before 73 = .ok (.iaload, 1) by decide +kernel) q2 (by decide) q3 ?_
  obtain ⟨ht, hf⟩ := h
  refine go_icmpge (tgt := 132) (show decode cX10_before 74 = .ok (.if_icmp .ge 58, 3) by decide +kernel) (by decide) (fun hc => ?_) (fun hc => ?_)
  · have h := ht hc
    obtain ⟨q4, h⟩ := h
    refine go_iinc (show decode cX10_before 132 = .ok (.iinc 9 1, 3) by decide +kernel) (by rfl) q4 (by decide) ?_
    show Go d MX10_before 135 [some (vR a0), some (vI a1), some (vI a2), some (vI a3), some (vI a4), some (vI a5), some (vI a6), some (vJ a7), none, some (vI (a9 + 1)), some (vI a10)] [] S F G Q
    refine go_goto (tgt := 52) (show decode cX10_before 135 = .ok (.goto (-83), 3) by decide +kernel) (by decide) ?_
    refine go_clr 10 ?_
    exact h
  · have h := hf hc
    refine go_lload (show decode cX10_before 77 = .ok (.lload 7, 2) by decide +kernel) (by rfl) ?_
    refine go_aload_n (show decode cX10_before 79 = .ok (.aload_n 0, 1) by decide +kernel) (by rfl) ?_
    refine go_getR (show decode cX10_before 80 = .ok (.getfield 40, 3) by decide +kernel) fl_X10_40 rfl q1 ?_
    refine go_sipush (show decode cX10_before 83 = .ok (.sipush 6912, 3) by decide +kernel) (by decide) ?_
    refine go_iload_n (show decode cX10_before 86 = .ok (.iload_n 1, 1) by decide +kernel) (by rfl) ?_
    obtain ⟨q5, h⟩ := h
    refine go_imul (show decode cX10_before 87 = .ok (.imul, 1) by decide +kernel) q5 ?_
    refine go_iload_n (show decode cX10_before 88 = .ok (.iload_n 2, 1) by decide +kernel) (by rfl) ?_
    refine go_iload (show decode cX10_before 89 = .ok (.iload 9, 2) by decide +kernel) (by rfl) ?_
    refine go_iload (show decode cX10_before 91 = .ok (.iload 10, 2) by decide +kernel) (by rfl) ?_
    obtain ⟨q6, h⟩ := h
    refine go_callS (d2 := d - 1) (M2 := MX10_slot) (n := 3) (av := [vI a2, vI a9, vI a10]) (st := [vI (6912 * a1), vR (sR S a0 8), vJ a7]) (show decode cX10_before 93 = .ok (.invokestatic 130, 3) by decide +kernel) ml_X10_130 mt_X10_slot mst_X10_slot rfl (Nat.le_of_ble_eq_true rfl) (by omega) (ok_mono h (fun w7 S8 F9 G10 h => ?_))
    obtain ⟨z11, e9, h⟩ := h
    subst e9
    show Go d MX10_before 96 [some (vR a0), some (vI a1), some (vI a2), some (vI a3), some (vI a4), some (vI a5), some (vI a6), some (vJ a7), none, some (vI a9), some (vI a10)] [vI z11, vI (6912 * a1), vR (sR S a0 8), vJ a7] S8 F9 G10 Q
    obtain ⟨q12, h⟩ := h
    refine go_iadd (show decode cX10_before 96 = .ok (.iadd, 1) by decide +kernel) q12 ?_
    obtain ⟨q13, h⟩ := h
    obtain ⟨q14, h⟩ := h
    obtain ⟨q15, h⟩ := h
    refine go_laload (show decode cX10_before 97 = .ok (.laload, 1) by decide +kernel) q13 q14 q15 ?_
    refine go_aload_n (show decode cX10_before 98 = .ok (.aload_n 0, 1) by decide +kernel) (by rfl) ?_
    refine go_iconst (show decode cX10_before 99 = .ok (.iconst 0, 1) by decide +kernel) (by decide) ?_
    refine go_iload (show decode cX10_before 100 = .ok (.iload 9, 2) by decide +kernel) (by rfl) ?_
    refine go_iload_n (show decode cX10_before 102 = .ok (.iload_n 3, 1) by decide +kernel) (by rfl) ?_
    refine go_iload (show decode cX10_before 103 = .ok (.iload 5, 2) by decide +kernel) (by rfl) ?_
    obtain ⟨q20, h⟩ := h
    refine go_callV (d2 := d - 1) (M2 := MX10_part) (n := 4) (ci := 10) (av := [vI 0, vI a9, vI a3, vI a5]) (st := [vJ (G10 (sR S a0 8) ((6912 * a1) + z11)), vJ a7]) (show decode cX10_before 105 = .ok (.invokevirtual 159, 3) by decide +kernel) ml_X10_159 mt_X10_part min_X10_part mse_X10_part (by decide) q20 rfl (Nat.le_of_ble_eq_true rfl) (by omega) (ok_mono h (fun w16 S17 F18 G19 h => ?_))
    obtain ⟨z21, e9, h⟩ := h
    subst e9
    show Go d MX10_before 108 [some (vR a0), some (vI a1), some (vI a2), some (vI a3), some (vI a4), some (vI a5), some (vI a6), some (vJ a7), none, some (vI a9), some (vI a10)] [vI z21, vJ (G10 (sR S a0 8) ((6912 * a1) + z11)), vJ a7] S17 F18 G19 Q
    refine go_i2l (show decode cX10_before 108 = .ok (.i2l, 1) by decide +kernel) ?_
    obtain ⟨q22, h⟩ := h
    refine go_lmul (show decode cX10_before 109 = .ok (.lmul, 1) by decide +kernel) q22 ?_
    refine go_aload_n (show decode cX10_before 110 = .ok (.aload_n 0, 1) by decide +kernel) (by rfl) ?_
    refine go_iconst (show decode cX10_before 111 = .ok (.iconst 1, 1) by decide +kernel) (by decide) ?_
    refine go_iload (show decode cX10_before 112 = .ok (.iload 10, 2) by decide +kernel) (by rfl) ?_
    refine go_iload (show decode cX10_before 114 = .ok (.iload 4, 2) by decide +kernel) (by rfl) ?_
    refine go_iload (show decode cX10_before 116 = .ok (.iload 6, 2) by decide +kernel) (by rfl) ?_
    obtain ⟨q27, h⟩ := h
    refine go_callV (d2 := d - 1) (M2 := MX10_part) (n := 4) (ci := 10) (av := [vI 1, vI a10, vI a4, vI a6]) (st := [vJ ((G10 (sR S a0 8) ((6912 * a1) + z11)) * z21), vJ a7]) (show decode cX10_before 118 = .ok (.invokevirtual 159, 3) by decide +kernel) ml_X10_159 mt_X10_part min_X10_part mse_X10_part (by decide) q27 rfl (Nat.le_of_ble_eq_true rfl) (by omega) (ok_mono h (fun w23 S24 F25 G26 h => ?_))
    obtain ⟨z28, e9, h⟩ := h
    subst e9
    show Go d MX10_before 121 [some (vR a0), some (vI a1), some (vI a2), some (vI a3), some (vI a4), some (vI a5), some (vI a6), some (vJ a7), none, some (vI a9), some (vI a10)] [vI z28, vJ ((G10 (sR S a0 8) ((6912 * a1) + z11)) * z21), vJ a7] S24 F25 G26 Q
    refine go_i2l (show decode cX10_before 121 = .ok (.i2l, 1) by decide +kernel) ?_
    obtain ⟨q29, h⟩ := h
    refine go_lmul (show decode cX10_before 122 = .ok (.lmul, 1) by decide +kernel) q29 ?_
    obtain ⟨q30, h⟩ := h
    refine go_ladd (show decode cX10_before 123 = .ok (.ladd, 1) by decide +kernel) q30 ?_
    obtain ⟨x31, x31e⟩ : ∃ x31 : Int, x31 = a7 + (((G10 (sR S a0 8) ((6912 * a1) + z11)) * z21) * z28) := ⟨_, rfl⟩
    have h := h x31 x31e
    rw [← x31e]
    refine go_lstore (show decode cX10_before 124 = .ok (.lstore 7, 2) by decide +kernel) (by decide) ?_
    show Go d MX10_before 126 [some (vR a0), some (vI a1), some (vI a2), some (vI a3), some (vI a4), some (vI a5), some (vI a6), some (vJ x31), none, some (vI a9), some (vI a10)] [] S24 F25 G26 Q
    obtain ⟨q32, h⟩ := h
    refine go_iinc (show decode cX10_before 126 = .ok (.iinc 10 1, 3) by decide +kernel) (by rfl) q32 (by decide) ?_
    show Go d MX10_before 129 [some (vR a0), some (vI a1), some (vI a2), some (vI a3), some (vI a4), some (vI a5), some (vI a6), some (vJ x31), none, some (vI a9), some (vI (a10 + 1))] [] S24 F25 G26 Q
    refine go_goto (tgt := 66) (show decode cX10_before 129 = .ok (.goto (-63), 3) by decide +kernel) (by decide) ?_
    exact h
def V_X10_before_52 (d : Nat) (S : AS) (F : AF) (G : AG) (Q : AQ) (a0 : Nat) (a1 : Int) (a2 : Int) (a3 : Int) (a4 : Int) (a5 : Int) (a6 : Int) (a7 : Int) (a9 : Int) : Prop :=
  (sK S a0 = 10) ∧
  (sK S (sR S a0 5) = 20) ∧
  ((0 : Int) < (sN S (sR S a0 5) : Int)) ∧
  ((G (sR S a0 5) 0 ≤ a9) →
    Q (some (vJ a7)) S F G) ∧
  ((¬ G (sR S a0 5) 0 ≤ a9) →
    Go d MX10_before 66 [some (vR a0), some (vI a1), some (vI a2), some (vI a3), some (vI a4), some (vI a5), some (vI a6), some (vJ a7), none, some (vI a9), some (vI 0)] [] S F G Q)
theorem R_X10_before_52 {d : Nat} {S : AS} {F : AF} {G : AG} {Q : AQ} {a0 : Nat} {a1 : Int} {a2 : Int} {a3 : Int} {a4 : Int} {a5 : Int} {a6 : Int} {a7 : Int} {a9 : Int} (h : V_X10_before_52 d S F G Q a0 a1 a2 a3 a4 a5 a6 a7 a9) : Go d MX10_before 52 [some (vR a0), some (vI a1), some (vI a2), some (vI a3), some (vI a4), some (vI a5), some (vI a6), some (vJ a7), none, some (vI a9), none] [] S F G Q := by
  unfold V_X10_before_52 at h
  refine go_iload (show decode cX10_before 52 = .ok (.iload 9, 2) by decide +kernel) (by rfl) ?_
  refine go_aload_n (show decode cX10_before 54 = .ok (.aload_n 0, 1) by decide +kernel) (by rfl) ?_
  obtain ⟨q1, h⟩ := h
  refine go_getR (show decode cX10_before 55 = .ok (.getfield 29, 3) by decide +kernel) fl_X10_29 rfl q1 ?_
  refine go_iconst (show decode cX10_before 58 = .ok (.iconst 0, 1) by decide +kernel) (by decide) ?_
  obtain ⟨q2, h⟩ := h
  obtain ⟨q3, h⟩ := h
  refine go_iaload (show decode cX10_before 59 = .ok (.iaload, 1) by decide +kernel) q2 (by decide) q3 ?_
  obtain ⟨ht, hf⟩ := h
  refine go_icmpge (tgt := 138) (show decode cX10_before 60 = .ok (.if_icmp .ge 78, 3) by decide +kernel) (by decide) (fun hc => ?_) (fun hc => ?_)
  · have h := ht hc
    refine go_lload (show decode cX10_before 138 = .ok (.lload 7, 2) by decide +kernel) (by rfl) ?_
    exact go_lret (show decode cX10_before 140 = .ok (.lreturn, 1) by decide +kernel) rfl h
  · have h := hf hc
    refine go_iconst (show decode cX10_before 63 = .ok (.iconst 0, 1) by decide +kernel) (by decide) ?_
    refine go_istore (show decode cX10_before 64 = .ok (.istore 10, 2) by decide +kernel) (by decide) ?_
    show Go d MX10_before 66 [some (vR a0), some (vI a1), some (vI a2), some (vI a3), some (vI a4), some (vI a5), some (vI a6), some (vJ a7), none, some (vI a9), some (vI 0)] [] S F G Q
    exact h
def V_X10_before_0 (d : Nat) (S : AS) (F : AF) (G : AG) (Q : AQ) (a0 : Nat) (a1 : Int) (a2 : Int) (a3 : Int) (a4 : Int) (a5 : Int) (a6 : Int) : Prop :=
  (sK S a0 = 10) ∧
  ∀ F2 : AF, F2 = fu F a0 0 0 →
  (r32 ((F2 a0 11) - 1)) ∧
  (1 ≤ d) ∧
  Ok (d - 1) MX10_isIn [vJ a1, vJ 0, vJ ((F2 a0 11) - 1)] S F2 G (fun w5 S6 F7 G8 =>
  ∃ z9 : Int, w5 = some (vI z9) ∧
  ((z9 = 0) →
    Q (some (vJ (-2))) S6 F7 G8) ∧
  ((¬ z9 = 0) →
    Ok (d - 1) MX10_isGood [vI a2] S6 F7 G8 (fun w10 S11 F12 G13 =>
    ∃ z14 : Int, w10 = some (vI z14) ∧
    ((z14 = 0) →
      Q (some (vJ (-2))) S11 F12 G13) ∧
    ((¬ z14 = 0) →
      (sK S11 a0 = 10) ∧
      Ok (d - 1) MX10_isRectangle [vR a0, vI a3, vI a4, vI a5, vI a6] S11 F12 G13 (fun w15 S16 F17 G18 =>
      ∃ z20 : Int, w15 = some (vI z20) ∧
      ((¬ z20 = 0) →
        Go d MX10_before 52 [some (vR a0), some (vI a1), some (vI a2), some (vI a3), some (vI a4), some (vI a5), some (vI a6), some (vJ 0), none, some (vI 0), none] [] S16 F17 G18 Q) ∧
      ((z20 = 0) →
        Q (some (vJ (-2))) S16 F17 G18))))))
theorem R_X10_before_0 {d : Nat} {S : AS} {F : AF} {G : AG} {Q : AQ} {a0 : Nat} {a1 : Int} {a2 : Int} {a3 : Int} {a4 : Int} {a5 : Int} {a6 : Int} (h : V_X10_before_0 d S F G Q a0 a1 a2 a3 a4 a5 a6) : Go d MX10_before 0 [some (vR a0), some (vI a1), some (vI a2), some (vI a3), some (vI a4), some (vI a5), some (vI a6), none, none, none, none] [] S F G Q := by
  unfold V_X10_before_0 at h
  refine go_aload_n (show decode cX10_before 0 = .ok (.aload_n 0, 1) by decide +kernel) (by rfl) ?_
  refine go_iconst (show decode cX10_before 1 = .ok (.iconst 0, 1) by decide +kernel) (by decide) ?_
  obtain ⟨q1, h⟩ := h
  refine go_putI (show decode cX10_before 2 = .ok (.putfield 1, 3) by decide +kernel) fl_X10_1 rfl (Or.inl rfl) q1 ?_
  obtain ⟨F2, F2e⟩ : ∃ F2 : AF, F2 = fu F a0 0 0 := ⟨_, rfl⟩
  have h := h F2 F2e
  rw [← F2e]
  refine go_iload_n (show decode cX10_before 5 = .ok (.iload_n 1, 1) by decide +kernel) (by rfl) ?_
  refine go_i2l (show decode cX10_before 6 = .ok (.i2l, 1) by decide +kernel) ?_
  refine go_lconst (n := 0) (show decode cX10_before 7 = .ok (.lconst 0, 1) by decide +kernel) ?_
  show Go d MX10_before 8 [some (vR a0), some (vI a1), some (vI a2), some (vI a3), some (vI a4), some (vI a5), some (vI a6), none, none, none, none] [vJ 0, vJ a1] S F2 G Q
  refine go_aload_n (show decode cX10_before 8 = .ok (.aload_n 0, 1) by decide +kernel) (by rfl) ?_
  refine go_getI (show decode cX10_before 9 = .ok (.getfield 108, 3) by decide +kernel) fl_X10_108 (Or.inl rfl) q1 ?_
  refine go_iconst (show decode cX10_before 12 = .ok (.iconst 1, 1) by decide +kernel) (by decide) ?_
  obtain ⟨q3, h⟩ := h
  refine go_isub (show decode cX10_before 13 = .ok (.isub, 1) by decide +kernel) q3 ?_
  refine go_i2l (show decode cX10_before 14 = .ok (.i2l, 1) by decide +kernel) ?_
  obtain ⟨q4, h⟩ := h
  refine go_callS (d2 := d - 1) (M2 := MX10_isIn) (n := 3) (av := [vJ a1, vJ 0, vJ ((F2 a0 11) - 1)]) (st := []) (show decode cX10_before 15 = .ok (.invokestatic 116, 3) by decide +kernel) ml_X10_116 mt_X10_isIn mst_X10_isIn rfl (Nat.le_of_ble_eq_true rfl) (by omega) (ok_mono h (fun w5 S6 F7 G8 h => ?_))
  obtain ⟨z9, e9, h⟩ := h
  subst e9
  show Go d MX10_before 18 [some (vR a0), some (vI a1), some (vI a2), some (vI a3), some (vI a4), some (vI a5), some (vI a6), none, none, none, none] [vI z9] S6 F7 G8 Q
  obtain ⟨ht, hf⟩ := h
  refine go_ifeq (tgt := 42) (show decode cX10_before 18 = .ok (.ifCond .eq 24, 3) by decide +kernel) (by decide) (fun hc => ?_) (fun hc => ?_)
  · have h := ht hc
    refine go_ldc2 (show decode cX10_before 42 = .ok (.ldc2_w 174, 3) by decide +kernel) lc_X10_174 (by decide) ?_
    exact go_lret (show decode cX10_before 45 = .ok (.lreturn, 1) by decide +kernel) rfl h
  · have h := hf hc
    refine go_iload_n (show decode cX10_before 21 = .ok (.iload_n 2, 1) by decide +kernel) (by rfl) ?_
    refine go_callS (d2 := d - 1) (M2 := MX10_isGood) (n := 1) (av := [vI a2]) (st := []) (show decode cX10_before 22 = .ok (.invokestatic 167, 3) by decide +kernel) ml_X10_167 mt_X10_isGood mst_X10_isGood rfl (Nat.le_of_ble_eq_true rfl) (by omega) (ok_mono h (fun w10 S11 F12 G13 h => ?_))
    obtain ⟨z14, e9, h⟩ := h
    subst e9
    show Go d MX10_before 25 [some (vR a0), some (vI a1), some (vI a2), some (vI a3), some (vI a4), some (vI a5), some (vI a6), none, none, none, none] [vI z14] S11 F12 G13 Q
    obtain ⟨ht, hf⟩ := h
    refine go_ifeq (tgt := 42) (show decode cX10_before 25 = .ok (.ifCond .eq 17, 3) by decide +kernel) (by decide) (fun hc => ?_) (fun hc => ?_)
    · have h := ht hc
      refine go_ldc2 (show decode cX10_before 42 = .ok (.ldc2_w 174, 3) by decide +kernel) lc_X10_174 (by decide) ?_
      exact go_lret (show decode cX10_before 45 = .ok (.lreturn, 1) by decide +kernel) rfl h
    · have h := hf hc
      refine go_aload_n (show decode cX10_before 28 = .ok (.aload_n 0, 1) by decide +kernel) (by rfl) ?_
      refine go_iload_n (show decode cX10_before 29 = .ok (.iload_n 3, 1) by decide +kernel) (by rfl) ?_
      refine go_iload (show decode cX10_before 30 = .ok (.iload 4, 2) by decide +kernel) (by rfl) ?_
      refine go_iload (show decode cX10_before 32 = .ok (.iload 5, 2) by decide +kernel) (by rfl) ?_
      refine go_iload (show decode cX10_before 34 = .ok (.iload 6, 2) by decide +kernel) (by rfl) ?_
      obtain ⟨q19, h⟩ := h
      refine go_callV (d2 := d - 1) (M2 := MX10_isRectangle) (n := 4) (ci := 10) (av := [vI a3, vI a4, vI a5, vI a6]) (st := []) (show decode cX10_before 36 = .ok (.invokevirtual 170, 3) by decide +kernel) ml_X10_170 mt_X10_isRectangle min_X10_isRectangle mse_X10_isRectangle (by decide) q19 rfl (Nat.le_of_ble_eq_true rfl) (by omega) (ok_mono h (fun w15 S16 F17 G18 h => ?_))
      obtain ⟨z20, e9, h⟩ := h
      subst e9
      show Go d MX10_before 39 [some (vR a0), some (vI a1), some (vI a2), some (vI a3), some (vI a4), some (vI a5), some (vI a6), none, none, none, none] [vI z20] S16 F17 G18 Q
      obtain ⟨ht, hf⟩ := h
      refine go_ifne (tgt := 46) (show decode cX10_before 39 = .ok (.ifCond .ne 7, 3) by decide +kernel) (by decide) (fun hc => ?_) (fun hc => ?_)
      · have h := ht hc
        refine go_lconst (n := 0) (show decode cX10_before 46 = .ok (.lconst 0, 1) by decide +kernel) ?_
        show Go d MX10_before 47 [some (vR a0), some (vI a1), some (vI a2), some (vI a3), some (vI a4), some (vI a5), some (vI a6), none, none, none, none] [vJ 0] S16 F17 G18 Q
        refine go_lstore (show decode cX10_before 47 = .ok (.lstore 7, 2) by decide +kernel) (by decide) ?_
        show Go d MX10_before 49 [some (vR a0), some (vI a1), some (vI a2), some (vI a3), some (vI a4), some (vI a5), some (vI a6), some (vJ 0), none, none, none] [] S16 F17 G18 Q
        refine go_iconst (show decode cX10_before 49 = .ok (.iconst 0, 1) by decide +kernel) (by decide) ?_
        refine go_istore (show decode cX10_before 50 = .ok (.istore 9, 2) by decide +kernel) (by decide) ?_
        show Go d MX10_before 52 [some (vR a0), some (vI a1), some (vI a2), some (vI a3), some (vI a4), some (vI a5), some (vI a6), some (vJ 0), none, some (vI 0), none] [] S16 F17 G18 Q
        exact h
      · have h := hf hc
        refine go_ldc2 (show decode cX10_before 42 = .ok (.ldc2_w 174, 3) by decide +kernel) lc_X10_174 (by decide) ?_
        exact go_lret (show decode cX10_before 45 = .ok (.lreturn, 1) by decide +kernel) rfl h
def V_X10_find_84 (d : Nat) (S : AS) (F : AF) (G : AG) (Q : AQ) (a0 : Nat) (a1 : Int) (a2 : Int) (a3 : Int) (s0 : Int) : Prop :=
  (sK S a0 = 10) ∧
  (1 ≤ d) ∧
  Ok (d - 1) MX10_number [vR a0, vI (F a0 21), vI (F a0 22)] S F G (fun w3 S4 F5 G6 =>
  ∃ z7 : Int, w3 = some (vJ z7) ∧
  Q (some (vJ z7)) S4 F5 G6)
theorem R_X10_find_84 {d : Nat} {S : AS} {F : AF} {G : AG} {Q : AQ} {a0 : Nat} {a1 : Int} {a2 : Int} {a3 : Int} {s0 : Int} (h : V_X10_find_84 d S F G Q a0 a1 a2 a3 s0) : Go d MX10_find 84 [some (vR a0), some (vI a1), some (vI a2), some (vJ a3), none, none] [vI s0] S F G Q := by
  unfold V_X10_find_84 at h
  refine go_istore (show decode cX10_find 84 = .ok (.istore 5, 2) by decide +kernel) (by decide) ?_
  show Go d MX10_find 86 [some (vR a0), some (vI a1), some (vI a2), some (vJ a3), none, some (vI s0)] [] S F G Q
  refine go_aload_n (show decode cX10_find 86 = .ok (.aload_n 0, 1) by decide +kernel) (by rfl) ?_
  refine go_aload_n (show decode cX10_find 87 = .ok (.aload_n 0, 1) by decide +kernel) (by rfl) ?_
  obtain ⟨q1, h⟩ := h
  refine go_getI (show decode cX10_find 88 = .ok (.getfield 224, 3) by decide +kernel) fl_X10_224 (Or.inl rfl) q1 ?_
  refine go_aload_n (show decode cX10_find 91 = .ok (.aload_n 0, 1) by decide +kernel) (by rfl) ?_
  refine go_getI (show decode cX10_find 92 = .ok (.getfield 221, 3) by decide +kernel) fl_X10_221 (Or.inl rfl) q1 ?_
  obtain ⟨q2, h⟩ := h
  refine go_callV (d2 := d - 1) (M2 := MX10_number) (n := 2) (ci := 10) (av := [vI (F a0 21), vI (F a0 22)]) (st := []) (show decode cX10_find 95 = .ok (.invokevirtual 268, 3) by decide +kernel) ml_X10_268 mt_X10_number min_X10_number mse_X10_number (by decide) q1 rfl (Nat.le_of_ble_eq_true rfl) (by omega) (ok_mono h (fun w3 S4 F5 G6 h => ?_))
  obtain ⟨z7, e9, h⟩ := h
  subst e9
  show Go d MX10_find 98 [some (vR a0), some (vI a1), some (vI a2), some (vJ a3), none, some (vI s0)] [vJ z7] S4 F5 G6 Q
  exact go_lret (show decode cX10_find 98 = .ok (.lreturn, 1) by decide +kernel) rfl h
def V_X10_find_0 (d : Nat) (S : AS) (F : AF) (G : AG) (Q : AQ) (a0 : Nat) (a1 : Int) (a2 : Int) (a3 : Int) : Prop :=
  (sK S a0 = 10) ∧
  ∀ F2 : AF, F2 = fu F a0 0 0 →
  (1 ≤ d) ∧
  Ok (d - 1) MX10_isGood [vI a1] S F2 G (fun w4 S5 F6 G7 =>
  ∃ z8 : Int, w4 = some (vI z8) ∧
  ((z8 = 0) →
    Q (some (vJ (-2))) S5 F6 G7) ∧
  ((¬ z8 = 0) →
    Ok (d - 1) MX10_isIn [vJ a2, vJ 0, vJ 1] S5 F6 G7 (fun w9 S10 F11 G12 =>
    ∃ z13 : Int, w9 = some (vI z13) ∧
    ((¬ z13 = 0) →
      ((1 ≤ a3) →
        (sK S10 a0 = 10) ∧
        (sK S10 (sR S10 a0 9) = 21) ∧
        ((0 : Int) ≤ a1) ∧
        ((a1 : Int) < (sN S10 (sR S10 a0 9) : Int)) ∧
        ((a3 ≤ G12 (sR S10 a0 9) a1) →
          ((¬ a2 = 0) →
            Ok (d - 1) MX10_findsDown [vR a0, vI a1, vJ a3] S10 F11 G12 (fun w18 S19 F20 G21 =>
            ∃ z22 : Int, w18 = some (vI z22) ∧
            V_X10_find_84 d S19 F20 G21 Q a0 a1 a2 a3 z22)) ∧
          ((a2 = 0) →
            (r32 ((F11 a0 1) - 1)) ∧
            (r32 ((F11 a0 2) - 1)) ∧
            Ok (d - 1) MX10_finds [vR a0, vI a1, vI 0, vI 0, vI ((F11 a0 1) - 1), vI ((F11 a0 2) - 1), vJ a3] S10 F11 G12 (fun w25 S26 F27 G28 =>
            ∃ z29 : Int, w25 = some (vI z29) ∧
            V_X10_find_84 d S26 F27 G28 Q a0 a1 a2 a3 z29))) ∧
        ((¬ a3 ≤ G12 (sR S10 a0 9) a1) →
          Q (some (vJ (-1))) S10 F11 G12)) ∧
      ((¬ 1 ≤ a3) →
        Q (some (vJ (-3))) S10 F11 G12)) ∧
    ((z13 = 0) →
      Q (some (vJ (-2))) S10 F11 G12))))
theorem R_X10_find_0 {d : Nat} {S : AS} {F : AF} {G : AG} {Q : AQ} {a0 : Nat} {a1 : Int} {a2 : Int} {a3 : Int} (h : V_X10_find_0 d S F G Q a0 a1 a2 a3) : Go d MX10_find 0 [some (vR a0), some (vI a1), some (vI a2), some (vJ a3), none, none] [] S F G Q := by
  unfold V_X10_find_0 at h
  refine go_aload_n (show decode cX10_find 0 = .ok (.aload_n 0, 1) by decide +kernel) (by rfl) ?_
  refine go_iconst (show decode cX10_find 1 = .ok (.iconst 0, 1) by decide +kernel) (by decide) ?_
  obtain ⟨q1, h⟩ := h
  refine go_putI (show decode cX10_find 2 = .ok (.putfield 1, 3) by decide +kernel) fl_X10_1 rfl (Or.inl rfl) q1 ?_
  obtain ⟨F2, F2e⟩ : ∃ F2 : AF, F2 = fu F a0 0 0 := ⟨_, rfl⟩
  have h := h F2 F2e
  rw [← F2e]
  refine go_iload_n (show decode cX10_find 5 = .ok (.iload_n 1, 1) by decide +kernel) (by rfl) ?_
  obtain ⟨q3, h⟩ := h
  refine go_callS (d2 := d - 1) (M2 := MX10_isGood) (n := 1) (av := [vI a1]) (st := []) (show decode cX10_find 6 = .ok (.invokestatic 167, 3) by decide +kernel) ml_X10_167 mt_X10_isGood mst_X10_isGood rfl (Nat.le_of_ble_eq_true rfl) (by omega) (ok_mono h (fun w4 S5 F6 G7 h => ?_))
  obtain ⟨z8, e9, h⟩ := h
  subst e9
  show Go d MX10_find 9 [some (vR a0), some (vI a1), some (vI a2), some (vJ a3), none, none] [vI z8] S5 F6 G7 Q
  obtain ⟨ht, hf⟩ := h
  refine go_ifeq (tgt := 22) (show decode cX10_find 9 = .ok (.ifCond .eq 13, 3) by decide +kernel) (by decide) (fun hc => ?_) (fun hc => ?_)
  · have h := ht hc
    refine go_ldc2 (show decode cX10_find 22 = .ok (.ldc2_w 174, 3) by decide +kernel) lc_X10_174 (by decide) ?_
    exact go_lret (show decode cX10_find 25 = .ok (.lreturn, 1) by decide +kernel) rfl h
  · have h := hf hc
    refine go_iload_n (show decode cX10_find 12 = .ok (.iload_n 2, 1) by decide +kernel) (by rfl) ?_
    refine go_i2l (show decode cX10_find 13 = .ok (.i2l, 1) by decide +kernel) ?_
    refine go_lconst (n := 0) (show decode cX10_find 14 = .ok (.lconst 0, 1) by decide +kernel) ?_
    show Go d MX10_find 15 [some (vR a0), some (vI a1), some (vI a2), some (vJ a3), none, none] [vJ 0, vJ a2] S5 F6 G7 Q
    refine go_lconst (n := 1) (show decode cX10_find 15 = .ok (.lconst 1, 1) by decide +kernel) ?_
    show Go d MX10_find 16 [some (vR a0), some (vI a1), some (vI a2), some (vJ a3), none, none] [vJ 1, vJ 0, vJ a2] S5 F6 G7 Q
    refine go_callS (d2 := d - 1) (M2 := MX10_isIn) (n := 3) (av := [vJ a2, vJ 0, vJ 1]) (st := []) (show decode cX10_find 16 = .ok (.invokestatic 116, 3) by decide +kernel) ml_X10_116 mt_X10_isIn mst_X10_isIn rfl (Nat.le_of_ble_eq_true rfl) (by omega) (ok_mono h (fun w9 S10 F11 G12 h => ?_))
    obtain ⟨z13, e9, h⟩ := h
    subst e9
    show Go d MX10_find 19 [some (vR a0), some (vI a1), some (vI a2), some (vJ a3), none, none] [vI z13] S10 F11 G12 Q
    obtain ⟨ht, hf⟩ := h
    refine go_ifne (tgt := 26) (show decode cX10_find 19 = .ok (.ifCond .ne 7, 3) by decide +kernel) (by decide) (fun hc => ?_) (fun hc => ?_)
    · have h := ht hc
      refine go_lload_n (show decode cX10_find 26 = .ok (.lload_n 3, 1) by decide +kernel) (by rfl) ?_
      refine go_lconst (n := 1) (show decode cX10_find 27 = .ok (.lconst 1, 1) by decide +kernel) ?_
      show Go d MX10_find 28 [some (vR a0), some (vI a1), some (vI a2), some (vJ a3), none, none] [vJ 1, vJ a3] S10 F11 G12 Q
      obtain ⟨ht, hf⟩ := h
      refine go_jge (tgt := 36) (show decode cX10_find 28 = .ok (.lcmp, 1) by decide +kernel) (show decode cX10_find 29 = .ok (.ifCond .ge 7, 3) by decide +kernel) (by decide) (fun hc => ?_) (fun hc => ?_)
      · have h := ht hc
        refine go_lload_n (show decode cX10_find 36 = .ok (.lload_n 3, 1) by decide +kernel) (by rfl) ?_
        refine go_aload_n (show decode cX10_find 37 = .ok (.aload_n 0, 1) by decide +kernel) (by rfl) ?_
        obtain ⟨q14, h⟩ := h
        refine go_getR (show decode cX10_find 38 = .ok (.getfield 43, 3) by decide +kernel) fl_X10_43 rfl q14 ?_
        refine go_iload_n (show decode cX10_find 41 = .ok (.iload_n 1, 1) by decide +kernel) (by rfl) ?_
        obtain ⟨q15, h⟩ := h
        obtain ⟨q16, h⟩ := h
        obtain ⟨q17, h⟩ := h
        refine go_laload (show decode cX10_find 42 = .ok (.laload, 1) by decide +kernel) q15 q16 q17 ?_
        obtain ⟨ht, hf⟩ := h
        refine go_jle (tgt := 51) (show decode cX10_find 43 = .ok (.lcmp, 1) by decide +kernel) (show decode cX10_find 44 = .ok (.ifCond .le 7, 3) by decide +kernel) (by decide) (fun hc => ?_) (fun hc => ?_)
        · have h := ht hc
          refine go_iload_n (show decode cX10_find 51 = .ok (.iload_n 2, 1) by decide +kernel) (by rfl) ?_
          obtain ⟨ht, hf⟩ := h
          refine go_ifne (tgt := 78) (show decode cX10_find 52 = .ok (.ifCond .ne 26, 3) by decide +kernel) (by decide) (fun hc => ?_) (fun hc => ?_)
          · have h := ht hc
            refine go_aload_n (show decode cX10_find 78 = .ok (.aload_n 0, 1) by decide +kernel) (by rfl) ?_
            refine go_iload_n (show decode cX10_find 79 = .ok (.iload_n 1, 1) by decide +kernel) (by rfl) ?_
            refine go_lload_n (show decode cX10_find 80 = .ok (.lload_n 3, 1) by decide +kernel) (by rfl) ?_
            refine go_callV (d2 := d - 1) (M2 := MX10_findsDown) (n := 2) (ci := 10) (av := [vI a1, vJ a3]) (st := []) (show decode cX10_find 81 = .ok (.invokevirtual 437, 3) by decide +kernel) ml_X10_437 mt_X10_findsDown min_X10_findsDown mse_X10_findsDown (by decide) q14 rfl (Nat.le_of_ble_eq_true rfl) (by omega) (ok_mono h (fun w18 S19 F20 G21 h => ?_))
            obtain ⟨z22, e9, h⟩ := h
            subst e9
            show Go d MX10_find 84 [some (vR a0), some (vI a1), some (vI a2), some (vJ a3), none, none] [vI z22] S19 F20 G21 Q
            exact R_X10_find_84 h
          · have h := hf hc
            refine go_aload_n (show decode cX10_find 55 = .ok (.aload_n 0, 1) by decide +kernel) (by rfl) ?_
            refine go_iload_n (show decode cX10_find 56 = .ok (.iload_n 1, 1) by decide +kernel) (by rfl) ?_
            refine go_iconst (show decode cX10_find 57 = .ok (.iconst 0, 1) by decide +kernel) (by decide) ?_
            refine go_iconst (show decode cX10_find 58 = .ok (.iconst 0, 1) by decide +kernel) (by decide) ?_
            refine go_aload_n (show decode cX10_find 59 = .ok (.aload_n 0, 1) by decide +kernel) (by rfl) ?_
            refine go_getI (show decode cX10_find 60 = .ok (.getfield 13, 3) by decide +kernel) fl_X10_13 (Or.inl rfl) q14 ?_
            refine go_iconst (show decode cX10_find 63 = .ok (.iconst 1, 1) by decide +kernel) (by decide) ?_
            obtain ⟨q23, h⟩ := h
            refine go_isub (show decode cX10_find 64 = .ok (.isub, 1) by decide +kernel) q23 ?_
            refine go_aload_n (show decode cX10_find 65 = .ok (.aload_n 0, 1) by decide +kernel) (by rfl) ?_
            refine go_getI (show decode cX10_find 66 = .ok (.getfield 16, 3) by decide +kernel) fl_X10_16 (Or.inl rfl) q14 ?_
            refine go_iconst (show decode cX10_find 69 = .ok (.iconst 1, 1) by decide +kernel) (by decide) ?_
            obtain ⟨q24, h⟩ := h
            refine go_isub (show decode cX10_find 70 = .ok (.isub, 1) by decide +kernel) q24 ?_
            refine go_lload_n (show decode cX10_find 71 = .ok (.lload_n 3, 1) by decide +kernel) (by rfl) ?_
            refine go_callV (d2 := d - 1) (M2 := MX10_finds) (n := 6) (ci := 10) (av := [vI a1, vI 0, vI 0, vI ((F11 a0 1) - 1), vI ((F11 a0 2) - 1), vJ a3]) (st := []) (show decode cX10_find 72 = .ok (.invokevirtual 255, 3) by decide +kernel) ml_X10_255 mt_X10_finds min_X10_finds mse_X10_finds (by decide) q14 rfl (Nat.le_of_ble_eq_true rfl) (by omega) (ok_mono h (fun w25 S26 F27 G28 h => ?_))
            obtain ⟨z29, e9, h⟩ := h
            subst e9
            show Go d MX10_find 75 [some (vR a0), some (vI a1), some (vI a2), some (vJ a3), none, none] [vI z29] S26 F27 G28 Q
            refine go_goto (tgt := 84) (show decode cX10_find 75 = .ok (.goto 9, 3) by decide +kernel) (by decide) ?_
            exact R_X10_find_84 h
        · have h := hf hc
          refine go_ldc2 (show decode cX10_find 47 = .ok (.ldc2_w 311, 3) by decide +kernel) lc_X10_311 (by decide) ?_
          exact go_lret (show decode cX10_find 50 = .ok (.lreturn, 1) by decide +kernel) rfl h
      · have h := hf hc
        refine go_ldc2 (show decode cX10_find 32 = .ok (.ldc2_w 120, 3) by decide +kernel) lc_X10_120 (by decide) ?_
        exact go_lret (show decode cX10_find 35 = .ok (.lreturn, 1) by decide +kernel) rfl h
    · have h := hf hc
      refine go_ldc2 (show decode cX10_find 22 = .ok (.ldc2_w 174, 3) by decide +kernel) lc_X10_174 (by decide) ?_
      exact go_lret (show decode cX10_find 25 = .ok (.lreturn, 1) by decide +kernel) rfl h
def V_X10_findsDown_104 (d : Nat) (S : AS) (F : AF) (G : AG) (Q : AQ) (a0 : Nat) (a1 : Int) (a2 : Int) (a4 : Int) (a6 : Int) (a7 : Int) (a9 : Int) (a11 : Int) : Prop :=
  (1 ≤ d) ∧
  (sK S a0 = 10) ∧
  Ok (d - 1) MX10_in [vR a0, vI a1, vI a6, vI a11] S F G (fun w2 S3 F4 G5 =>
  ∃ z7 : Int, w2 = some (vJ z7) ∧
  (sK S3 a0 = 10) ∧
  Ok (d - 1) MX10_downOf [vR a0, vI a11] S3 F4 G5 (fun w8 S9 F10 G11 =>
  ∃ z13 : Int, w8 = some (vI z13) ∧
  (r64 (z7 * z13)) ∧
  ((a4 ≤ z7 * z13) →
    (sK S9 a0 = 10) ∧
    Ok (d - 1) MX10_in [vR a0, vI a1, vI a6, vI a11] S9 F10 G11 (fun w15 S16 F17 G18 =>
    ∃ z20 : Int, w15 = some (vJ z20) ∧
    (r64 (a4 - 1)) ∧
    (¬ z20 = 0) ∧
    (r64 (Int.tdiv (a4 - 1) z20)) ∧
    (r32 (Int.tdiv (a4 - 1) z20)) ∧
    (sK S16 a0 = 10) ∧
    Ok (d - 1) MX10_edgeAt [vR a0, vI 1, vI a11] S16 F17 G18 (fun w25 S26 F27 G28 =>
    ∃ z30 : Int, w25 = some (vI z30) ∧
    (r32 ((Int.tdiv (a4 - 1) z20) + z30)) ∧
    (sK S26 a0 = 10) ∧
    ∀ F33 : AF, F33 = fu F27 a0 22 ((Int.tdiv (a4 - 1) z20) + z30) →
    Q (some (vI 1)) S26 F33 G28))) ∧
  ((¬ a4 ≤ z7 * z13) →
    (sK S9 a0 = 10) ∧
    Ok (d - 1) MX10_in [vR a0, vI a1, vI a6, vI a11] S9 F10 G11 (fun w34 S35 F36 G37 =>
    ∃ z39 : Int, w34 = some (vJ z39) ∧
    (sK S35 a0 = 10) ∧
    Ok (d - 1) MX10_downOf [vR a0, vI a11] S35 F36 G37 (fun w40 S41 F42 G43 =>
    ∃ z45 : Int, w40 = some (vI z45) ∧
    (r64 (z39 * z45)) ∧
    (r64 (a4 - (z39 * z45))) ∧
    ∀ x48 : Int, x48 = a4 - (z39 * z45) →
    (r32 (a11 + 1)) ∧
    Go d MX10_findsDown 104 [some (vR a0), some (vI a1), some (vJ a2), none, some (vJ x48), none, some (vI a6), some (vJ a7), none, some (vJ a9), none, some (vI (a11 + 1)), none, none] [] S41 F42 G43 Q)))))
theorem R_X10_findsDown_104 {d : Nat} {S : AS} {F : AF} {G : AG} {Q : AQ} {a0 : Nat} {a1 : Int} {a2 : Int} {a4 : Int} {a6 : Int} {a7 : Int} {a9 : Int} {a11 : Int} (h : V_X10_findsDown_104 d S F G Q a0 a1 a2 a4 a6 a7 a9 a11) : Go d MX10_findsDown 104 [some (vR a0), some (vI a1), some (vJ a2), none, some (vJ a4), none, some (vI a6), some (vJ a7), none, some (vJ a9), none, some (vI a11), none, none] [] S F G Q := by
  unfold V_X10_findsDown_104 at h
  refine go_aload_n (show decode cX10_findsDown 104 = .ok (.aload_n 0, 1) by decide +kernel) (by rfl) ?_
  refine go_iload_n (show decode cX10_findsDown 105 = .ok (.iload_n 1, 1) by decide +kernel) (by rfl) ?_
  refine go_iload (show decode cX10_findsDown 106 = .ok (.iload 6, 2) by decide +kernel) (by rfl) ?_
  refine go_iload (show decode cX10_findsDown 108 = .ok (.iload 11, 2) by decide +kernel) (by rfl) ?_
  obtain ⟨q1, h⟩ := h
  obtain ⟨q6, h⟩ := h
  refine go_callV (d2 := d - 1) (M2 := MX10_in) (n := 3) (ci := 10) (av := [vI a1, vI a6, vI a11]) (st := []) (show decode cX10_findsDown 110 = .ok (.invokevirtual 163, 3) by decide +kernel) ml_X10_163 mt_X10_in min_X10_in mse_X10_in (by decide) q6 rfl (Nat.le_of_ble_eq_true rfl) (by omega) (ok_mono h (fun w2 S3 F4 G5 h => ?_))
  obtain ⟨z7, e9, h⟩ := h
  subst e9
  show Go d MX10_findsDown 113 [some (vR a0), some (vI a1), some (vJ a2), none, some (vJ a4), none, some (vI a6), some (vJ a7), none, some (vJ a9), none, some (vI a11), none, none] [vJ z7] S3 F4 G5 Q
  refine go_aload_n (show decode cX10_findsDown 113 = .ok (.aload_n 0, 1) by decide +kernel) (by rfl) ?_
  refine go_iload (show decode cX10_findsDown 114 = .ok (.iload 11, 2) by decide +kernel) (by rfl) ?_
  obtain ⟨q12, h⟩ := h
  refine go_callV (d2 := d - 1) (M2 := MX10_downOf) (n := 1) (ci := 10) (av := [vI a11]) (st := [vJ z7]) (show decode cX10_findsDown 116 = .ok (.invokevirtual 236, 3) by decide +kernel) ml_X10_236 mt_X10_downOf min_X10_downOf mse_X10_downOf (by decide) q12 rfl (Nat.le_of_ble_eq_true rfl) (by omega) (ok_mono h (fun w8 S9 F10 G11 h => ?_))
  obtain ⟨z13, e9, h⟩ := h
  subst e9
  show Go d MX10_findsDown 119 [some (vR a0), some (vI a1), some (vJ a2), none, some (vJ a4), none, some (vI a6), some (vJ a7), none, some (vJ a9), none, some (vI a11), none, none] [vI z13, vJ z7] S9 F10 G11 Q
  refine go_i2l (show decode cX10_findsDown 119 = .ok (.i2l, 1) by decide +kernel) ?_
  obtain ⟨q14, h⟩ := h
  refine go_lmul (show decode cX10_findsDown 120 = .ok (.lmul, 1) by decide +kernel) q14 ?_
  refine go_lload (show decode cX10_findsDown 121 = .ok (.lload 4, 2) by decide +kernel) (by rfl) ?_
  obtain ⟨ht, hf⟩ := h
  refine go_jge (tgt := 155) (show decode cX10_findsDown 123 = .ok (.lcmp, 1) by decide +kernel) (show decode cX10_findsDown 124 = .ok (.ifCond .ge 31, 3) by decide +kernel) (by decide) (fun hc => ?_) (fun hc => ?_)
  · have h := ht hc
    refine go_aload_n (show decode cX10_findsDown 155 = .ok (.aload_n 0, 1) by decide +kernel) (by rfl) ?_
    refine go_iload_n (show decode cX10_findsDown 156 = .ok (.iload_n 1, 1) by decide +kernel) (by rfl) ?_
    refine go_iload (show decode cX10_findsDown 157 = .ok (.iload 6, 2) by decide +kernel) (by rfl) ?_
    refine go_iload (show decode cX10_findsDown 159 = .ok (.iload 11, 2) by decide +kernel) (by rfl) ?_
    obtain ⟨q19, h⟩ := h
    refine go_callV (d2 := d - 1) (M2 := MX10_in) (n := 3) (ci := 10) (av := [vI a1, vI a6, vI a11]) (st := []) (show decode cX10_findsDown 161 = .ok (.invokevirtual 163, 3) by decide +kernel) ml_X10_163 mt_X10_in min_X10_in mse_X10_in (by decide) q19 rfl (Nat.le_of_ble_eq_true rfl) (by omega) (ok_mono h (fun w15 S16 F17 G18 h => ?_))
    obtain ⟨z20, e9, h⟩ := h
    subst e9
    show Go d MX10_findsDown 164 [some (vR a0), some (vI a1), some (vJ a2), none, some (vJ a4), none, some (vI a6), some (vJ a7), none, some (vJ a9), none, some (vI a11), none, none] [vJ z20] S16 F17 G18 Q
    refine go_lstore (show decode cX10_findsDown 164 = .ok (.lstore 12, 2) by decide +kernel) (by decide) ?_
    show Go d MX10_findsDown 166 [some (vR a0), some (vI a1), some (vJ a2), none, some (vJ a4), none, some (vI a6), some (vJ a7), none, some (vJ a9), none, some (vI a11), some (vJ z20), none] [] S16 F17 G18 Q
    refine go_aload_n (show decode cX10_findsDown 166 = .ok (.aload_n 0, 1) by decide +kernel) (by rfl) ?_
    refine go_lload (show decode cX10_findsDown 167 = .ok (.lload 4, 2) by decide +kernel) (by rfl) ?_
    refine go_lconst (n := 1) (show decode cX10_findsDown 169 = .ok (.lconst 1, 1) by decide +kernel) ?_
    show Go d MX10_findsDown 170 [some (vR a0), some (vI a1), some (vJ a2), none, some (vJ a4), none, some (vI a6), some (vJ a7), none, some (vJ a9), none, some (vI a11), some (vJ z20), none] [vJ 1, vJ a4, vR a0] S16 F17 G18 Q
    obtain ⟨q21, h⟩ := h
    refine go_lsub (show decode cX10_findsDown 170 = .ok (.lsub, 1) by decide +kernel) q21 ?_
    refine go_lload (show decode cX10_findsDown 171 = .ok (.lload 12, 2) by decide +kernel) (by rfl) ?_
    obtain ⟨q22, h⟩ := h
    obtain ⟨q23, h⟩ := h
    refine go_ldiv (show decode cX10_findsDown 173 = .ok (.ldiv, 1) by decide +kernel) q22 q23 ?_
    obtain ⟨q24, h⟩ := h
    refine go_l2i (show decode cX10_findsDown 174 = .ok (.l2i, 1) by decide +kernel) q24 ?_
    refine go_aload_n (show decode cX10_findsDown 175 = .ok (.aload_n 0, 1) by decide +kernel) (by rfl) ?_
    refine go_iconst (show decode cX10_findsDown 176 = .ok (.iconst 1, 1) by decide +kernel) (by decide) ?_
    refine go_iload (show decode cX10_findsDown 177 = .ok (.iload 11, 2) by decide +kernel) (by rfl) ?_
    obtain ⟨q29, h⟩ := h
    refine go_callV (d2 := d - 1) (M2 := MX10_edgeAt) (n := 2) (ci := 10) (av := [vI 1, vI a11]) (st := [vI (Int.tdiv (a4 - 1) z20), vR a0]) (show decode cX10_findsDown 179 = .ok (.invokevirtual 126, 3) by decide +kernel) ml_X10_126 mt_X10_edgeAt min_X10_edgeAt mse_X10_edgeAt (by decide) q29 rfl (Nat.le_of_ble_eq_true rfl) (by omega) (ok_mono h (fun w25 S26 F27 G28 h => ?_))
    obtain ⟨z30, e9, h⟩ := h
    subst e9
    show Go d MX10_findsDown 182 [some (vR a0), some (vI a1), some (vJ a2), none, some (vJ a4), none, some (vI a6), some (vJ a7), none, some (vJ a9), none, some (vI a11), some (vJ z20), none] [vI z30, vI (Int.tdiv (a4 - 1) z20), vR a0] S26 F27 G28 Q
    obtain ⟨q31, h⟩ := h
    refine go_iadd (show decode cX10_findsDown 182 = .ok (.iadd, 1) by decide +kernel) q31 ?_
    obtain ⟨q32, h⟩ := h
    refine go_putI (show decode cX10_findsDown 183 = .ok (.putfield 221, 3) by decide +kernel) fl_X10_221 rfl (Or.inl rfl) q32 ?_
    obtain ⟨F33, F33e⟩ : ∃ F33 : AF, F33 = fu F27 a0 22 ((Int.tdiv (a4 - 1) z20) + z30) := ⟨_, rfl⟩
    have h := h F33 F33e
    rw [← F33e]
    refine go_iconst (show decode cX10_findsDown 186 = .ok (.iconst 1, 1) by decide +kernel) (by decide) ?_
    exact go_zret (show decode cX10_findsDown 187 = .ok (.ireturn, 1) by decide +kernel) rfl (by decide) h
  · have h := hf hc
    refine go_lload (show decode cX10_findsDown 127 = .ok (.lload 4, 2) by decide +kernel) (by rfl) ?_
    refine go_aload_n (show decode cX10_findsDown 129 = .ok (.aload_n 0, 1) by decide +kernel) (by rfl) ?_
    refine go_iload_n (show decode cX10_findsDown 130 = .ok (.iload_n 1, 1) by decide +kernel) (by rfl) ?_
    refine go_iload (show decode cX10_findsDown 131 = .ok (.iload 6, 2) by decide +kernel) (by rfl) ?_
    refine go_iload (show decode cX10_findsDown 133 = .ok (.iload 11, 2) by decide +kernel) (by rfl) ?_
    obtain ⟨q38, h⟩ := h
    refine go_callV (d2 := d - 1) (M2 := MX10_in) (n := 3) (ci := 10) (av := [vI a1, vI a6, vI a11]) (st := [vJ a4]) (show decode cX10_findsDown 135 = .ok (.invokevirtual 163, 3) by decide +kernel) ml_X10_163 mt_X10_in min_X10_in mse_X10_in (by decide) q38 rfl (Nat.le_of_ble_eq_true rfl) (by omega) (ok_mono h (fun w34 S35 F36 G37 h => ?_))
    obtain ⟨z39, e9, h⟩ := h
    subst e9
    show Go d MX10_findsDown 138 [some (vR a0), some (vI a1), some (vJ a2), none, some (vJ a4), none, some (vI a6), some (vJ a7), none, some (vJ a9), none, some (vI a11), none, none] [vJ z39, vJ a4] S35 F36 G37 Q
    refine go_aload_n (show decode cX10_findsDown 138 = .ok (.aload_n 0, 1) by decide +kernel) (by rfl) ?_
    refine go_iload (show decode cX10_findsDown 139 = .ok (.iload 11, 2) by decide +kernel) (by rfl) ?_
    obtain ⟨q44, h⟩ := h
    refine go_callV (d2 := d - 1) (M2 := MX10_downOf) (n := 1) (ci := 10) (av := [vI a11]) (st := [vJ z39, vJ a4]) (show decode cX10_findsDown 141 = .ok (.invokevirtual 236, 3) by decide +kernel) ml_X10_236 mt_X10_downOf min_X10_downOf mse_X10_downOf (by decide) q44 rfl (Nat.le_of_ble_eq_true rfl) (by omega) (ok_mono h (fun w40 S41 F42 G43 h => ?_))
    obtain ⟨z45, e9, h⟩ := h
    subst e9
    show Go d MX10_findsDown 144 [some (vR a0), some (vI a1), some (vJ a2), none, some (vJ a4), none, some (vI a6), some (vJ a7), none, some (vJ a9), none, some (vI a11), none, none] [vI z45, vJ z39, vJ a4] S41 F42 G43 Q
    refine go_i2l (show decode cX10_findsDown 144 = .ok (.i2l, 1) by decide +kernel) ?_
    obtain ⟨q46, h⟩ := h
    refine go_lmul (show decode cX10_findsDown 145 = .ok (.lmul, 1) by decide +kernel) q46 ?_
    obtain ⟨q47, h⟩ := h
    refine go_lsub (show decode cX10_findsDown 146 = .ok (.lsub, 1) by decide +kernel) q47 ?_
    obtain ⟨x48, x48e⟩ : ∃ x48 : Int, x48 = a4 - (z39 * z45) := ⟨_, rfl⟩
    have h := h x48 x48e
    rw [← x48e]
    refine go_lstore (show decode cX10_findsDown 147 = .ok (.lstore 4, 2) by decide +kernel) (by decide) ?_
    show Go d MX10_findsDown 149 [some (vR a0), some (vI a1), some (vJ a2), none, some (vJ x48), none, some (vI a6), some (vJ a7), none, some (vJ a9), none, some (vI a11), none, none] [] S41 F42 G43 Q
    obtain ⟨q49, h⟩ := h
    refine go_iinc (show decode cX10_findsDown 149 = .ok (.iinc 11 1, 3) by decide +kernel) (by rfl) q49 (by decide) ?_
    show Go d MX10_findsDown 152 [some (vR a0), some (vI a1), some (vJ a2), none, some (vJ x48), none, some (vI a6), some (vJ a7), none, some (vJ a9), none, some (vI (a11 + 1)), none, none] [] S41 F42 G43 Q
    refine go_goto (tgt := 104) (show decode cX10_findsDown 152 = .ok (.goto (-48), 3) by decide +kernel) (by decide) ?_
    exact h
def V_X10_findsDown_6 (d : Nat) (S : AS) (F : AF) (G : AG) (Q : AQ) (a0 : Nat) (a1 : Int) (a2 : Int) (a4 : Int) (a6 : Int) : Prop :=
  (sK S a0 = 10) ∧
  (sK S (sR S a0 5) = 20) ∧
  ((0 : Int) < (sN S (sR S a0 5) : Int)) ∧
  ((G (sR S a0 5) 0 ≤ a6) →
    Q (some (vI 0)) S F G) ∧
  ((¬ G (sR S a0 5) 0 ≤ a6) →
    (r32 ((F a0 2) - 1)) ∧
    (1 ≤ d) ∧
    Ok (d - 1) MX10_downSum [vR a0, vI a1, vI a6, vI 0, vI ((F a0 2) - 1)] S F G (fun w6 S7 F8 G9 =>
    ∃ z10 : Int, w6 = some (vJ z10) ∧
    (sK S7 a0 = 10) ∧
    Ok (d - 1) MX10_acrossOf [vR a0, vI a6] S7 F8 G9 (fun w11 S12 F13 G14 =>
    ∃ z16 : Int, w11 = some (vI z16) ∧
    (r64 (z10 * z16)) ∧
    ((a4 ≤ z10 * z16) →
      (r64 (a4 - 1)) ∧
      (¬ z10 = 0) ∧
      (r64 (Int.tdiv (a4 - 1) z10)) ∧
      ∀ x21 : Int, x21 = Int.tdiv (a4 - 1) z10 →
      (r64 (x21 * z10)) ∧
      (r64 (a4 - (x21 * z10))) ∧
      ∀ x24 : Int, x24 = a4 - (x21 * z10) →
      (r32 (x21)) ∧
      (sK S12 a0 = 10) ∧
      Ok (d - 1) MX10_edgeAt [vR a0, vI 0, vI a6] S12 F13 G14 (fun w26 S27 F28 G29 =>
      ∃ z31 : Int, w26 = some (vI z31) ∧
      (r32 (x21 + z31)) ∧
      (sK S27 a0 = 10) ∧
      ∀ F34 : AF, F34 = fu F28 a0 21 (x21 + z31) →
      Go d MX10_findsDown 104 [some (vR a0), some (vI a1), some (vJ a2), none, some (vJ x24), none, some (vI a6), some (vJ z10), none, some (vJ x21), none, some (vI 0), none, none] [] S27 F34 G29 Q)) ∧
    ((¬ a4 ≤ z10 * z16) →
      (sK S12 a0 = 10) ∧
      Ok (d - 1) MX10_acrossOf [vR a0, vI a6] S12 F13 G14 (fun w35 S36 F37 G38 =>
      ∃ z40 : Int, w35 = some (vI z40) ∧
      (r64 (z10 * z40)) ∧
      (r64 (a4 - (z10 * z40))) ∧
      ∀ x43 : Int, x43 = a4 - (z10 * z40) →
      (r32 (a6 + 1)) ∧
      Go d MX10_findsDown 6 [some (vR a0), some (vI a1), some (vJ a2), none, some (vJ x43), none, some (vI (a6 + 1)), none, none, none, none, none, none, none] [] S36 F37 G38 Q)))))
theorem R_X10_findsDown_6 {d : Nat} {S : AS} {F : AF} {G : AG} {Q : AQ} {a0 : Nat} {a1 : Int} {a2 : Int} {a4 : Int} {a6 : Int} (h : V_X10_findsDown_6 d S F G Q a0 a1 a2 a4 a6) : Go d MX10_findsDown 6 [some (vR a0), some (vI a1), some (vJ a2), none, some (vJ a4), none, some (vI a6), none, none, none, none, none, none, none] [] S F G Q := by
  unfold V_X10_findsDown_6 at h
  refine go_iload (show decode cX10_findsDown 6 = .ok (.iload 6, 2) by decide +kernel) (by rfl) ?_
  refine go_aload_n (show decode cX10_findsDown 8 = .ok (.aload_n 0, 1) by decide +kernel) (by rfl) ?_
  obtain ⟨q1, h⟩ := h
  refine go_getR (show decode cX10_findsDown 9 = .ok (.getfield 29, 3) by decide +kernel) fl_X10_29 rfl q1 ?_
  refine go_iconst (show decode cX10_findsDown 12 = .ok (.iconst 0, 1) by decide +kernel) (by decide) ?_
  obtain ⟨q2, h⟩ := h
  obtain ⟨q3, h⟩ := h
  refine go_iaload (show decode cX10_findsDown 13 = .ok (.iaload, 1) by decide +kernel) q2 (by decide) q3 ?_
  obtain ⟨ht, hf⟩ := h
  refine go_icmpge (tgt := 194) (show decode cX10_findsDown 14 = .ok (.if_icmp .ge 180, 3) by decide +kernel) (by decide) (fun hc => ?_) (fun hc => ?_)
  · have h := ht hc
    refine go_iconst (show decode cX10_findsDown 194 = .ok (.iconst 0, 1) by decide +kernel) (by decide) ?_
    exact go_zret (show decode cX10_findsDown 195 = .ok (.ireturn, 1) by decide +kernel) rfl (by decide) h
  · have h := hf hc
    refine go_aload_n (show decode cX10_findsDown 17 = .ok (.aload_n 0, 1) by decide +kernel) (by rfl) ?_
    refine go_iload_n (show decode cX10_findsDown 18 = .ok (.iload_n 1, 1) by decide +kernel) (by rfl) ?_
    refine go_iload (show decode cX10_findsDown 19 = .ok (.iload 6, 2) by decide +kernel) (by rfl) ?_
    refine go_iconst (show decode cX10_findsDown 21 = .ok (.iconst 0, 1) by decide +kernel) (by decide) ?_
    refine go_aload_n (show decode cX10_findsDown 22 = .ok (.aload_n 0, 1) by decide +kernel) (by rfl) ?_
    refine go_getI (show decode cX10_findsDown 23 = .ok (.getfield 16, 3) by decide +kernel) fl_X10_16 (Or.inl rfl) q1 ?_
    refine go_iconst (show decode cX10_findsDown 26 = .ok (.iconst 1, 1) by decide +kernel) (by decide) ?_
    obtain ⟨q4, h⟩ := h
    refine go_isub (show decode cX10_findsDown 27 = .ok (.isub, 1) by decide +kernel) q4 ?_
    obtain ⟨q5, h⟩ := h
    refine go_callV (d2 := d - 1) (M2 := MX10_downSum) (n := 4) (ci := 10) (av := [vI a1, vI a6, vI 0, vI ((F a0 2) - 1)]) (st := []) (show decode cX10_findsDown 28 = .ok (.invokevirtual 230, 3) by decide +kernel) ml_X10_230 mt_X10_downSum min_X10_downSum mse_X10_downSum (by decide) q1 rfl (Nat.le_of_ble_eq_true rfl) (by omega) (ok_mono h (fun w6 S7 F8 G9 h => ?_))
    obtain ⟨z10, e9, h⟩ := h
    subst e9
    show Go d MX10_findsDown 31 [some (vR a0), some (vI a1), some (vJ a2), none, some (vJ a4), none, some (vI a6), none, none, none, none, none, none, none] [vJ z10] S7 F8 G9 Q
    refine go_lstore (show decode cX10_findsDown 31 = .ok (.lstore 7, 2) by decide +kernel) (by decide) ?_
    show Go d MX10_findsDown 33 [some (vR a0), some (vI a1), some (vJ a2), none, some (vJ a4), none, some (vI a6), some (vJ z10), none, none, none, none, none, none] [] S7 F8 G9 Q
    refine go_lload (show decode cX10_findsDown 33 = .ok (.lload 7, 2) by decide +kernel) (by rfl) ?_
    refine go_aload_n (show decode cX10_findsDown 35 = .ok (.aload_n 0, 1) by decide +kernel) (by rfl) ?_
    refine go_iload (show decode cX10_findsDown 36 = .ok (.iload 6, 2) by decide +kernel) (by rfl) ?_
    obtain ⟨q15, h⟩ := h
    refine go_callV (d2 := d - 1) (M2 := MX10_acrossOf) (n := 1) (ci := 10) (av := [vI a6]) (st := [vJ z10]) (show decode cX10_findsDown 38 = .ok (.invokevirtual 233, 3) by decide +kernel) ml_X10_233 mt_X10_acrossOf min_X10_acrossOf mse_X10_acrossOf (by decide) q15 rfl (Nat.le_of_ble_eq_true rfl) (by omega) (ok_mono h (fun w11 S12 F13 G14 h => ?_))
    obtain ⟨z16, e9, h⟩ := h
    subst e9
    show Go d MX10_findsDown 41 [some (vR a0), some (vI a1), some (vJ a2), none, some (vJ a4), none, some (vI a6), some (vJ z10), none, none, none, none, none, none] [vI z16, vJ z10] S12 F13 G14 Q
    refine go_i2l (show decode cX10_findsDown 41 = .ok (.i2l, 1) by decide +kernel) ?_
    obtain ⟨q17, h⟩ := h
    refine go_lmul (show decode cX10_findsDown 42 = .ok (.lmul, 1) by decide +kernel) q17 ?_
    refine go_lload (show decode cX10_findsDown 43 = .ok (.lload 4, 2) by decide +kernel) (by rfl) ?_
    obtain ⟨ht, hf⟩ := h
    refine go_jge (tgt := 67) (show decode cX10_findsDown 45 = .ok (.lcmp, 1) by decide +kernel) (show decode cX10_findsDown 46 = .ok (.ifCond .ge 21, 3) by decide +kernel) (by decide) (fun hc => ?_) (fun hc => ?_)
    · have h := ht hc
      refine go_lload (show decode cX10_findsDown 67 = .ok (.lload 4, 2) by decide +kernel) (by rfl) ?_
      refine go_lconst (n := 1) (show decode cX10_findsDown 69 = .ok (.lconst 1, 1) by decide +kernel) ?_
      show Go d MX10_findsDown 70 [some (vR a0), some (vI a1), some (vJ a2), none, some (vJ a4), none, some (vI a6), some (vJ z10), none, none, none, none, none, none] [vJ 1, vJ a4] S12 F13 G14 Q
      obtain ⟨q18, h⟩ := h
      refine go_lsub (show decode cX10_findsDown 70 = .ok (.lsub, 1) by decide +kernel) q18 ?_
      refine go_lload (show decode cX10_findsDown 71 = .ok (.lload 7, 2) by decide +kernel) (by rfl) ?_
      obtain ⟨q19, h⟩ := h
      obtain ⟨q20, h⟩ := h
      refine go_ldiv (show decode cX10_findsDown 73 = .ok (.ldiv, 1) by decide +kernel) q19 q20 ?_
      obtain ⟨x21, x21e⟩ : ∃ x21 : Int, x21 = Int.tdiv (a4 - 1) z10 := ⟨_, rfl⟩
      have h := h x21 x21e
      rw [← x21e]
      refine go_lstore (show decode cX10_findsDown 74 = .ok (.lstore 9, 2) by decide +kernel) (by decide) ?_
      show Go d MX10_findsDown 76 [some (vR a0), some (vI a1), some (vJ a2), none, some (vJ a4), none, some (vI a6), some (vJ z10), none, some (vJ x21), none, none, none, none] [] S12 F13 G14 Q
      refine go_lload (show decode cX10_findsDown 76 = .ok (.lload 4, 2) by decide +kernel) (by rfl) ?_
      refine go_lload (show decode cX10_findsDown 78 = .ok (.lload 9, 2) by decide +kernel) (by rfl) ?_
      refine go_lload (show decode cX10_findsDown 80 = .ok (.lload 7, 2) by decide +kernel) (by rfl) ?_
      obtain ⟨q22, h⟩ := h
      refine go_lmul (show decode cX10_findsDown 82 = .ok (.lmul, 1) by decide +kernel) q22 ?_
      obtain ⟨q23, h⟩ := h
      refine go_lsub (show decode cX10_findsDown 83 = .ok (.lsub, 1) by decide +kernel) q23 ?_
      obtain ⟨x24, x24e⟩ : ∃ x24 : Int, x24 = a4 - (x21 * z10) := ⟨_, rfl⟩
      have h := h x24 x24e
      rw [← x24e]
      refine go_lstore (show decode cX10_findsDown 84 = .ok (.lstore 4, 2) by decide +kernel) (by decide) ?_
      show Go d MX10_findsDown 86 [some (vR a0), some (vI a1), some (vJ a2), none, some (vJ x24), none, some (vI a6), some (vJ z10), none, some (vJ x21), none, none, none, none] [] S12 F13 G14 Q
      refine go_aload_n (show decode cX10_findsDown 86 = .ok (.aload_n 0, 1) by decide +kernel) (by rfl) ?_
      refine go_lload (show decode cX10_findsDown 87 = .ok (.lload 9, 2) by decide +kernel) (by rfl) ?_
      obtain ⟨q25, h⟩ := h
      refine go_l2i (show decode cX10_findsDown 89 = .ok (.l2i, 1) by decide +kernel) q25 ?_
      refine go_aload_n (show decode cX10_findsDown 90 = .ok (.aload_n 0, 1) by decide +kernel) (by rfl) ?_
      refine go_iconst (show decode cX10_findsDown 91 = .ok (.iconst 0, 1) by decide +kernel) (by decide) ?_
      refine go_iload (show decode cX10_findsDown 92 = .ok (.iload 6, 2) by decide +kernel) (by rfl) ?_
      obtain ⟨q30, h⟩ := h
      refine go_callV (d2 := d - 1) (M2 := MX10_edgeAt) (n := 2) (ci := 10) (av := [vI 0, vI a6]) (st := [vI x21, vR a0]) (show decode cX10_findsDown 94 = .ok (.invokevirtual 126, 3) by decide +kernel) ml_X10_126 mt_X10_edgeAt min_X10_edgeAt mse_X10_edgeAt (by decide) q30 rfl (Nat.le_of_ble_eq_true rfl) (by omega) (ok_mono h (fun w26 S27 F28 G29 h => ?_))
      obtain ⟨z31, e9, h⟩ := h
      subst e9
      show Go d MX10_findsDown 97 [some (vR a0), some (vI a1), some (vJ a2), none, some (vJ x24), none, some (vI a6), some (vJ z10), none, some (vJ x21), none, none, none, none] [vI z31, vI x21, vR a0] S27 F28 G29 Q
      obtain ⟨q32, h⟩ := h
      refine go_iadd (show decode cX10_findsDown 97 = .ok (.iadd, 1) by decide +kernel) q32 ?_
      obtain ⟨q33, h⟩ := h
      refine go_putI (show decode cX10_findsDown 98 = .ok (.putfield 224, 3) by decide +kernel) fl_X10_224 rfl (Or.inl rfl) q33 ?_
      obtain ⟨F34, F34e⟩ : ∃ F34 : AF, F34 = fu F28 a0 21 (x21 + z31) := ⟨_, rfl⟩
      have h := h F34 F34e
      rw [← F34e]
      refine go_iconst (show decode cX10_findsDown 101 = .ok (.iconst 0, 1) by decide +kernel) (by decide) ?_
      refine go_istore (show decode cX10_findsDown 102 = .ok (.istore 11, 2) by decide +kernel) (by decide) ?_
      show Go d MX10_findsDown 104 [some (vR a0), some (vI a1), some (vJ a2), none, some (vJ x24), none, some (vI a6), some (vJ z10), none, some (vJ x21), none, some (vI 0), none, none] [] S27 F34 G29 Q
      exact h
    · have h := hf hc
      refine go_lload (show decode cX10_findsDown 49 = .ok (.lload 4, 2) by decide +kernel) (by rfl) ?_
      refine go_lload (show decode cX10_findsDown 51 = .ok (.lload 7, 2) by decide +kernel) (by rfl) ?_
      refine go_aload_n (show decode cX10_findsDown 53 = .ok (.aload_n 0, 1) by decide +kernel) (by rfl) ?_
      refine go_iload (show decode cX10_findsDown 54 = .ok (.iload 6, 2) by decide +kernel) (by rfl) ?_
      obtain ⟨q39, h⟩ := h
      refine go_callV (d2 := d - 1) (M2 := MX10_acrossOf) (n := 1) (ci := 10) (av := [vI a6]) (st := [vJ z10, vJ a4]) (show decode cX10_findsDown 56 = .ok (.invokevirtual 233, 3) by decide +kernel) ml_X10_233 mt_X10_acrossOf min_X10_acrossOf mse_X10_acrossOf (by decide) q39 rfl (Nat.le_of_ble_eq_true rfl) (by omega) (ok_mono h (fun w35 S36 F37 G38 h => ?_))
      obtain ⟨z40, e9, h⟩ := h
      subst e9
      show Go d MX10_findsDown 59 [some (vR a0), some (vI a1), some (vJ a2), none, some (vJ a4), none, some (vI a6), some (vJ z10), none, none, none, none, none, none] [vI z40, vJ z10, vJ a4] S36 F37 G38 Q
      refine go_i2l (show decode cX10_findsDown 59 = .ok (.i2l, 1) by decide +kernel) ?_
      obtain ⟨q41, h⟩ := h
      refine go_lmul (show decode cX10_findsDown 60 = .ok (.lmul, 1) by decide +kernel) q41 ?_
      obtain ⟨q42, h⟩ := h
      refine go_lsub (show decode cX10_findsDown 61 = .ok (.lsub, 1) by decide +kernel) q42 ?_
      obtain ⟨x43, x43e⟩ : ∃ x43 : Int, x43 = a4 - (z10 * z40) := ⟨_, rfl⟩
      have h := h x43 x43e
      rw [← x43e]
      refine go_lstore (show decode cX10_findsDown 62 = .ok (.lstore 4, 2) by decide +kernel) (by decide) ?_
      show Go d MX10_findsDown 64 [some (vR a0), some (vI a1), some (vJ a2), none, some (vJ x43), none, some (vI a6), some (vJ z10), none, none, none, none, none, none] [] S36 F37 G38 Q
      refine go_goto (tgt := 188) (show decode cX10_findsDown 64 = .ok (.goto 124, 3) by decide +kernel) (by decide) ?_
      obtain ⟨q44, h⟩ := h
      refine go_iinc (show decode cX10_findsDown 188 = .ok (.iinc 6 1, 3) by decide +kernel) (by rfl) q44 (by decide) ?_
      show Go d MX10_findsDown 191 [some (vR a0), some (vI a1), some (vJ a2), none, some (vJ x43), none, some (vI (a6 + 1)), some (vJ z10), none, none, none, none, none, none] [] S36 F37 G38 Q
      refine go_goto (tgt := 6) (show decode cX10_findsDown 191 = .ok (.goto (-185), 3) by decide +kernel) (by decide) ?_
      refine go_clr 7 ?_
      exact h
def V_X10_findsDown_0 (d : Nat) (S : AS) (F : AF) (G : AG) (Q : AQ) (a0 : Nat) (a1 : Int) (a2 : Int) : Prop :=
  Go d MX10_findsDown 6 [some (vR a0), some (vI a1), some (vJ a2), none, some (vJ a2), none, some (vI 0), none, none, none, none, none, none, none] [] S F G Q
theorem R_X10_findsDown_0 {d : Nat} {S : AS} {F : AF} {G : AG} {Q : AQ} {a0 : Nat} {a1 : Int} {a2 : Int} (h : V_X10_findsDown_0 d S F G Q a0 a1 a2) : Go d MX10_findsDown 0 [some (vR a0), some (vI a1), some (vJ a2), none, none, none, none, none, none, none, none, none, none, none] [] S F G Q := by
  unfold V_X10_findsDown_0 at h
  refine go_lload_n (show decode cX10_findsDown 0 = .ok (.lload_n 2, 1) by decide +kernel) (by rfl) ?_
  refine go_lstore (show decode cX10_findsDown 1 = .ok (.lstore 4, 2) by decide +kernel) (by decide) ?_
  show Go d MX10_findsDown 3 [some (vR a0), some (vI a1), some (vJ a2), none, some (vJ a2), none, none, none, none, none, none, none, none, none] [] S F G Q
  refine go_iconst (show decode cX10_findsDown 3 = .ok (.iconst 0, 1) by decide +kernel) (by decide) ?_
  refine go_istore (show decode cX10_findsDown 4 = .ok (.istore 6, 2) by decide +kernel) (by decide) ?_
  show Go d MX10_findsDown 6 [some (vR a0), some (vI a1), some (vJ a2), none, some (vJ a2), none, some (vI 0), none, none, none, none, none, none, none] [] S F G Q
  exact h
def V_X10_downSum_6 (d : Nat) (S : AS) (F : AF) (G : AG) (Q : AQ) (a0 : Nat) (a1 : Int) (a2 : Int) (a3 : Int) (a4 : Int) (a5 : Int) (a7 : Int) : Prop :=
  (sK S a0 = 10) ∧
  (sK S (sR S a0 5) = 20) ∧
  ((1 : Int) < (sN S (sR S a0 5) : Int)) ∧
  ((G (sR S a0 5) 1 ≤ a7) →
    Q (some (vJ a5)) S F G) ∧
  ((¬ G (sR S a0 5) 1 ≤ a7) →
    (1 ≤ d) ∧
    Ok (d - 1) MX10_in [vR a0, vI a1, vI a2, vI a7] S F G (fun w5 S6 F7 G8 =>
    ∃ z9 : Int, w5 = some (vJ z9) ∧
    (sK S6 a0 = 10) ∧
    Ok (d - 1) MX10_part [vR a0, vI 1, vI a7, vI a3, vI a4] S6 F7 G8 (fun w10 S11 F12 G13 =>
    ∃ z15 : Int, w10 = some (vI z15) ∧
    (r64 (z9 * z15)) ∧
    (r64 (a5 + (z9 * z15))) ∧
    ∀ x18 : Int, x18 = a5 + (z9 * z15) →
    (r32 (a7 + 1)) ∧
    Go d MX10_downSum 6 [some (vR a0), some (vI a1), some (vI a2), some (vI a3), some (vI a4), some (vJ x18), none, some (vI (a7 + 1))] [] S11 F12 G13 Q)))
theorem R_X10_downSum_6 {d : Nat} {S : AS} {F : AF} {G : AG} {Q : AQ} {a0 : Nat} {a1 : Int} {a2 : Int} {a3 : Int} {a4 : Int} {a5 : Int} {a7 : Int} (h : V_X10_downSum_6 d S F G Q a0 a1 a2 a3 a4 a5 a7) : Go d MX10_downSum 6 [some (vR a0), some (vI a1), some (vI a2), some (vI a3), some (vI a4), some (vJ a5), none, some (vI a7)] [] S F G Q := by
  unfold V_X10_downSum_6 at h
  refine go_iload (show decode cX10_downSum 6 = .ok (.iload 7, 2) by decide +kernel) (by rfl) ?_
  refine go_aload_n (show decode cX10_downSum 8 = .ok (.aload_n 0, 1) by decide +kernel) (by rfl) ?_
  obtain ⟨q1, h⟩ := h
  refine go_getR (show decode cX10_downSum 9 = .ok (.getfield 29, 3) by decide +kernel) fl_X10_29 rfl q1 ?_
  refine go_iconst (show decode cX10_downSum 12 = .ok (.iconst 1, 1) by decide +kernel) (by decide) ?_
  obtain ⟨q2, h⟩ := h
  obtain ⟨q3, h⟩ := h
  refine go_iaload (show decode cX10_downSum 13 = .ok (.iaload, 1) by decide +kernel) q2 (by decide) q3 ?_
  obtain ⟨ht, hf⟩ := h
  refine go_icmpge (tgt := 48) (show decode cX10_downSum 14 = .ok (.if_icmp .ge 34, 3) by decide +kernel) (by decide) (fun hc => ?_) (fun hc => ?_)
  · have h := ht hc
    refine go_lload (show decode cX10_downSum 48 = .ok (.lload 5, 2) by decide +kernel) (by rfl) ?_
    exact go_lret (show decode cX10_downSum 50 = .ok (.lreturn, 1) by decide +kernel) rfl h
  · have h := hf hc
    refine go_lload (show decode cX10_downSum 17 = .ok (.lload 5, 2) by decide +kernel) (by rfl) ?_
    refine go_aload_n (show decode cX10_downSum 19 = .ok (.aload_n 0, 1) by decide +kernel) (by rfl) ?_
    refine go_iload_n (show decode cX10_downSum 20 = .ok (.iload_n 1, 1) by decide +kernel) (by rfl) ?_
    refine go_iload_n (show decode cX10_downSum 21 = .ok (.iload_n 2, 1) by decide +kernel) (by rfl) ?_
    refine go_iload (show decode cX10_downSum 22 = .ok (.iload 7, 2) by decide +kernel) (by rfl) ?_
    obtain ⟨q4, h⟩ := h
    refine go_callV (d2 := d - 1) (M2 := MX10_in) (n := 3) (ci := 10) (av := [vI a1, vI a2, vI a7]) (st := [vJ a5]) (show decode cX10_downSum 24 = .ok (.invokevirtual 163, 3) by decide +kernel) ml_X10_163 mt_X10_in min_X10_in mse_X10_in (by decide) q1 rfl (Nat.le_of_ble_eq_true rfl) (by omega) (ok_mono h (fun w5 S6 F7 G8 h => ?_))
    obtain ⟨z9, e9, h⟩ := h
    subst e9
    show Go d MX10_downSum 27 [some (vR a0), some (vI a1), some (vI a2), some (vI a3), some (vI a4), some (vJ a5), none, some (vI a7)] [vJ z9, vJ a5] S6 F7 G8 Q
    refine go_aload_n (show decode cX10_downSum 27 = .ok (.aload_n 0, 1) by decide +kernel) (by rfl) ?_
    refine go_iconst (show decode cX10_downSum 28 = .ok (.iconst 1, 1) by decide +kernel) (by decide) ?_
    refine go_iload (show decode cX10_downSum 29 = .ok (.iload 7, 2) by decide +kernel) (by rfl) ?_
    refine go_iload_n (show decode cX10_downSum 31 = .ok (.iload_n 3, 1) by decide +kernel) (by rfl) ?_
    refine go_iload (show decode cX10_downSum 32 = .ok (.iload 4, 2) by decide +kernel) (by rfl) ?_
    obtain ⟨q14, h⟩ := h
    refine go_callV (d2 := d - 1) (M2 := MX10_part) (n := 4) (ci := 10) (av := [vI 1, vI a7, vI a3, vI a4]) (st := [vJ z9, vJ a5]) (show decode cX10_downSum 34 = .ok (.invokevirtual 159, 3) by decide +kernel) ml_X10_159 mt_X10_part min_X10_part mse_X10_part (by decide) q14 rfl (Nat.le_of_ble_eq_true rfl) (by omega) (ok_mono h (fun w10 S11 F12 G13 h => ?_))
    obtain ⟨z15, e9, h⟩ := h
    subst e9
    show Go d MX10_downSum 37 [some (vR a0), some (vI a1), some (vI a2), some (vI a3), some (vI a4), some (vJ a5), none, some (vI a7)] [vI z15, vJ z9, vJ a5] S11 F12 G13 Q
    refine go_i2l (show decode cX10_downSum 37 = .ok (.i2l, 1) by decide +kernel) ?_
    obtain ⟨q16, h⟩ := h
    refine go_lmul (show decode cX10_downSum 38 = .ok (.lmul, 1) by decide +kernel) q16 ?_
    obtain ⟨q17, h⟩ := h
    refine go_ladd (show decode cX10_downSum 39 = .ok (.ladd, 1) by decide +kernel) q17 ?_
    obtain ⟨x18, x18e⟩ : ∃ x18 : Int, x18 = a5 + (z9 * z15) := ⟨_, rfl⟩
    have h := h x18 x18e
    rw [← x18e]
    refine go_lstore (show decode cX10_downSum 40 = .ok (.lstore 5, 2) by decide +kernel) (by decide) ?_
    show Go d MX10_downSum 42 [some (vR a0), some (vI a1), some (vI a2), some (vI a3), some (vI a4), some (vJ x18), none, some (vI a7)] [] S11 F12 G13 Q
    obtain ⟨q19, h⟩ := h
    refine go_iinc (show decode cX10_downSum 42 = .ok (.iinc 7 1, 3) by decide +kernel) (by rfl) q19 (by decide) ?_
    show Go d MX10_downSum 45 [some (vR a0), some (vI a1), some (vI a2), some (vI a3), some (vI a4), some (vJ x18), none, some (vI (a7 + 1))] [] S11 F12 G13 Q
    refine go_goto (tgt := 6) (show decode cX10_downSum 45 = .ok (.goto (-39), 3) by decide +kernel) (by decide) ?_
    exact h
def V_X10_downSum_0 (d : Nat) (S : AS) (F : AF) (G : AG) (Q : AQ) (a0 : Nat) (a1 : Int) (a2 : Int) (a3 : Int) (a4 : Int) : Prop :=
  Go d MX10_downSum 6 [some (vR a0), some (vI a1), some (vI a2), some (vI a3), some (vI a4), some (vJ 0), none, some (vI 0)] [] S F G Q
theorem R_X10_downSum_0 {d : Nat} {S : AS} {F : AF} {G : AG} {Q : AQ} {a0 : Nat} {a1 : Int} {a2 : Int} {a3 : Int} {a4 : Int} (h : V_X10_downSum_0 d S F G Q a0 a1 a2 a3 a4) : Go d MX10_downSum 0 [some (vR a0), some (vI a1), some (vI a2), some (vI a3), some (vI a4), none, none, none] [] S F G Q := by
  unfold V_X10_downSum_0 at h
  refine go_lconst (n := 0) (show decode cX10_downSum 0 = .ok (.lconst 0, 1) by decide +kernel) ?_
  show Go d MX10_downSum 1 [some (vR a0), some (vI a1), some (vI a2), some (vI a3), some (vI a4), none, none, none] [vJ 0] S F G Q
  refine go_lstore (show decode cX10_downSum 1 = .ok (.lstore 5, 2) by decide +kernel) (by decide) ?_
  show Go d MX10_downSum 3 [some (vR a0), some (vI a1), some (vI a2), some (vI a3), some (vI a4), some (vJ 0), none, none] [] S F G Q
  refine go_iconst (show decode cX10_downSum 3 = .ok (.iconst 0, 1) by decide +kernel) (by decide) ?_
  refine go_istore (show decode cX10_downSum 4 = .ok (.istore 7, 2) by decide +kernel) (by decide) ?_
  show Go d MX10_downSum 6 [some (vR a0), some (vI a1), some (vI a2), some (vI a3), some (vI a4), some (vJ 0), none, some (vI 0)] [] S F G Q
  exact h
def V_X10_acrossOf_0 (d : Nat) (S : AS) (F : AF) (G : AG) (Q : AQ) (a0 : Nat) (a1 : Int) : Prop :=
  (r32 (a1 + 1)) ∧
  (1 ≤ d) ∧
  (sK S a0 = 10) ∧
  Ok (d - 1) MX10_edgeAt [vR a0, vI 0, vI (a1 + 1)] S F G (fun w3 S4 F5 G6 =>
  ∃ z8 : Int, w3 = some (vI z8) ∧
  (sK S4 a0 = 10) ∧
  Ok (d - 1) MX10_edgeAt [vR a0, vI 0, vI a1] S4 F5 G6 (fun w9 S10 F11 G12 =>
  ∃ z14 : Int, w9 = some (vI z14) ∧
  (r32 (z8 - z14)) ∧
  Q (some (vI (z8 - z14))) S10 F11 G12))
theorem R_X10_acrossOf_0 {d : Nat} {S : AS} {F : AF} {G : AG} {Q : AQ} {a0 : Nat} {a1 : Int} (h : V_X10_acrossOf_0 d S F G Q a0 a1) : Go d MX10_acrossOf 0 [some (vR a0), some (vI a1)] [] S F G Q := by
  unfold V_X10_acrossOf_0 at h
  refine go_aload_n (show decode cX10_acrossOf 0 = .ok (.aload_n 0, 1) by decide +kernel) (by rfl) ?_
  refine go_iconst (show decode cX10_acrossOf 1 = .ok (.iconst 0, 1) by decide +kernel) (by decide) ?_
  refine go_iload_n (show decode cX10_acrossOf 2 = .ok (.iload_n 1, 1) by decide +kernel) (by rfl) ?_
  refine go_iconst (show decode cX10_acrossOf 3 = .ok (.iconst 1, 1) by decide +kernel) (by decide) ?_
  obtain ⟨q1, h⟩ := h
  refine go_iadd (show decode cX10_acrossOf 4 = .ok (.iadd, 1) by decide +kernel) q1 ?_
  obtain ⟨q2, h⟩ := h
  obtain ⟨q7, h⟩ := h
  refine go_callV (d2 := d - 1) (M2 := MX10_edgeAt) (n := 2) (ci := 10) (av := [vI 0, vI (a1 + 1)]) (st := []) (show decode cX10_acrossOf 5 = .ok (.invokevirtual 126, 3) by decide +kernel) ml_X10_126 mt_X10_edgeAt min_X10_edgeAt mse_X10_edgeAt (by decide) q7 rfl (Nat.le_of_ble_eq_true rfl) (by omega) (ok_mono h (fun w3 S4 F5 G6 h => ?_))
  obtain ⟨z8, e9, h⟩ := h
  subst e9
  show Go d MX10_acrossOf 8 [some (vR a0), some (vI a1)] [vI z8] S4 F5 G6 Q
  refine go_aload_n (show decode cX10_acrossOf 8 = .ok (.aload_n 0, 1) by decide +kernel) (by rfl) ?_
  refine go_iconst (show decode cX10_acrossOf 9 = .ok (.iconst 0, 1) by decide +kernel) (by decide) ?_
  refine go_iload_n (show decode cX10_acrossOf 10 = .ok (.iload_n 1, 1) by decide +kernel) (by rfl) ?_
  obtain ⟨q13, h⟩ := h
  refine go_callV (d2 := d - 1) (M2 := MX10_edgeAt) (n := 2) (ci := 10) (av := [vI 0, vI a1]) (st := [vI z8]) (show decode cX10_acrossOf 11 = .ok (.invokevirtual 126, 3) by decide +kernel) ml_X10_126 mt_X10_edgeAt min_X10_edgeAt mse_X10_edgeAt (by decide) q13 rfl (Nat.le_of_ble_eq_true rfl) (by omega) (ok_mono h (fun w9 S10 F11 G12 h => ?_))
  obtain ⟨z14, e9, h⟩ := h
  subst e9
  show Go d MX10_acrossOf 14 [some (vR a0), some (vI a1)] [vI z14, vI z8] S10 F11 G12 Q
  obtain ⟨q15, h⟩ := h
  refine go_isub (show decode cX10_acrossOf 14 = .ok (.isub, 1) by decide +kernel) q15 ?_
  exact go_iret (show decode cX10_acrossOf 15 = .ok (.ireturn, 1) by decide +kernel) rfl h
def V_X10_downOf_0 (d : Nat) (S : AS) (F : AF) (G : AG) (Q : AQ) (a0 : Nat) (a1 : Int) : Prop :=
  (r32 (a1 + 1)) ∧
  (1 ≤ d) ∧
  (sK S a0 = 10) ∧
  Ok (d - 1) MX10_edgeAt [vR a0, vI 1, vI (a1 + 1)] S F G (fun w3 S4 F5 G6 =>
  ∃ z8 : Int, w3 = some (vI z8) ∧
  (sK S4 a0 = 10) ∧
  Ok (d - 1) MX10_edgeAt [vR a0, vI 1, vI a1] S4 F5 G6 (fun w9 S10 F11 G12 =>
  ∃ z14 : Int, w9 = some (vI z14) ∧
  (r32 (z8 - z14)) ∧
  Q (some (vI (z8 - z14))) S10 F11 G12))
theorem R_X10_downOf_0 {d : Nat} {S : AS} {F : AF} {G : AG} {Q : AQ} {a0 : Nat} {a1 : Int} (h : V_X10_downOf_0 d S F G Q a0 a1) : Go d MX10_downOf 0 [some (vR a0), some (vI a1)] [] S F G Q := by
  unfold V_X10_downOf_0 at h
  refine go_aload_n (show decode cX10_downOf 0 = .ok (.aload_n 0, 1) by decide +kernel) (by rfl) ?_
  refine go_iconst (show decode cX10_downOf 1 = .ok (.iconst 1, 1) by decide +kernel) (by decide) ?_
  refine go_iload_n (show decode cX10_downOf 2 = .ok (.iload_n 1, 1) by decide +kernel) (by rfl) ?_
  refine go_iconst (show decode cX10_downOf 3 = .ok (.iconst 1, 1) by decide +kernel) (by decide) ?_
  obtain ⟨q1, h⟩ := h
  refine go_iadd (show decode cX10_downOf 4 = .ok (.iadd, 1) by decide +kernel) q1 ?_
  obtain ⟨q2, h⟩ := h
  obtain ⟨q7, h⟩ := h
  refine go_callV (d2 := d - 1) (M2 := MX10_edgeAt) (n := 2) (ci := 10) (av := [vI 1, vI (a1 + 1)]) (st := []) (show decode cX10_downOf 5 = .ok (.invokevirtual 126, 3) by decide +kernel) ml_X10_126 mt_X10_edgeAt min_X10_edgeAt mse_X10_edgeAt (by decide) q7 rfl (Nat.le_of_ble_eq_true rfl) (by omega) (ok_mono h (fun w3 S4 F5 G6 h => ?_))
  obtain ⟨z8, e9, h⟩ := h
  subst e9
  show Go d MX10_downOf 8 [some (vR a0), some (vI a1)] [vI z8] S4 F5 G6 Q
  refine go_aload_n (show decode cX10_downOf 8 = .ok (.aload_n 0, 1) by decide +kernel) (by rfl) ?_
  refine go_iconst (show decode cX10_downOf 9 = .ok (.iconst 1, 1) by decide +kernel) (by decide) ?_
  refine go_iload_n (show decode cX10_downOf 10 = .ok (.iload_n 1, 1) by decide +kernel) (by rfl) ?_
  obtain ⟨q13, h⟩ := h
  refine go_callV (d2 := d - 1) (M2 := MX10_edgeAt) (n := 2) (ci := 10) (av := [vI 1, vI a1]) (st := [vI z8]) (show decode cX10_downOf 11 = .ok (.invokevirtual 126, 3) by decide +kernel) ml_X10_126 mt_X10_edgeAt min_X10_edgeAt mse_X10_edgeAt (by decide) q13 rfl (Nat.le_of_ble_eq_true rfl) (by omega) (ok_mono h (fun w9 S10 F11 G12 h => ?_))
  obtain ⟨z14, e9, h⟩ := h
  subst e9
  show Go d MX10_downOf 14 [some (vR a0), some (vI a1)] [vI z14, vI z8] S10 F11 G12 Q
  obtain ⟨q15, h⟩ := h
  refine go_isub (show decode cX10_downOf 14 = .ok (.isub, 1) by decide +kernel) q15 ?_
  exact go_iret (show decode cX10_downOf 15 = .ok (.ireturn, 1) by decide +kernel) rfl h
def V_X10_findIn_0 (d : Nat) (S : AS) (F : AF) (G : AG) (Q : AQ) (a0 : Nat) (a1 : Int) (a2 : Int) (a3 : Int) (a4 : Int) (a5 : Int) (a6 : Int) : Prop :=
  (sK S a0 = 10) ∧
  ∀ F2 : AF, F2 = fu F a0 0 0 →
  (1 ≤ d) ∧
  Ok (d - 1) MX10_isGood [vI a1] S F2 G (fun w4 S5 F6 G7 =>
  ∃ z8 : Int, w4 = some (vI z8) ∧
  ((z8 = 0) →
    Q (some (vJ (-2))) S5 F6 G7) ∧
  ((¬ z8 = 0) →
    (sK S5 a0 = 10) ∧
    Ok (d - 1) MX10_isRectangle [vR a0, vI a2, vI a3, vI a4, vI a5] S5 F6 G7 (fun w9 S10 F11 G12 =>
    ∃ z14 : Int, w9 = some (vI z14) ∧
    ((¬ z14 = 0) →
      ((1 ≤ a6) →
        (sK S10 a0 = 10) ∧
        (sK S10 (sR S10 a0 9) = 21) ∧
        ((0 : Int) ≤ a1) ∧
        ((a1 : Int) < (sN S10 (sR S10 a0 9) : Int)) ∧
        ((G12 (sR S10 a0 9) a1 < a6) →
          Q (some (vJ (-1))) S10 F11 G12) ∧
        ((¬ G12 (sR S10 a0 9) a1 < a6) →
          Ok (d - 1) MX10_finds [vR a0, vI a1, vI a2, vI a3, vI a4, vI a5, vJ a6] S10 F11 G12 (fun w19 S20 F21 G22 =>
          ∃ z23 : Int, w19 = some (vI z23) ∧
          ((z23 = 0) →
            Q (some (vJ (-1))) S20 F21 G22) ∧
          ((¬ z23 = 0) →
            (sK S20 a0 = 10) ∧
            Ok (d - 1) MX10_number [vR a0, vI (F21 a0 21), vI (F21 a0 22)] S20 F21 G22 (fun w25 S26 F27 G28 =>
            ∃ z29 : Int, w25 = some (vJ z29) ∧
            Q (some (vJ z29)) S26 F27 G28))))) ∧
      ((¬ 1 ≤ a6) →
        Q (some (vJ (-3))) S10 F11 G12)) ∧
    ((z14 = 0) →
      Q (some (vJ (-2))) S10 F11 G12))))
theorem R_X10_findIn_0 {d : Nat} {S : AS} {F : AF} {G : AG} {Q : AQ} {a0 : Nat} {a1 : Int} {a2 : Int} {a3 : Int} {a4 : Int} {a5 : Int} {a6 : Int} (h : V_X10_findIn_0 d S F G Q a0 a1 a2 a3 a4 a5 a6) : Go d MX10_findIn 0 [some (vR a0), some (vI a1), some (vI a2), some (vI a3), some (vI a4), some (vI a5), some (vJ a6), none] [] S F G Q := by
  unfold V_X10_findIn_0 at h
  refine go_aload_n (show decode cX10_findIn 0 = .ok (.aload_n 0, 1) by decide +kernel) (by rfl) ?_
  refine go_iconst (show decode cX10_findIn 1 = .ok (.iconst 0, 1) by decide +kernel) (by decide) ?_
  obtain ⟨q1, h⟩ := h
  refine go_putI (show decode cX10_findIn 2 = .ok (.putfield 1, 3) by decide +kernel) fl_X10_1 rfl (Or.inl rfl) q1 ?_
  obtain ⟨F2, F2e⟩ : ∃ F2 : AF, F2 = fu F a0 0 0 := ⟨_, rfl⟩
  have h := h F2 F2e
  rw [← F2e]
  refine go_iload_n (show decode cX10_findIn 5 = .ok (.iload_n 1, 1) by decide +kernel) (by rfl) ?_
  obtain ⟨q3, h⟩ := h
  refine go_callS (d2 := d - 1) (M2 := MX10_isGood) (n := 1) (av := [vI a1]) (st := []) (show decode cX10_findIn 6 = .ok (.invokestatic 167, 3) by decide +kernel) ml_X10_167 mt_X10_isGood mst_X10_isGood rfl (Nat.le_of_ble_eq_true rfl) (by omega) (ok_mono h (fun w4 S5 F6 G7 h => ?_))
  obtain ⟨z8, e9, h⟩ := h
  subst e9
  show Go d MX10_findIn 9 [some (vR a0), some (vI a1), some (vI a2), some (vI a3), some (vI a4), some (vI a5), some (vJ a6), none] [vI z8] S5 F6 G7 Q
  obtain ⟨ht, hf⟩ := h
  refine go_ifeq (tgt := 25) (show decode cX10_findIn 9 = .ok (.ifCond .eq 16, 3) by decide +kernel) (by decide) (fun hc => ?_) (fun hc => ?_)
  · have h := ht hc
    refine go_ldc2 (show decode cX10_findIn 25 = .ok (.ldc2_w 174, 3) by decide +kernel) lc_X10_174 (by decide) ?_
    exact go_lret (show decode cX10_findIn 28 = .ok (.lreturn, 1) by decide +kernel) rfl h
  · have h := hf hc
    refine go_aload_n (show decode cX10_findIn 12 = .ok (.aload_n 0, 1) by decide +kernel) (by rfl) ?_
    refine go_iload_n (show decode cX10_findIn 13 = .ok (.iload_n 2, 1) by decide +kernel) (by rfl) ?_
    refine go_iload_n (show decode cX10_findIn 14 = .ok (.iload_n 3, 1) by decide +kernel) (by rfl) ?_
    refine go_iload (show decode cX10_findIn 15 = .ok (.iload 4, 2) by decide +kernel) (by rfl) ?_
    refine go_iload (show decode cX10_findIn 17 = .ok (.iload 5, 2) by decide +kernel) (by rfl) ?_
    obtain ⟨q13, h⟩ := h
    refine go_callV (d2 := d - 1) (M2 := MX10_isRectangle) (n := 4) (ci := 10) (av := [vI a2, vI a3, vI a4, vI a5]) (st := []) (show decode cX10_findIn 19 = .ok (.invokevirtual 170, 3) by decide +kernel) ml_X10_170 mt_X10_isRectangle min_X10_isRectangle mse_X10_isRectangle (by decide) q13 rfl (Nat.le_of_ble_eq_true rfl) (by omega) (ok_mono h (fun w9 S10 F11 G12 h => ?_))
    obtain ⟨z14, e9, h⟩ := h
    subst e9
    show Go d MX10_findIn 22 [some (vR a0), some (vI a1), some (vI a2), some (vI a3), some (vI a4), some (vI a5), some (vJ a6), none] [vI z14] S10 F11 G12 Q
    obtain ⟨ht, hf⟩ := h
    refine go_ifne (tgt := 29) (show decode cX10_findIn 22 = .ok (.ifCond .ne 7, 3) by decide +kernel) (by decide) (fun hc => ?_) (fun hc => ?_)
    · have h := ht hc
      refine go_lload (show decode cX10_findIn 29 = .ok (.lload 6, 2) by decide +kernel) (by rfl) ?_
      refine go_lconst (n := 1) (show decode cX10_findIn 31 = .ok (.lconst 1, 1) by decide +kernel) ?_
      show Go d MX10_findIn 32 [some (vR a0), some (vI a1), some (vI a2), some (vI a3), some (vI a4), some (vI a5), some (vJ a6), none] [vJ 1, vJ a6] S10 F11 G12 Q
      obtain ⟨ht, hf⟩ := h
      refine go_jge (tgt := 40) (show decode cX10_findIn 32 = .ok (.lcmp, 1) by decide +kernel) (show decode cX10_findIn 33 = .ok (.ifCond .ge 7, 3) by decide +kernel) (by decide) (fun hc => ?_) (fun hc => ?_)
      · have h := ht hc
        refine go_lload (show decode cX10_findIn 40 = .ok (.lload 6, 2) by decide +kernel) (by rfl) ?_
        refine go_aload_n (show decode cX10_findIn 42 = .ok (.aload_n 0, 1) by decide +kernel) (by rfl) ?_
        obtain ⟨q15, h⟩ := h
        refine go_getR (show decode cX10_findIn 43 = .ok (.getfield 43, 3) by decide +kernel) fl_X10_43 rfl q15 ?_
        refine go_iload_n (show decode cX10_findIn 46 = .ok (.iload_n 1, 1) by decide +kernel) (by rfl) ?_
        obtain ⟨q16, h⟩ := h
        obtain ⟨q17, h⟩ := h
        obtain ⟨q18, h⟩ := h
        refine go_laload (show decode cX10_findIn 47 = .ok (.laload, 1) by decide +kernel) q16 q17 q18 ?_
        obtain ⟨ht, hf⟩ := h
        refine go_jgt (tgt := 83) (show decode cX10_findIn 48 = .ok (.lcmp, 1) by decide +kernel) (show decode cX10_findIn 49 = .ok (.ifCond .gt 34, 3) by decide +kernel) (by decide) (fun hc => ?_) (fun hc => ?_)
        · have h := ht hc
          refine go_ldc2 (show decode cX10_findIn 83 = .ok (.ldc2_w 311, 3) by decide +kernel) lc_X10_311 (by decide) ?_
          exact go_lret (show decode cX10_findIn 86 = .ok (.lreturn, 1) by decide +kernel) rfl h
        · have h := hf hc
          refine go_aload_n (show decode cX10_findIn 52 = .ok (.aload_n 0, 1) by decide +kernel) (by rfl) ?_
          refine go_iload_n (show decode cX10_findIn 53 = .ok (.iload_n 1, 1) by decide +kernel) (by rfl) ?_
          refine go_iload_n (show decode cX10_findIn 54 = .ok (.iload_n 2, 1) by decide +kernel) (by rfl) ?_
          refine go_iload_n (show decode cX10_findIn 55 = .ok (.iload_n 3, 1) by decide +kernel) (by rfl) ?_
          refine go_iload (show decode cX10_findIn 56 = .ok (.iload 4, 2) by decide +kernel) (by rfl) ?_
          refine go_iload (show decode cX10_findIn 58 = .ok (.iload 5, 2) by decide +kernel) (by rfl) ?_
          refine go_lload (show decode cX10_findIn 60 = .ok (.lload 6, 2) by decide +kernel) (by rfl) ?_
          refine go_callV (d2 := d - 1) (M2 := MX10_finds) (n := 6) (ci := 10) (av := [vI a1, vI a2, vI a3, vI a4, vI a5, vJ a6]) (st := []) (show decode cX10_findIn 62 = .ok (.invokevirtual 255, 3) by decide +kernel) ml_X10_255 mt_X10_finds min_X10_finds mse_X10_finds (by decide) q15 rfl (Nat.le_of_ble_eq_true rfl) (by omega) (ok_mono h (fun w19 S20 F21 G22 h => ?_))
          obtain ⟨z23, e9, h⟩ := h
          subst e9
          show Go d MX10_findIn 65 [some (vR a0), some (vI a1), some (vI a2), some (vI a3), some (vI a4), some (vI a5), some (vJ a6), none] [vI z23] S20 F21 G22 Q
          obtain ⟨ht, hf⟩ := h
          refine go_ifeq (tgt := 83) (show decode cX10_findIn 65 = .ok (.ifCond .eq 18, 3) by decide +kernel) (by decide) (fun hc => ?_) (fun hc => ?_)
          · have h := ht hc
            refine go_ldc2 (show decode cX10_findIn 83 = .ok (.ldc2_w 311, 3) by decide +kernel) lc_X10_311 (by decide) ?_
            exact go_lret (show decode cX10_findIn 86 = .ok (.lreturn, 1) by decide +kernel) rfl h
          · have h := hf hc
            refine go_aload_n (show decode cX10_findIn 68 = .ok (.aload_n 0, 1) by decide +kernel) (by rfl) ?_
            refine go_aload_n (show decode cX10_findIn 69 = .ok (.aload_n 0, 1) by decide +kernel) (by rfl) ?_
            obtain ⟨q24, h⟩ := h
            refine go_getI (show decode cX10_findIn 70 = .ok (.getfield 224, 3) by decide +kernel) fl_X10_224 (Or.inl rfl) q24 ?_
            refine go_aload_n (show decode cX10_findIn 73 = .ok (.aload_n 0, 1) by decide +kernel) (by rfl) ?_
            refine go_getI (show decode cX10_findIn 74 = .ok (.getfield 221, 3) by decide +kernel) fl_X10_221 (Or.inl rfl) q24 ?_
            refine go_callV (d2 := d - 1) (M2 := MX10_number) (n := 2) (ci := 10) (av := [vI (F21 a0 21), vI (F21 a0 22)]) (st := []) (show decode cX10_findIn 77 = .ok (.invokevirtual 268, 3) by decide +kernel) ml_X10_268 mt_X10_number min_X10_number mse_X10_number (by decide) q24 rfl (Nat.le_of_ble_eq_true rfl) (by omega) (ok_mono h (fun w25 S26 F27 G28 h => ?_))
            obtain ⟨z29, e9, h⟩ := h
            subst e9
            show Go d MX10_findIn 80 [some (vR a0), some (vI a1), some (vI a2), some (vI a3), some (vI a4), some (vI a5), some (vJ a6), none] [vJ z29] S26 F27 G28 Q
            refine go_goto (tgt := 86) (show decode cX10_findIn 80 = .ok (.goto 6, 3) by decide +kernel) (by decide) ?_
            exact go_lret (show decode cX10_findIn 86 = .ok (.lreturn, 1) by decide +kernel) rfl h
      · have h := hf hc
        refine go_ldc2 (show decode cX10_findIn 36 = .ok (.ldc2_w 120, 3) by decide +kernel) lc_X10_120 (by decide) ?_
        exact go_lret (show decode cX10_findIn 39 = .ok (.lreturn, 1) by decide +kernel) rfl h
    · have h := hf hc
      refine go_ldc2 (show decode cX10_findIn 25 = .ok (.ldc2_w 174, 3) by decide +kernel) lc_X10_174 (by decide) ?_
      exact go_lret (show decode cX10_findIn 28 = .ok (.lreturn, 1) by decide +kernel) rfl h
def V_X10_touched_108 (d : Nat) (S : AS) (F : AF) (G : AG) (Q : AQ) (a0 : Nat) (a1 : Int) (a2 : Int) (a3 : Int) (a4 : Int) (a5 : Int) (a6 : Int) (a8 : Int) (a9 : Int) (s0 : Int) : Prop :=
  (1 ≤ d) ∧
  (sK S a0 = 10) ∧
  Ok (d - 1) MX10_cellsFrom [vR a0, vI a1, vI a2, vI a9, vI a8, vI a9, vJ 1] S F G (fun w2 S3 F4 G5 =>
  ∃ z7 : Int, w2 = some (vJ z7) ∧
  (r64 (s0 + z7)) ∧
  Q (some (vJ (s0 + z7))) S3 F4 G5)
theorem R_X10_touched_108 {d : Nat} {S : AS} {F : AF} {G : AG} {Q : AQ} {a0 : Nat} {a1 : Int} {a2 : Int} {a3 : Int} {a4 : Int} {a5 : Int} {a6 : Int} {a8 : Int} {a9 : Int} {s0 : Int} (h : V_X10_touched_108 d S F G Q a0 a1 a2 a3 a4 a5 a6 a8 a9 s0) : Go d MX10_touched 108 [some (vR a0), some (vI a1), some (vI a2), some (vI a3), some (vI a4), some (vI a5), some (vJ a6), none, some (vI a8), some (vI a9)] [vJ s0] S F G Q := by
  unfold V_X10_touched_108 at h
  refine go_aload_n (show decode cX10_touched 108 = .ok (.aload_n 0, 1) by decide +kernel) (by rfl) ?_
  refine go_iload_n (show decode cX10_touched 109 = .ok (.iload_n 1, 1) by decide +kernel) (by rfl) ?_
  refine go_iload_n (show decode cX10_touched 110 = .ok (.iload_n 2, 1) by decide +kernel) (by rfl) ?_
  refine go_iload (show decode cX10_touched 111 = .ok (.iload 9, 2) by decide +kernel) (by rfl) ?_
  refine go_iload (show decode cX10_touched 113 = .ok (.iload 8, 2) by decide +kernel) (by rfl) ?_
  refine go_iload (show decode cX10_touched 115 = .ok (.iload 9, 2) by decide +kernel) (by rfl) ?_
  refine go_lconst (n := 1) (show decode cX10_touched 117 = .ok (.lconst 1, 1) by decide +kernel) ?_
  show Go d MX10_touched 118 [some (vR a0), some (vI a1), some (vI a2), some (vI a3), some (vI a4), some (vI a5), some (vJ a6), none, some (vI a8), some (vI a9)] [vJ 1, vI a9, vI a8, vI a9, vI a2, vI a1, vR a0, vJ s0] S F G Q
  obtain ⟨q1, h⟩ := h
  obtain ⟨q6, h⟩ := h
  refine go_callV (d2 := d - 1) (M2 := MX10_cellsFrom) (n := 6) (ci := 10) (av := [vI a1, vI a2, vI a9, vI a8, vI a9, vJ 1]) (st := [vJ s0]) (show decode cX10_touched 118 = .ok (.invokevirtual 412, 3) by decide +kernel) ml_X10_412 mt_X10_cellsFrom min_X10_cellsFrom mse_X10_cellsFrom (by decide) q6 rfl (Nat.le_of_ble_eq_true rfl) (by omega) (ok_mono h (fun w2 S3 F4 G5 h => ?_))
  obtain ⟨z7, e9, h⟩ := h
  subst e9
  show Go d MX10_touched 121 [some (vR a0), some (vI a1), some (vI a2), some (vI a3), some (vI a4), some (vI a5), some (vJ a6), none, some (vI a8), some (vI a9)] [vJ z7, vJ s0] S3 F4 G5 Q
  obtain ⟨q8, h⟩ := h
  refine go_ladd (show decode cX10_touched 121 = .ok (.ladd, 1) by decide +kernel) q8 ?_
  exact go_lret (show decode cX10_touched 122 = .ok (.lreturn, 1) by decide +kernel) rfl h
def V_X10_touched_0 (d : Nat) (S : AS) (F : AF) (G : AG) (Q : AQ) (a0 : Nat) (a1 : Int) (a2 : Int) (a3 : Int) (a4 : Int) (a5 : Int) (a6 : Int) : Prop :=
  (sK S a0 = 10) ∧
  ∀ F2 : AF, F2 = fu F a0 0 0 →
  (1 ≤ d) ∧
  Ok (d - 1) MX10_isGood [vI a1] S F2 G (fun w4 S5 F6 G7 =>
  ∃ z8 : Int, w4 = some (vI z8) ∧
  ((z8 = 0) →
    Q (some (vJ (-2))) S5 F6 G7) ∧
  ((¬ z8 = 0) →
    (sK S5 a0 = 10) ∧
    Ok (d - 1) MX10_isRectangle [vR a0, vI a2, vI a3, vI a4, vI a5] S5 F6 G7 (fun w9 S10 F11 G12 =>
    ∃ z14 : Int, w9 = some (vI z14) ∧
    ((¬ z14 = 0) →
      ((1 ≤ a6) →
        (sK S10 a0 = 10) ∧
        (sK S10 (sR S10 a0 9) = 21) ∧
        ((0 : Int) ≤ a1) ∧
        ((a1 : Int) < (sN S10 (sR S10 a0 9) : Int)) ∧
        ((G12 (sR S10 a0 9) a1 < a6) →
          Q (some (vJ (-1))) S10 F11 G12) ∧
        ((¬ G12 (sR S10 a0 9) a1 < a6) →
          Ok (d - 1) MX10_finds [vR a0, vI a1, vI a2, vI a3, vI a4, vI a5, vJ a6] S10 F11 G12 (fun w19 S20 F21 G22 =>
          ∃ z23 : Int, w19 = some (vI z23) ∧
          ((¬ z23 = 0) →
            (sK S20 a0 = 10) ∧
            ∀ x25 : Int, x25 = F21 a0 21 →
            ∀ x26 : Int, x26 = F21 a0 22 →
            ((x26 ≤ a3) →
              V_X10_touched_108 d S20 F21 G22 Q a0 a1 a2 a3 a4 a5 a6 x25 x26 0) ∧
            ((¬ x26 ≤ a3) →
              (r32 (x26 - 1)) ∧
              Ok (d - 1) MX10_cellsFrom [vR a0, vI a1, vI a2, vI a3, vI a4, vI (x26 - 1), vJ 1] S20 F21 G22 (fun w28 S29 F30 G31 =>
              ∃ z32 : Int, w28 = some (vJ z32) ∧
              V_X10_touched_108 d S29 F30 G31 Q a0 a1 a2 a3 a4 a5 a6 x25 x26 z32))) ∧
          ((z23 = 0) →
            Q (some (vJ (-1))) S20 F21 G22)))) ∧
      ((¬ 1 ≤ a6) →
        Q (some (vJ (-3))) S10 F11 G12)) ∧
    ((z14 = 0) →
      Q (some (vJ (-2))) S10 F11 G12))))
theorem R_X10_touched_0 {d : Nat} {S : AS} {F : AF} {G : AG} {Q : AQ} {a0 : Nat} {a1 : Int} {a2 : Int} {a3 : Int} {a4 : Int} {a5 : Int} {a6 : Int} (h : V_X10_touched_0 d S F G Q a0 a1 a2 a3 a4 a5 a6) : Go d MX10_touched 0 [some (vR a0), some (vI a1), some (vI a2), some (vI a3), some (vI a4), some (vI a5), some (vJ a6), none, none, none] [] S F G Q := by
  unfold V_X10_touched_0 at h
  refine go_aload_n (show decode cX10_touched 0 = .ok (.aload_n 0, 1) by decide +kernel) (by rfl) ?_
  refine go_iconst (show decode cX10_touched 1 = .ok (.iconst 0, 1) by decide +kernel) (by decide) ?_
  obtain ⟨q1, h⟩ := h
  refine go_putI (show decode cX10_touched 2 = .ok (.putfield 1, 3) by decide +kernel) fl_X10_1 rfl (Or.inl rfl) q1 ?_
  obtain ⟨F2, F2e⟩ : ∃ F2 : AF, F2 = fu F a0 0 0 := ⟨_, rfl⟩
  have h := h F2 F2e
  rw [← F2e]
  refine go_iload_n (show decode cX10_touched 5 = .ok (.iload_n 1, 1) by decide +kernel) (by rfl) ?_
  obtain ⟨q3, h⟩ := h
  refine go_callS (d2 := d - 1) (M2 := MX10_isGood) (n := 1) (av := [vI a1]) (st := []) (show decode cX10_touched 6 = .ok (.invokestatic 167, 3) by decide +kernel) ml_X10_167 mt_X10_isGood mst_X10_isGood rfl (Nat.le_of_ble_eq_true rfl) (by omega) (ok_mono h (fun w4 S5 F6 G7 h => ?_))
  obtain ⟨z8, e9, h⟩ := h
  subst e9
  show Go d MX10_touched 9 [some (vR a0), some (vI a1), some (vI a2), some (vI a3), some (vI a4), some (vI a5), some (vJ a6), none, none, none] [vI z8] S5 F6 G7 Q
  obtain ⟨ht, hf⟩ := h
  refine go_ifeq (tgt := 25) (show decode cX10_touched 9 = .ok (.ifCond .eq 16, 3) by decide +kernel) (by decide) (fun hc => ?_) (fun hc => ?_)
  · have h := ht hc
    refine go_ldc2 (show decode cX10_touched 25 = .ok (.ldc2_w 174, 3) by decide +kernel) lc_X10_174 (by decide) ?_
    exact go_lret (show decode cX10_touched 28 = .ok (.lreturn, 1) by decide +kernel) rfl h
  · have h := hf hc
    refine go_aload_n (show decode cX10_touched 12 = .ok (.aload_n 0, 1) by decide +kernel) (by rfl) ?_
    refine go_iload_n (show decode cX10_touched 13 = .ok (.iload_n 2, 1) by decide +kernel) (by rfl) ?_
    refine go_iload_n (show decode cX10_touched 14 = .ok (.iload_n 3, 1) by decide +kernel) (by rfl) ?_
    refine go_iload (show decode cX10_touched 15 = .ok (.iload 4, 2) by decide +kernel) (by rfl) ?_
    refine go_iload (show decode cX10_touched 17 = .ok (.iload 5, 2) by decide +kernel) (by rfl) ?_
    obtain ⟨q13, h⟩ := h
    refine go_callV (d2 := d - 1) (M2 := MX10_isRectangle) (n := 4) (ci := 10) (av := [vI a2, vI a3, vI a4, vI a5]) (st := []) (show decode cX10_touched 19 = .ok (.invokevirtual 170, 3) by decide +kernel) ml_X10_170 mt_X10_isRectangle min_X10_isRectangle mse_X10_isRectangle (by decide) q13 rfl (Nat.le_of_ble_eq_true rfl) (by omega) (ok_mono h (fun w9 S10 F11 G12 h => ?_))
    obtain ⟨z14, e9, h⟩ := h
    subst e9
    show Go d MX10_touched 22 [some (vR a0), some (vI a1), some (vI a2), some (vI a3), some (vI a4), some (vI a5), some (vJ a6), none, none, none] [vI z14] S10 F11 G12 Q
    obtain ⟨ht, hf⟩ := h
    refine go_ifne (tgt := 29) (show decode cX10_touched 22 = .ok (.ifCond .ne 7, 3) by decide +kernel) (by decide) (fun hc => ?_) (fun hc => ?_)
    · have h := ht hc
      refine go_lload (show decode cX10_touched 29 = .ok (.lload 6, 2) by decide +kernel) (by rfl) ?_
      refine go_lconst (n := 1) (show decode cX10_touched 31 = .ok (.lconst 1, 1) by decide +kernel) ?_
      show Go d MX10_touched 32 [some (vR a0), some (vI a1), some (vI a2), some (vI a3), some (vI a4), some (vI a5), some (vJ a6), none, none, none] [vJ 1, vJ a6] S10 F11 G12 Q
      obtain ⟨ht, hf⟩ := h
      refine go_jge (tgt := 40) (show decode cX10_touched 32 = .ok (.lcmp, 1) by decide +kernel) (show decode cX10_touched 33 = .ok (.ifCond .ge 7, 3) by decide +kernel) (by decide) (fun hc => ?_) (fun hc => ?_)
      · have h := ht hc
        refine go_lload (show decode cX10_touched 40 = .ok (.lload 6, 2) by decide +kernel) (by rfl) ?_
        refine go_aload_n (show decode cX10_touched 42 = .ok (.aload_n 0, 1) by decide +kernel) (by rfl) ?_
        obtain ⟨q15, h⟩ := h
        refine go_getR (show decode cX10_touched 43 = .ok (.getfield 43, 3) by decide +kernel) fl_X10_43 rfl q15 ?_
        refine go_iload_n (show decode cX10_touched 46 = .ok (.iload_n 1, 1) by decide +kernel) (by rfl) ?_
        obtain ⟨q16, h⟩ := h
        obtain ⟨q17, h⟩ := h
        obtain ⟨q18, h⟩ := h
        refine go_laload (show decode cX10_touched 47 = .ok (.laload, 1) by decide +kernel) q16 q17 q18 ?_
        obtain ⟨ht, hf⟩ := h
        refine go_jgt (tgt := 68) (show decode cX10_touched 48 = .ok (.lcmp, 1) by decide +kernel) (show decode cX10_touched 49 = .ok (.ifCond .gt 19, 3) by decide +kernel) (by decide) (fun hc => ?_) (fun hc => ?_)
        · have h := ht hc
          refine go_ldc2 (show decode cX10_touched 68 = .ok (.ldc2_w 311, 3) by decide +kernel) lc_X10_311 (by decide) ?_
          exact go_lret (show decode cX10_touched 71 = .ok (.lreturn, 1) by decide +kernel) rfl h
        · have h := hf hc
          refine go_aload_n (show decode cX10_touched 52 = .ok (.aload_n 0, 1) by decide +kernel) (by rfl) ?_
          refine go_iload_n (show decode cX10_touched 53 = .ok (.iload_n 1, 1) by decide +kernel) (by rfl) ?_
          refine go_iload_n (show decode cX10_touched 54 = .ok (.iload_n 2, 1) by decide +kernel) (by rfl) ?_
          refine go_iload_n (show decode cX10_touched 55 = .ok (.iload_n 3, 1) by decide +kernel) (by rfl) ?_
          refine go_iload (show decode cX10_touched 56 = .ok (.iload 4, 2) by decide +kernel) (by rfl) ?_
          refine go_iload (show decode cX10_touched 58 = .ok (.iload 5, 2) by decide +kernel) (by rfl) ?_
          refine go_lload (show decode cX10_touched 60 = .ok (.lload 6, 2) by decide +kernel) (by rfl) ?_
          refine go_callV (d2 := d - 1) (M2 := MX10_finds) (n := 6) (ci := 10) (av := [vI a1, vI a2, vI a3, vI a4, vI a5, vJ a6]) (st := []) (show decode cX10_touched 62 = .ok (.invokevirtual 255, 3) by decide +kernel) ml_X10_255 mt_X10_finds min_X10_finds mse_X10_finds (by decide) q15 rfl (Nat.le_of_ble_eq_true rfl) (by omega) (ok_mono h (fun w19 S20 F21 G22 h => ?_))
          obtain ⟨z23, e9, h⟩ := h
          subst e9
          show Go d MX10_touched 65 [some (vR a0), some (vI a1), some (vI a2), some (vI a3), some (vI a4), some (vI a5), some (vJ a6), none, none, none] [vI z23] S20 F21 G22 Q
          obtain ⟨ht, hf⟩ := h
          refine go_ifne (tgt := 72) (show decode cX10_touched 65 = .ok (.ifCond .ne 7, 3) by decide +kernel) (by decide) (fun hc => ?_) (fun hc => ?_)
          · have h := ht hc
            refine go_aload_n (show decode cX10_touched 72 = .ok (.aload_n 0, 1) by decide +kernel) (by rfl) ?_
            obtain ⟨q24, h⟩ := h
            refine go_getI (show decode cX10_touched 73 = .ok (.getfield 224, 3) by decide +kernel) fl_X10_224 (Or.inl rfl) q24 ?_
            obtain ⟨x25, x25e⟩ : ∃ x25 : Int, x25 = F21 a0 21 := ⟨_, rfl⟩
            have h := h x25 x25e
            rw [← x25e]
            refine go_istore (show decode cX10_touched 76 = .ok (.istore 8, 2) by decide +kernel) (by decide) ?_
            show Go d MX10_touched 78 [some (vR a0), some (vI a1), some (vI a2), some (vI a3), some (vI a4), some (vI a5), some (vJ a6), none, some (vI x25), none] [] S20 F21 G22 Q
            refine go_aload_n (show decode cX10_touched 78 = .ok (.aload_n 0, 1) by decide +kernel) (by rfl) ?_
            refine go_getI (show decode cX10_touched 79 = .ok (.getfield 221, 3) by decide +kernel) fl_X10_221 (Or.inl rfl) q24 ?_
            obtain ⟨x26, x26e⟩ : ∃ x26 : Int, x26 = F21 a0 22 := ⟨_, rfl⟩
            have h := h x26 x26e
            rw [← x26e]
            refine go_istore (show decode cX10_touched 82 = .ok (.istore 9, 2) by decide +kernel) (by decide) ?_
            show Go d MX10_touched 84 [some (vR a0), some (vI a1), some (vI a2), some (vI a3), some (vI a4), some (vI a5), some (vJ a6), none, some (vI x25), some (vI x26)] [] S20 F21 G22 Q
            refine go_iload (show decode cX10_touched 84 = .ok (.iload 9, 2) by decide +kernel) (by rfl) ?_
            refine go_iload_n (show decode cX10_touched 86 = .ok (.iload_n 3, 1) by decide +kernel) (by rfl) ?_
            obtain ⟨ht, hf⟩ := h
            refine go_icmple (tgt := 107) (show decode cX10_touched 87 = .ok (.if_icmp .le 20, 3) by decide +kernel) (by decide) (fun hc => ?_) (fun hc => ?_)
            · have h := ht hc
              refine go_lconst (n := 0) (show decode cX10_touched 107 = .ok (.lconst 0, 1) by decide +kernel) ?_
              show Go d MX10_touched 108 [some (vR a0), some (vI a1), some (vI a2), some (vI a3), some (vI a4), some (vI a5), some (vJ a6), none, some (vI x25), some (vI x26)] [vJ 0] S20 F21 G22 Q
              exact R_X10_touched_108 h
            · have h := hf hc
              refine go_aload_n (show decode cX10_touched 90 = .ok (.aload_n 0, 1) by decide +kernel) (by rfl) ?_
              refine go_iload_n (show decode cX10_touched 91 = .ok (.iload_n 1, 1) by decide +kernel) (by rfl) ?_
              refine go_iload_n (show decode cX10_touched 92 = .ok (.iload_n 2, 1) by decide +kernel) (by rfl) ?_
              refine go_iload_n (show decode cX10_touched 93 = .ok (.iload_n 3, 1) by decide +kernel) (by rfl) ?_
              refine go_iload (show decode cX10_touched 94 = .ok (.iload 4, 2) by decide +kernel) (by rfl) ?_
              refine go_iload (show decode cX10_touched 96 = .ok (.iload 9, 2) by decide +kernel) (by rfl) ?_
              refine go_iconst (show decode cX10_touched 98 = .ok (.iconst 1, 1) by decide +kernel) (by decide) ?_
              obtain ⟨q27, h⟩ := h
              refine go_isub (show decode cX10_touched 99 = .ok (.isub, 1) by decide +kernel) q27 ?_
              refine go_lconst (n := 1) (show decode cX10_touched 100 = .ok (.lconst 1, 1) by decide +kernel) ?_
              show Go d MX10_touched 101 [some (vR a0), some (vI a1), some (vI a2), some (vI a3), some (vI a4), some (vI a5), some (vJ a6), none, some (vI x25), some (vI x26)] [vJ 1, vI (x26 - 1), vI a4, vI a3, vI a2, vI a1, vR a0] S20 F21 G22 Q
              refine go_callV (d2 := d - 1) (M2 := MX10_cellsFrom) (n := 6) (ci := 10) (av := [vI a1, vI a2, vI a3, vI a4, vI (x26 - 1), vJ 1]) (st := []) (show decode cX10_touched 101 = .ok (.invokevirtual 412, 3) by decide +kernel) ml_X10_412 mt_X10_cellsFrom min_X10_cellsFrom mse_X10_cellsFrom (by decide) q24 rfl (Nat.le_of_ble_eq_true rfl) (by omega) (ok_mono h (fun w28 S29 F30 G31 h => ?_))
              obtain ⟨z32, e9, h⟩ := h
              subst e9
              show Go d MX10_touched 104 [some (vR a0), some (vI a1), some (vI a2), some (vI a3), some (vI a4), some (vI a5), some (vJ a6), none, some (vI x25), some (vI x26)] [vJ z32] S29 F30 G31 Q
              refine go_goto (tgt := 108) (show decode cX10_touched 104 = .ok (.goto 4, 3) by decide +kernel) (by decide) ?_
              exact R_X10_touched_108 h
          · have h := hf hc
            refine go_ldc2 (show decode cX10_touched 68 = .ok (.ldc2_w 311, 3) by decide +kernel) lc_X10_311 (by decide) ?_
            exact go_lret (show decode cX10_touched 71 = .ok (.lreturn, 1) by decide +kernel) rfl h
      · have h := hf hc
        refine go_ldc2 (show decode cX10_touched 36 = .ok (.ldc2_w 120, 3) by decide +kernel) lc_X10_120 (by decide) ?_
        exact go_lret (show decode cX10_touched 39 = .ok (.lreturn, 1) by decide +kernel) rfl h
    · have h := hf hc
      refine go_ldc2 (show decode cX10_touched 25 = .ok (.ldc2_w 174, 3) by decide +kernel) lc_X10_174 (by decide) ?_
      exact go_lret (show decode cX10_touched 28 = .ok (.lreturn, 1) by decide +kernel) rfl h
def V_X10_ahead_113 (d : Nat) (S : AS) (F : AF) (G : AG) (Q : AQ) (a0 : Nat) (a1 : Int) (a2 : Int) (a3 : Int) (a4 : Int) (s0 : Int) : Prop :=
  ((¬ a4 = 0) →
    (r32 (a4 - 1)) ∧
    (1 ≤ d) ∧
    (sK S a0 = 10) ∧
    Ok (d - 1) MX10_sumOf [vR a0, vI a1, vI a3, vI 0, vI a3, vI (a4 - 1)] S F G (fun w3 S4 F5 G6 =>
    ∃ z8 : Int, w3 = some (vJ z8) ∧
    (r64 (s0 + z8)) ∧
    Q (some (vJ (s0 + z8))) S4 F5 G6)) ∧
  ((a4 = 0) →
    (r64 (s0 + 0)) ∧
    Q (some (vJ (s0 + 0))) S F G)
theorem R_X10_ahead_113 {d : Nat} {S : AS} {F : AF} {G : AG} {Q : AQ} {a0 : Nat} {a1 : Int} {a2 : Int} {a3 : Int} {a4 : Int} {s0 : Int} (h : V_X10_ahead_113 d S F G Q a0 a1 a2 a3 a4 s0) : Go d MX10_ahead 113 [some (vR a0), some (vI a1), some (vI a2), some (vI a3), some (vI a4)] [vJ s0] S F G Q := by
  unfold V_X10_ahead_113 at h
  refine go_iload (show decode cX10_ahead 113 = .ok (.iload 4, 2) by decide +kernel) (by rfl) ?_
  obtain ⟨ht, hf⟩ := h
  refine go_ifne (tgt := 122) (show decode cX10_ahead 115 = .ok (.ifCond .ne 7, 3) by decide +kernel) (by decide) (fun hc => ?_) (fun hc => ?_)
  · have h := ht hc
    refine go_aload_n (show decode cX10_ahead 122 = .ok (.aload_n 0, 1) by decide +kernel) (by rfl) ?_
    refine go_iload_n (show decode cX10_ahead 123 = .ok (.iload_n 1, 1) by decide +kernel) (by rfl) ?_
    refine go_iload_n (show decode cX10_ahead 124 = .ok (.iload_n 3, 1) by decide +kernel) (by rfl) ?_
    refine go_iconst (show decode cX10_ahead 125 = .ok (.iconst 0, 1) by decide +kernel) (by decide) ?_
    refine go_iload_n (show decode cX10_ahead 126 = .ok (.iload_n 3, 1) by decide +kernel) (by rfl) ?_
    refine go_iload (show decode cX10_ahead 127 = .ok (.iload 4, 2) by decide +kernel) (by rfl) ?_
    refine go_iconst (show decode cX10_ahead 129 = .ok (.iconst 1, 1) by decide +kernel) (by decide) ?_
    obtain ⟨q1, h⟩ := h
    refine go_isub (show decode cX10_ahead 130 = .ok (.isub, 1) by decide +kernel) q1 ?_
    obtain ⟨q2, h⟩ := h
    obtain ⟨q7, h⟩ := h
    refine go_callV (d2 := d - 1) (M2 := MX10_sumOf) (n := 5) (ci := 10) (av := [vI a1, vI a3, vI 0, vI a3, vI (a4 - 1)]) (st := [vJ s0]) (show decode cX10_ahead 131 = .ok (.invokevirtual 251, 3) by decide +kernel) ml_X10_251 mt_X10_sumOf min_X10_sumOf mse_X10_sumOf (by decide) q7 rfl (Nat.le_of_ble_eq_true rfl) (by omega) (ok_mono h (fun w3 S4 F5 G6 h => ?_))
    obtain ⟨z8, e9, h⟩ := h
    subst e9
    show Go d MX10_ahead 134 [some (vR a0), some (vI a1), some (vI a2), some (vI a3), some (vI a4)] [vJ z8, vJ s0] S4 F5 G6 Q
    obtain ⟨q9, h⟩ := h
    refine go_ladd (show decode cX10_ahead 134 = .ok (.ladd, 1) by decide +kernel) q9 ?_
    exact go_lret (show decode cX10_ahead 135 = .ok (.lreturn, 1) by decide +kernel) rfl h
  · have h := hf hc
    refine go_lconst (n := 0) (show decode cX10_ahead 118 = .ok (.lconst 0, 1) by decide +kernel) ?_
    show Go d MX10_ahead 119 [some (vR a0), some (vI a1), some (vI a2), some (vI a3), some (vI a4)] [vJ 0, vJ s0] S F G Q
    refine go_goto (tgt := 134) (show decode cX10_ahead 119 = .ok (.goto 15, 3) by decide +kernel) (by decide) ?_
    obtain ⟨q10, h⟩ := h
    refine go_ladd (show decode cX10_ahead 134 = .ok (.ladd, 1) by decide +kernel) q10 ?_
    exact go_lret (show decode cX10_ahead 135 = .ok (.lreturn, 1) by decide +kernel) rfl h
def V_X10_ahead_66 (d : Nat) (S : AS) (F : AF) (G : AG) (Q : AQ) (a0 : Nat) (a1 : Int) (a2 : Int) (a3 : Int) (a4 : Int) (s0 : Int) : Prop :=
  ((¬ a3 = 0) →
    (r32 (a3 - 1)) ∧
    (1 ≤ d) ∧
    (sK S a0 = 10) ∧
    Ok (d - 1) MX10_sumOf [vR a0, vI a1, vI 0, vI a4, vI (a3 - 1), vI a4] S F G (fun w3 S4 F5 G6 =>
    ∃ z8 : Int, w3 = some (vJ z8) ∧
    (r64 (s0 + z8)) ∧
    Q (some (vJ (s0 + z8))) S4 F5 G6)) ∧
  ((a3 = 0) →
    (r64 (s0 + 0)) ∧
    Q (some (vJ (s0 + 0))) S F G)
theorem R_X10_ahead_66 {d : Nat} {S : AS} {F : AF} {G : AG} {Q : AQ} {a0 : Nat} {a1 : Int} {a2 : Int} {a3 : Int} {a4 : Int} {s0 : Int} (h : V_X10_ahead_66 d S F G Q a0 a1 a2 a3 a4 s0) : Go d MX10_ahead 66 [some (vR a0), some (vI a1), some (vI a2), some (vI a3), some (vI a4)] [vJ s0] S F G Q := by
  unfold V_X10_ahead_66 at h
  refine go_iload_n (show decode cX10_ahead 66 = .ok (.iload_n 3, 1) by decide +kernel) (by rfl) ?_
  obtain ⟨ht, hf⟩ := h
  refine go_ifne (tgt := 74) (show decode cX10_ahead 67 = .ok (.ifCond .ne 7, 3) by decide +kernel) (by decide) (fun hc => ?_) (fun hc => ?_)
  · have h := ht hc
    refine go_aload_n (show decode cX10_ahead 74 = .ok (.aload_n 0, 1) by decide +kernel) (by rfl) ?_
    refine go_iload_n (show decode cX10_ahead 75 = .ok (.iload_n 1, 1) by decide +kernel) (by rfl) ?_
    refine go_iconst (show decode cX10_ahead 76 = .ok (.iconst 0, 1) by decide +kernel) (by decide) ?_
    refine go_iload (show decode cX10_ahead 77 = .ok (.iload 4, 2) by decide +kernel) (by rfl) ?_
    refine go_iload_n (show decode cX10_ahead 79 = .ok (.iload_n 3, 1) by decide +kernel) (by rfl) ?_
    refine go_iconst (show decode cX10_ahead 80 = .ok (.iconst 1, 1) by decide +kernel) (by decide) ?_
    obtain ⟨q1, h⟩ := h
    refine go_isub (show decode cX10_ahead 81 = .ok (.isub, 1) by decide +kernel) q1 ?_
    refine go_iload (show decode cX10_ahead 82 = .ok (.iload 4, 2) by decide +kernel) (by rfl) ?_
    obtain ⟨q2, h⟩ := h
    obtain ⟨q7, h⟩ := h
    refine go_callV (d2 := d - 1) (M2 := MX10_sumOf) (n := 5) (ci := 10) (av := [vI a1, vI 0, vI a4, vI (a3 - 1), vI a4]) (st := [vJ s0]) (show decode cX10_ahead 84 = .ok (.invokevirtual 251, 3) by decide +kernel) ml_X10_251 mt_X10_sumOf min_X10_sumOf mse_X10_sumOf (by decide) q7 rfl (Nat.le_of_ble_eq_true rfl) (by omega) (ok_mono h (fun w3 S4 F5 G6 h => ?_))
    obtain ⟨z8, e9, h⟩ := h
    subst e9
    show Go d MX10_ahead 87 [some (vR a0), some (vI a1), some (vI a2), some (vI a3), some (vI a4)] [vJ z8, vJ s0] S4 F5 G6 Q
    obtain ⟨q9, h⟩ := h
    refine go_ladd (show decode cX10_ahead 87 = .ok (.ladd, 1) by decide +kernel) q9 ?_
    exact go_lret (show decode cX10_ahead 88 = .ok (.lreturn, 1) by decide +kernel) rfl h
  · have h := hf hc
    refine go_lconst (n := 0) (show decode cX10_ahead 70 = .ok (.lconst 0, 1) by decide +kernel) ?_
    show Go d MX10_ahead 71 [some (vR a0), some (vI a1), some (vI a2), some (vI a3), some (vI a4)] [vJ 0, vJ s0] S F G Q
    refine go_goto (tgt := 87) (show decode cX10_ahead 71 = .ok (.goto 16, 3) by decide +kernel) (by decide) ?_
    obtain ⟨q10, h⟩ := h
    refine go_ladd (show decode cX10_ahead 87 = .ok (.ladd, 1) by decide +kernel) q10 ?_
    exact go_lret (show decode cX10_ahead 88 = .ok (.lreturn, 1) by decide +kernel) rfl h
def V_X10_ahead_0 (d : Nat) (S : AS) (F : AF) (G : AG) (Q : AQ) (a0 : Nat) (a1 : Int) (a2 : Int) (a3 : Int) (a4 : Int) : Prop :=
  (sK S a0 = 10) ∧
  ∀ F2 : AF, F2 = fu F a0 0 0 →
  (1 ≤ d) ∧
  Ok (d - 1) MX10_isGood [vI a1] S F2 G (fun w4 S5 F6 G7 =>
  ∃ z8 : Int, w4 = some (vI z8) ∧
  ((z8 = 0) →
    Q (some (vJ (-2))) S5 F6 G7) ∧
  ((¬ z8 = 0) →
    Ok (d - 1) MX10_isIn [vJ a2, vJ 0, vJ 1] S5 F6 G7 (fun w9 S10 F11 G12 =>
    ∃ z13 : Int, w9 = some (vI z13) ∧
    ((z13 = 0) →
      Q (some (vJ (-2))) S10 F11 G12) ∧
    ((¬ z13 = 0) →
      (sK S10 a0 = 10) ∧
      Ok (d - 1) MX10_isCell [vR a0, vI a3, vI a4] S10 F11 G12 (fun w14 S15 F16 G17 =>
      ∃ z19 : Int, w14 = some (vI z19) ∧
      ((¬ z19 = 0) →
        ((¬ a2 = 0) →
          ((¬ a3 = 0) →
            (r32 (a3 - 1)) ∧
            (sK S15 a0 = 10) ∧
            (r32 ((F16 a0 2) - 1)) ∧
            Ok (d - 1) MX10_sumOf [vR a0, vI a1, vI 0, vI 0, vI (a3 - 1), vI ((F16 a0 2) - 1)] S15 F16 G17 (fun w23 S24 F25 G26 =>
            ∃ z27 : Int, w23 = some (vJ z27) ∧
            V_X10_ahead_113 d S24 F25 G26 Q a0 a1 a2 a3 a4 z27)) ∧
          ((a3 = 0) →
            V_X10_ahead_113 d S15 F16 G17 Q a0 a1 a2 a3 a4 0)) ∧
        ((a2 = 0) →
          ((¬ a4 = 0) →
            (sK S15 a0 = 10) ∧
            (r32 ((F16 a0 1) - 1)) ∧
            (r32 (a4 - 1)) ∧
            Ok (d - 1) MX10_sumOf [vR a0, vI a1, vI 0, vI 0, vI ((F16 a0 1) - 1), vI (a4 - 1)] S15 F16 G17 (fun w31 S32 F33 G34 =>
            ∃ z35 : Int, w31 = some (vJ z35) ∧
            V_X10_ahead_66 d S32 F33 G34 Q a0 a1 a2 a3 a4 z35)) ∧
          ((a4 = 0) →
            V_X10_ahead_66 d S15 F16 G17 Q a0 a1 a2 a3 a4 0))) ∧
      ((z19 = 0) →
        Q (some (vJ (-2))) S15 F16 G17))))))
theorem R_X10_ahead_0 {d : Nat} {S : AS} {F : AF} {G : AG} {Q : AQ} {a0 : Nat} {a1 : Int} {a2 : Int} {a3 : Int} {a4 : Int} (h : V_X10_ahead_0 d S F G Q a0 a1 a2 a3 a4) : Go d MX10_ahead 0 [some (vR a0), some (vI a1), some (vI a2), some (vI a3), some (vI a4)] [] S F G Q := by
  unfold V_X10_ahead_0 at h
  refine go_aload_n (show decode cX10_ahead 0 = .ok (.aload_n 0, 1) by decide +kernel) (by rfl) ?_
  refine go_iconst (show decode cX10_ahead 1 = .ok (.iconst 0, 1) by decide +kernel) (by decide) ?_
  obtain ⟨q1, h⟩ := h
  refine go_putI (show decode cX10_ahead 2 = .ok (.putfield 1, 3) by decide +kernel) fl_X10_1 rfl (Or.inl rfl) q1 ?_
  obtain ⟨F2, F2e⟩ : ∃ F2 : AF, F2 = fu F a0 0 0 := ⟨_, rfl⟩
  have h := h F2 F2e
  rw [← F2e]
  refine go_iload_n (show decode cX10_ahead 5 = .ok (.iload_n 1, 1) by decide +kernel) (by rfl) ?_
  obtain ⟨q3, h⟩ := h
  refine go_callS (d2 := d - 1) (M2 := MX10_isGood) (n := 1) (av := [vI a1]) (st := []) (show decode cX10_ahead 6 = .ok (.invokestatic 167, 3) by decide +kernel) ml_X10_167 mt_X10_isGood mst_X10_isGood rfl (Nat.le_of_ble_eq_true rfl) (by omega) (ok_mono h (fun w4 S5 F6 G7 h => ?_))
  obtain ⟨z8, e9, h⟩ := h
  subst e9
  show Go d MX10_ahead 9 [some (vR a0), some (vI a1), some (vI a2), some (vI a3), some (vI a4)] [vI z8] S5 F6 G7 Q
  obtain ⟨ht, hf⟩ := h
  refine go_ifeq (tgt := 32) (show decode cX10_ahead 9 = .ok (.ifCond .eq 23, 3) by decide +kernel) (by decide) (fun hc => ?_) (fun hc => ?_)
  · have h := ht hc
    refine go_ldc2 (show decode cX10_ahead 32 = .ok (.ldc2_w 174, 3) by decide +kernel) lc_X10_174 (by decide) ?_
    exact go_lret (show decode cX10_ahead 35 = .ok (.lreturn, 1) by decide +kernel) rfl h
  · have h := hf hc
    refine go_iload_n (show decode cX10_ahead 12 = .ok (.iload_n 2, 1) by decide +kernel) (by rfl) ?_
    refine go_i2l (show decode cX10_ahead 13 = .ok (.i2l, 1) by decide +kernel) ?_
    refine go_lconst (n := 0) (show decode cX10_ahead 14 = .ok (.lconst 0, 1) by decide +kernel) ?_
    show Go d MX10_ahead 15 [some (vR a0), some (vI a1), some (vI a2), some (vI a3), some (vI a4)] [vJ 0, vJ a2] S5 F6 G7 Q
    refine go_lconst (n := 1) (show decode cX10_ahead 15 = .ok (.lconst 1, 1) by decide +kernel) ?_
    show Go d MX10_ahead 16 [some (vR a0), some (vI a1), some (vI a2), some (vI a3), some (vI a4)] [vJ 1, vJ 0, vJ a2] S5 F6 G7 Q
    refine go_callS (d2 := d - 1) (M2 := MX10_isIn) (n := 3) (av := [vJ a2, vJ 0, vJ 1]) (st := []) (show decode cX10_ahead 16 = .ok (.invokestatic 116, 3) by decide +kernel) ml_X10_116 mt_X10_isIn mst_X10_isIn rfl (Nat.le_of_ble_eq_true rfl) (by omega) (ok_mono h (fun w9 S10 F11 G12 h => ?_))
    obtain ⟨z13, e9, h⟩ := h
    subst e9
    show Go d MX10_ahead 19 [some (vR a0), some (vI a1), some (vI a2), some (vI a3), some (vI a4)] [vI z13] S10 F11 G12 Q
    obtain ⟨ht, hf⟩ := h
    refine go_ifeq (tgt := 32) (show decode cX10_ahead 19 = .ok (.ifCond .eq 13, 3) by decide +kernel) (by decide) (fun hc => ?_) (fun hc => ?_)
    · have h := ht hc
      refine go_ldc2 (show decode cX10_ahead 32 = .ok (.ldc2_w 174, 3) by decide +kernel) lc_X10_174 (by decide) ?_
      exact go_lret (show decode cX10_ahead 35 = .ok (.lreturn, 1) by decide +kernel) rfl h
    · have h := hf hc
      refine go_aload_n (show decode cX10_ahead 22 = .ok (.aload_n 0, 1) by decide +kernel) (by rfl) ?_
      refine go_iload_n (show decode cX10_ahead 23 = .ok (.iload_n 3, 1) by decide +kernel) (by rfl) ?_
      refine go_iload (show decode cX10_ahead 24 = .ok (.iload 4, 2) by decide +kernel) (by rfl) ?_
      obtain ⟨q18, h⟩ := h
      refine go_callV (d2 := d - 1) (M2 := MX10_isCell) (n := 2) (ci := 10) (av := [vI a3, vI a4]) (st := []) (show decode cX10_ahead 26 = .ok (.invokevirtual 406, 3) by decide +kernel) ml_X10_406 mt_X10_isCell min_X10_isCell mse_X10_isCell (by decide) q18 rfl (Nat.le_of_ble_eq_true rfl) (by omega) (ok_mono h (fun w14 S15 F16 G17 h => ?_))
      obtain ⟨z19, e9, h⟩ := h
      subst e9
      show Go d MX10_ahead 29 [some (vR a0), some (vI a1), some (vI a2), some (vI a3), some (vI a4)] [vI z19] S15 F16 G17 Q
      obtain ⟨ht, hf⟩ := h
      refine go_ifne (tgt := 36) (show decode cX10_ahead 29 = .ok (.ifCond .ne 7, 3) by decide +kernel) (by decide) (fun hc => ?_) (fun hc => ?_)
      · have h := ht hc
        refine go_iload_n (show decode cX10_ahead 36 = .ok (.iload_n 2, 1) by decide +kernel) (by rfl) ?_
        obtain ⟨ht, hf⟩ := h
        refine go_ifne (tgt := 89) (show decode cX10_ahead 37 = .ok (.ifCond .ne 52, 3) by decide +kernel) (by decide) (fun hc => ?_) (fun hc => ?_)
        · have h := ht hc
          refine go_iload_n (show decode cX10_ahead 89 = .ok (.iload_n 3, 1) by decide +kernel) (by rfl) ?_
          obtain ⟨ht, hf⟩ := h
          refine go_ifne (tgt := 97) (show decode cX10_ahead 90 = .ok (.ifCond .ne 7, 3) by decide +kernel) (by decide) (fun hc => ?_) (fun hc => ?_)
          · have h := ht hc
            refine go_aload_n (show decode cX10_ahead 97 = .ok (.aload_n 0, 1) by decide +kernel) (by rfl) ?_
            refine go_iload_n (show decode cX10_ahead 98 = .ok (.iload_n 1, 1) by decide +kernel) (by rfl) ?_
            refine go_iconst (show decode cX10_ahead 99 = .ok (.iconst 0, 1) by decide +kernel) (by decide) ?_
            refine go_iconst (show decode cX10_ahead 100 = .ok (.iconst 0, 1) by decide +kernel) (by decide) ?_
            refine go_iload_n (show decode cX10_ahead 101 = .ok (.iload_n 3, 1) by decide +kernel) (by rfl) ?_
            refine go_iconst (show decode cX10_ahead 102 = .ok (.iconst 1, 1) by decide +kernel) (by decide) ?_
            obtain ⟨q20, h⟩ := h
            refine go_isub (show decode cX10_ahead 103 = .ok (.isub, 1) by decide +kernel) q20 ?_
            refine go_aload_n (show decode cX10_ahead 104 = .ok (.aload_n 0, 1) by decide +kernel) (by rfl) ?_
            obtain ⟨q21, h⟩ := h
            refine go_getI (show decode cX10_ahead 105 = .ok (.getfield 16, 3) by decide +kernel) fl_X10_16 (Or.inl rfl) q21 ?_
            refine go_iconst (show decode cX10_ahead 108 = .ok (.iconst 1, 1) by decide +kernel) (by decide) ?_
            obtain ⟨q22, h⟩ := h
            refine go_isub (show decode cX10_ahead 109 = .ok (.isub, 1) by decide +kernel) q22 ?_
            refine go_callV (d2 := d - 1) (M2 := MX10_sumOf) (n := 5) (ci := 10) (av := [vI a1, vI 0, vI 0, vI (a3 - 1), vI ((F16 a0 2) - 1)]) (st := []) (show decode cX10_ahead 110 = .ok (.invokevirtual 251, 3) by decide +kernel) ml_X10_251 mt_X10_sumOf min_X10_sumOf mse_X10_sumOf (by decide) q21 rfl (Nat.le_of_ble_eq_true rfl) (by omega) (ok_mono h (fun w23 S24 F25 G26 h => ?_))
            obtain ⟨z27, e9, h⟩ := h
            subst e9
            show Go d MX10_ahead 113 [some (vR a0), some (vI a1), some (vI a2), some (vI a3), some (vI a4)] [vJ z27] S24 F25 G26 Q
            exact R_X10_ahead_113 h
          · have h := hf hc
            refine go_lconst (n := 0) (show decode cX10_ahead 93 = .ok (.lconst 0, 1) by decide +kernel) ?_
            show Go d MX10_ahead 94 [some (vR a0), some (vI a1), some (vI a2), some (vI a3), some (vI a4)] [vJ 0] S15 F16 G17 Q
            refine go_goto (tgt := 113) (show decode cX10_ahead 94 = .ok (.goto 19, 3) by decide +kernel) (by decide) ?_
            exact R_X10_ahead_113 h
        · have h := hf hc
          refine go_iload (show decode cX10_ahead 40 = .ok (.iload 4, 2) by decide +kernel) (by rfl) ?_
          obtain ⟨ht, hf⟩ := h
          refine go_ifne (tgt := 49) (show decode cX10_ahead 42 = .ok (.ifCond .ne 7, 3) by decide +kernel) (by decide) (fun hc => ?_) (fun hc => ?_)
          · have h := ht hc
            refine go_aload_n (show decode cX10_ahead 49 = .ok (.aload_n 0, 1) by decide +kernel) (by rfl) ?_
            refine go_iload_n (show decode cX10_ahead 50 = .ok (.iload_n 1, 1) by decide +kernel) (by rfl) ?_
            refine go_iconst (show decode cX10_ahead 51 = .ok (.iconst 0, 1) by decide +kernel) (by decide) ?_
            refine go_iconst (show decode cX10_ahead 52 = .ok (.iconst 0, 1) by decide +kernel) (by decide) ?_
            refine go_aload_n (show decode cX10_ahead 53 = .ok (.aload_n 0, 1) by decide +kernel) (by rfl) ?_
            obtain ⟨q28, h⟩ := h
            refine go_getI (show decode cX10_ahead 54 = .ok (.getfield 13, 3) by decide +kernel) fl_X10_13 (Or.inl rfl) q28 ?_
            refine go_iconst (show decode cX10_ahead 57 = .ok (.iconst 1, 1) by decide +kernel) (by decide) ?_
            obtain ⟨q29, h⟩ := h
            refine go_isub (show decode cX10_ahead 58 = .ok (.isub, 1) by decide +kernel) q29 ?_
            refine go_iload (show decode cX10_ahead 59 = .ok (.iload 4, 2) by decide +kernel) (by rfl) ?_
            refine go_iconst (show decode cX10_ahead 61 = .ok (.iconst 1, 1) by decide +kernel) (by decide) ?_
            obtain ⟨q30, h⟩ := h
            refine go_isub (show decode cX10_ahead 62 = .ok (.isub, 1) by decide +kernel) q30 ?_
            refine go_callV (d2 := d - 1) (M2 := MX10_sumOf) (n := 5) (ci := 10) (av := [vI a1, vI 0, vI 0, vI ((F16 a0 1) - 1), vI (a4 - 1)]) (st := []) (show decode cX10_ahead 63 = .ok (.invokevirtual 251, 3) by decide +kernel) ml_X10_251 mt_X10_sumOf min_X10_sumOf mse_X10_sumOf (by decide) q28 rfl (Nat.le_of_ble_eq_true rfl) (by omega) (ok_mono h (fun w31 S32 F33 G34 h => ?_))
            obtain ⟨z35, e9, h⟩ := h
            subst e9
            show Go d MX10_ahead 66 [some (vR a0), some (vI a1), some (vI a2), some (vI a3), some (vI a4)] [vJ z35] S32 F33 G34 Q
            exact R_X10_ahead_66 h
          · have h := hf hc
            refine go_lconst (n := 0) (show decode cX10_ahead 45 = .ok (.lconst 0, 1) by decide +kernel) ?_
            show Go d MX10_ahead 46 [some (vR a0), some (vI a1), some (vI a2), some (vI a3), some (vI a4)] [vJ 0] S15 F16 G17 Q
            refine go_goto (tgt := 66) (show decode cX10_ahead 46 = .ok (.goto 20, 3) by decide +kernel) (by decide) ?_
            exact R_X10_ahead_66 h
      · have h := hf hc
        refine go_ldc2 (show decode cX10_ahead 32 = .ok (.ldc2_w 174, 3) by decide +kernel) lc_X10_174 (by decide) ?_
        exact go_lret (show decode cX10_ahead 35 = .ok (.lreturn, 1) by decide +kernel) rfl h
def V_X10_depot_0 (d : Nat) (S : AS) (F : AF) (G : AG) (Q : AQ) (a0 : Nat) (a1 : Int) (a2 : Int) : Prop :=
  (sK S a0 = 10) ∧
  ∀ F2 : AF, F2 = fu F a0 0 0 →
  (1 ≤ d) ∧
  Ok (d - 1) MX10_isGood [vI a1] S F2 G (fun w4 S5 F6 G7 =>
  ∃ z8 : Int, w4 = some (vI z8) ∧
  ((z8 = 0) →
    Q (some (vJ (-2))) S5 F6 G7) ∧
  ((¬ z8 = 0) →
    Ok (d - 1) MX10_isIn [vJ a2, vJ 0, vJ 2] S5 F6 G7 (fun w9 S10 F11 G12 =>
    ∃ z13 : Int, w9 = some (vI z13) ∧
    ((¬ z13 = 0) →
      (sK S10 a0 = 10) ∧
      (sK S10 (sR S10 a0 9) = 21) ∧
      ((0 : Int) ≤ a1) ∧
      ((a1 : Int) < (sN S10 (sR S10 a0 9) : Int)) ∧
      ((¬ G12 (sR S10 a0 9) a1 = 0) →
        Ok (d - 1) MX10_middle [vR a0, vI a1, vI 0] S10 F11 G12 (fun w18 S19 F20 G21 =>
        ∃ z22 : Int, w18 = some (vI z22) ∧
        (sK S19 a0 = 10) ∧
        Ok (d - 1) MX10_middle [vR a0, vI a1, vI 1] S19 F20 G21 (fun w23 S24 F25 G26 =>
        ∃ z28 : Int, w23 = some (vI z28) ∧
        ((2 ≤ a2) →
          (sK S24 a0 = 10) ∧
          Ok (d - 1) MX10_haul [vR a0, vI a1, vI 0, vI z22] S24 F25 G26 (fun w29 S30 F31 G32 =>
          ∃ z34 : Int, w29 = some (vJ z34) ∧
          (sK S30 a0 = 10) ∧
          Ok (d - 1) MX10_haul [vR a0, vI a1, vI 1, vI z28] S30 F31 G32 (fun w35 S36 F37 G38 =>
          ∃ z40 : Int, w35 = some (vJ z40) ∧
          (r64 (z34 + z40)) ∧
          ∀ x42 : Int, x42 = z34 + z40 →
          ((x42 ≤ 3000000000000000000) →
            Q (some (vJ x42)) S36 F37 G38) ∧
          ((¬ x42 ≤ 3000000000000000000) →
            Q (some (vJ (-6))) S36 F37 G38)))) ∧
        ((¬ 2 ≤ a2) →
          ((¬ a2 = 0) →
            Q (some (vJ z28)) S24 F25 G26) ∧
          ((a2 = 0) →
            Q (some (vJ z22)) S24 F25 G26))))) ∧
      ((G12 (sR S10 a0 9) a1 = 0) →
        Q (some (vJ (-1))) S10 F11 G12)) ∧
    ((z13 = 0) →
      Q (some (vJ (-2))) S10 F11 G12))))
theorem R_X10_depot_0 {d : Nat} {S : AS} {F : AF} {G : AG} {Q : AQ} {a0 : Nat} {a1 : Int} {a2 : Int} (h : V_X10_depot_0 d S F G Q a0 a1 a2) : Go d MX10_depot 0 [some (vR a0), some (vI a1), some (vI a2), none, none, none, none] [] S F G Q := by
  unfold V_X10_depot_0 at h
  refine go_aload_n (show decode cX10_depot 0 = .ok (.aload_n 0, 1) by decide +kernel) (by rfl) ?_
  refine go_iconst (show decode cX10_depot 1 = .ok (.iconst 0, 1) by decide +kernel) (by decide) ?_
  obtain ⟨q1, h⟩ := h
  refine go_putI (show decode cX10_depot 2 = .ok (.putfield 1, 3) by decide +kernel) fl_X10_1 rfl (Or.inl rfl) q1 ?_
  obtain ⟨F2, F2e⟩ : ∃ F2 : AF, F2 = fu F a0 0 0 := ⟨_, rfl⟩
  have h := h F2 F2e
  rw [← F2e]
  refine go_iload_n (show decode cX10_depot 5 = .ok (.iload_n 1, 1) by decide +kernel) (by rfl) ?_
  obtain ⟨q3, h⟩ := h
  refine go_callS (d2 := d - 1) (M2 := MX10_isGood) (n := 1) (av := [vI a1]) (st := []) (show decode cX10_depot 6 = .ok (.invokestatic 167, 3) by decide +kernel) ml_X10_167 mt_X10_isGood mst_X10_isGood rfl (Nat.le_of_ble_eq_true rfl) (by omega) (ok_mono h (fun w4 S5 F6 G7 h => ?_))
  obtain ⟨z8, e9, h⟩ := h
  subst e9
  show Go d MX10_depot 9 [some (vR a0), some (vI a1), some (vI a2), none, none, none, none] [vI z8] S5 F6 G7 Q
  obtain ⟨ht, hf⟩ := h
  refine go_ifeq (tgt := 24) (show decode cX10_depot 9 = .ok (.ifCond .eq 15, 3) by decide +kernel) (by decide) (fun hc => ?_) (fun hc => ?_)
  · have h := ht hc
    refine go_ldc2 (show decode cX10_depot 24 = .ok (.ldc2_w 174, 3) by decide +kernel) lc_X10_174 (by decide) ?_
    exact go_lret (show decode cX10_depot 27 = .ok (.lreturn, 1) by decide +kernel) rfl h
  · have h := hf hc
    refine go_iload_n (show decode cX10_depot 12 = .ok (.iload_n 2, 1) by decide +kernel) (by rfl) ?_
    refine go_i2l (show decode cX10_depot 13 = .ok (.i2l, 1) by decide +kernel) ?_
    refine go_lconst (n := 0) (show decode cX10_depot 14 = .ok (.lconst 0, 1) by decide +kernel) ?_
    show Go d MX10_depot 15 [some (vR a0), some (vI a1), some (vI a2), none, none, none, none] [vJ 0, vJ a2] S5 F6 G7 Q
    refine go_ldc2 (show decode cX10_depot 15 = .ok (.ldc2_w 157, 3) by decide +kernel) lc_X10_157 (by decide) ?_
    refine go_callS (d2 := d - 1) (M2 := MX10_isIn) (n := 3) (av := [vJ a2, vJ 0, vJ 2]) (st := []) (show decode cX10_depot 18 = .ok (.invokestatic 116, 3) by decide +kernel) ml_X10_116 mt_X10_isIn mst_X10_isIn rfl (Nat.le_of_ble_eq_true rfl) (by omega) (ok_mono h (fun w9 S10 F11 G12 h => ?_))
    obtain ⟨z13, e9, h⟩ := h
    subst e9
    show Go d MX10_depot 21 [some (vR a0), some (vI a1), some (vI a2), none, none, none, none] [vI z13] S10 F11 G12 Q
    obtain ⟨ht, hf⟩ := h
    refine go_ifne (tgt := 28) (show decode cX10_depot 21 = .ok (.ifCond .ne 7, 3) by decide +kernel) (by decide) (fun hc => ?_) (fun hc => ?_)
    · have h := ht hc
      refine go_aload_n (show decode cX10_depot 28 = .ok (.aload_n 0, 1) by decide +kernel) (by rfl) ?_
      obtain ⟨q14, h⟩ := h
      refine go_getR (show decode cX10_depot 29 = .ok (.getfield 43, 3) by decide +kernel) fl_X10_43 rfl q14 ?_
      refine go_iload_n (show decode cX10_depot 32 = .ok (.iload_n 1, 1) by decide +kernel) (by rfl) ?_
      obtain ⟨q15, h⟩ := h
      obtain ⟨q16, h⟩ := h
      obtain ⟨q17, h⟩ := h
      refine go_laload (show decode cX10_depot 33 = .ok (.laload, 1) by decide +kernel) q15 q16 q17 ?_
      refine go_lconst (n := 0) (show decode cX10_depot 34 = .ok (.lconst 0, 1) by decide +kernel) ?_
      show Go d MX10_depot 35 [some (vR a0), some (vI a1), some (vI a2), none, none, none, none] [vJ 0, vJ (G12 (sR S10 a0 9) a1)] S10 F11 G12 Q
      obtain ⟨ht, hf⟩ := h
      refine go_jne (tgt := 43) (show decode cX10_depot 35 = .ok (.lcmp, 1) by decide +kernel) (show decode cX10_depot 36 = .ok (.ifCond .ne 7, 3) by decide +kernel) (by decide) (fun hc => ?_) (fun hc => ?_)
      · have h := ht hc
        refine go_aload_n (show decode cX10_depot 43 = .ok (.aload_n 0, 1) by decide +kernel) (by rfl) ?_
        refine go_iload_n (show decode cX10_depot 44 = .ok (.iload_n 1, 1) by decide +kernel) (by rfl) ?_
        refine go_iconst (show decode cX10_depot 45 = .ok (.iconst 0, 1) by decide +kernel) (by decide) ?_
        refine go_callV (d2 := d - 1) (M2 := MX10_middle) (n := 2) (ci := 10) (av := [vI a1, vI 0]) (st := []) (show decode cX10_depot 46 = .ok (.invokevirtual 447, 3) by decide +kernel) ml_X10_447 mt_X10_middle min_X10_middle mse_X10_middle (by decide) q14 rfl (Nat.le_of_ble_eq_true rfl) (by omega) (ok_mono h (fun w18 S19 F20 G21 h => ?_))
        obtain ⟨z22, e9, h⟩ := h
        subst e9
        show Go d MX10_depot 49 [some (vR a0), some (vI a1), some (vI a2), none, none, none, none] [vI z22] S19 F20 G21 Q
        refine go_istore_n (show decode cX10_depot 49 = .ok (.istore_n 3, 1) by decide +kernel) (by decide) ?_
        show Go d MX10_depot 50 [some (vR a0), some (vI a1), some (vI a2), some (vI z22), none, none, none] [] S19 F20 G21 Q
        refine go_aload_n (show decode cX10_depot 50 = .ok (.aload_n 0, 1) by decide +kernel) (by rfl) ?_
        refine go_iload_n (show decode cX10_depot 51 = .ok (.iload_n 1, 1) by decide +kernel) (by rfl) ?_
        refine go_iconst (show decode cX10_depot 52 = .ok (.iconst 1, 1) by decide +kernel) (by decide) ?_
        obtain ⟨q27, h⟩ := h
        refine go_callV (d2 := d - 1) (M2 := MX10_middle) (n := 2) (ci := 10) (av := [vI a1, vI 1]) (st := []) (show decode cX10_depot 53 = .ok (.invokevirtual 447, 3) by decide +kernel) ml_X10_447 mt_X10_middle min_X10_middle mse_X10_middle (by decide) q27 rfl (Nat.le_of_ble_eq_true rfl) (by omega) (ok_mono h (fun w23 S24 F25 G26 h => ?_))
        obtain ⟨z28, e9, h⟩ := h
        subst e9
        show Go d MX10_depot 56 [some (vR a0), some (vI a1), some (vI a2), some (vI z22), none, none, none] [vI z28] S24 F25 G26 Q
        refine go_istore (show decode cX10_depot 56 = .ok (.istore 4, 2) by decide +kernel) (by decide) ?_
        show Go d MX10_depot 58 [some (vR a0), some (vI a1), some (vI a2), some (vI z22), some (vI z28), none, none] [] S24 F25 G26 Q
        refine go_iload_n (show decode cX10_depot 58 = .ok (.iload_n 2, 1) by decide +kernel) (by rfl) ?_
        refine go_iconst (show decode cX10_depot 59 = .ok (.iconst 2, 1) by decide +kernel) (by decide) ?_
        obtain ⟨ht, hf⟩ := h
        refine go_icmpge (tgt := 76) (show decode cX10_depot 60 = .ok (.if_icmp .ge 16, 3) by decide +kernel) (by decide) (fun hc => ?_) (fun hc => ?_)
        · have h := ht hc
          refine go_aload_n (show decode cX10_depot 76 = .ok (.aload_n 0, 1) by decide +kernel) (by rfl) ?_
          refine go_iload_n (show decode cX10_depot 77 = .ok (.iload_n 1, 1) by decide +kernel) (by rfl) ?_
          refine go_iconst (show decode cX10_depot 78 = .ok (.iconst 0, 1) by decide +kernel) (by decide) ?_
          refine go_iload_n (show decode cX10_depot 79 = .ok (.iload_n 3, 1) by decide +kernel) (by rfl) ?_
          obtain ⟨q33, h⟩ := h
          refine go_callV (d2 := d - 1) (M2 := MX10_haul) (n := 3) (ci := 10) (av := [vI a1, vI 0, vI z22]) (st := []) (show decode cX10_depot 80 = .ok (.invokevirtual 450, 3) by decide +kernel) ml_X10_450 mt_X10_haul min_X10_haul mse_X10_haul (by decide) q33 rfl (Nat.le_of_ble_eq_true rfl) (by omega) (ok_mono h (fun w29 S30 F31 G32 h => ?_))
          obtain ⟨z34, e9, h⟩ := h
          subst e9
          show Go d MX10_depot 83 [some (vR a0), some (vI a1), some (vI a2), some (vI z22), some (vI z28), none, none] [vJ z34] S30 F31 G32 Q
          refine go_aload_n (show decode cX10_depot 83 = .ok (.aload_n 0, 1) by decide +kernel) (by rfl) ?_
          refine go_iload_n (show decode cX10_depot 84 = .ok (.iload_n 1, 1) by decide +kernel) (by rfl) ?_
          refine go_iconst (show decode cX10_depot 85 = .ok (.iconst 1, 1) by decide +kernel) (by decide) ?_
          refine go_iload (show decode cX10_depot 86 = .ok (.iload 4, 2) by decide +kernel) (by rfl) ?_
          obtain ⟨q39, h⟩ := h
          refine go_callV (d2 := d - 1) (M2 := MX10_haul) (n := 3) (ci := 10) (av := [vI a1, vI 1, vI z28]) (st := [vJ z34]) (show decode cX10_depot 88 = .ok (.invokevirtual 450, 3) by decide +kernel) ml_X10_450 mt_X10_haul min_X10_haul mse_X10_haul (by decide) q39 rfl (Nat.le_of_ble_eq_true rfl) (by omega) (ok_mono h (fun w35 S36 F37 G38 h => ?_))
          obtain ⟨z40, e9, h⟩ := h
          subst e9
          show Go d MX10_depot 91 [some (vR a0), some (vI a1), some (vI a2), some (vI z22), some (vI z28), none, none] [vJ z40, vJ z34] S36 F37 G38 Q
          obtain ⟨q41, h⟩ := h
          refine go_ladd (show decode cX10_depot 91 = .ok (.ladd, 1) by decide +kernel) q41 ?_
          obtain ⟨x42, x42e⟩ : ∃ x42 : Int, x42 = z34 + z40 := ⟨_, rfl⟩
          have h := h x42 x42e
          rw [← x42e]
          refine go_lstore (show decode cX10_depot 92 = .ok (.lstore 5, 2) by decide +kernel) (by decide) ?_
          show Go d MX10_depot 94 [some (vR a0), some (vI a1), some (vI a2), some (vI z22), some (vI z28), some (vJ x42), none] [] S36 F37 G38 Q
          refine go_lload (show decode cX10_depot 94 = .ok (.lload 5, 2) by decide +kernel) (by rfl) ?_
          refine go_ldc2 (show decode cX10_depot 96 = .ok (.ldc2_w 198, 3) by decide +kernel) lc_X10_198 (by decide) ?_
          obtain ⟨ht, hf⟩ := h
          refine go_jle (tgt := 109) (show decode cX10_depot 99 = .ok (.lcmp, 1) by decide +kernel) (show decode cX10_depot 100 = .ok (.ifCond .le 9, 3) by decide +kernel) (by decide) (fun hc => ?_) (fun hc => ?_)
          · have h := ht hc
            refine go_lload (show decode cX10_depot 109 = .ok (.lload 5, 2) by decide +kernel) (by rfl) ?_
            exact go_lret (show decode cX10_depot 111 = .ok (.lreturn, 1) by decide +kernel) rfl h
          · have h := hf hc
            refine go_ldc2 (show decode cX10_depot 103 = .ok (.ldc2_w 200, 3) by decide +kernel) lc_X10_200 (by decide) ?_
            refine go_goto (tgt := 111) (show decode cX10_depot 106 = .ok (.goto 5, 3) by decide +kernel) (by decide) ?_
            exact go_lret (show decode cX10_depot 111 = .ok (.lreturn, 1) by decide +kernel) rfl h
        · have h := hf hc
          refine go_iload_n (show decode cX10_depot 63 = .ok (.iload_n 2, 1) by decide +kernel) (by rfl) ?_
          obtain ⟨ht, hf⟩ := h
          refine go_ifne (tgt := 72) (show decode cX10_depot 64 = .ok (.ifCond .ne 8, 3) by decide +kernel) (by decide) (fun hc => ?_) (fun hc => ?_)
          · have h := ht hc
            refine go_iload (show decode cX10_depot 72 = .ok (.iload 4, 2) by decide +kernel) (by rfl) ?_
            refine go_i2l (show decode cX10_depot 74 = .ok (.i2l, 1) by decide +kernel) ?_
            exact go_lret (show decode cX10_depot 75 = .ok (.lreturn, 1) by decide +kernel) rfl h
          · have h := hf hc
            refine go_iload_n (show decode cX10_depot 67 = .ok (.iload_n 3, 1) by decide +kernel) (by rfl) ?_
            refine go_i2l (show decode cX10_depot 68 = .ok (.i2l, 1) by decide +kernel) ?_
            refine go_goto (tgt := 75) (show decode cX10_depot 69 = .ok (.goto 6, 3) by decide +kernel) (by decide) ?_
            exact go_lret (show decode cX10_depot 75 = .ok (.lreturn, 1) by decide +kernel) rfl h
      · have h := hf hc
        refine go_ldc2 (show decode cX10_depot 39 = .ok (.ldc2_w 311, 3) by decide +kernel) lc_X10_311 (by decide) ?_
        exact go_lret (show decode cX10_depot 42 = .ok (.lreturn, 1) by decide +kernel) rfl h
    · have h := hf hc
      refine go_ldc2 (show decode cX10_depot 24 = .ok (.ldc2_w 174, 3) by decide +kernel) lc_X10_174 (by decide) ?_
      exact go_lret (show decode cX10_depot 27 = .ok (.lreturn, 1) by decide +kernel) rfl h
def V_X10_middle_16 (d : Nat) (S : AS) (F : AF) (G : AG) (Q : AQ) (a0 : Nat) (a1 : Int) (a2 : Int) (a3 : Int) (a5 : Int) : Prop :=
  (1 ≤ d) ∧
  (sK S a0 = 10) ∧
  Ok (d - 1) MX10_lineOf [vR a0, vI a1, vI a2, vI a5] S F G (fun w2 S3 F4 G5 =>
  ∃ z7 : Int, w2 = some (vJ z7) ∧
  (r32 (a5 + 1)) ∧
  (sK S3 a0 = 10) ∧
  Ok (d - 1) MX10_edgeAt [vR a0, vI a2, vI (a5 + 1)] S3 F4 G5 (fun w9 S10 F11 G12 =>
  ∃ z14 : Int, w9 = some (vI z14) ∧
  (sK S10 a0 = 10) ∧
  Ok (d - 1) MX10_edgeAt [vR a0, vI a2, vI a5] S10 F11 G12 (fun w15 S16 F17 G18 =>
  ∃ z20 : Int, w15 = some (vI z20) ∧
  (r32 (z14 - z20)) ∧
  (r64 (z7 * (z14 - z20))) ∧
  ∀ x23 : Int, x23 = z7 * (z14 - z20) →
  ((x23 < a3) →
    (r64 (a3 - x23)) ∧
    ∀ x25 : Int, x25 = a3 - x23 →
    (r32 (a5 + 1)) ∧
    Go d MX10_middle 16 [some (vR a0), some (vI a1), some (vI a2), some (vJ x25), none, some (vI (a5 + 1)), none, none, none, none] [] S16 F17 G18 Q) ∧
  ((¬ x23 < a3) →
    (sK S16 a0 = 10) ∧
    Ok (d - 1) MX10_edgeAt [vR a0, vI a2, vI a5] S16 F17 G18 (fun w27 S28 F29 G30 =>
    ∃ z32 : Int, w27 = some (vI z32) ∧
    (r64 (a3 - 1)) ∧
    (¬ z7 = 0) ∧
    (r64 (Int.tdiv (a3 - 1) z7)) ∧
    (r32 (Int.tdiv (a3 - 1) z7)) ∧
    (r32 (z32 + (Int.tdiv (a3 - 1) z7))) ∧
    Q (some (vI (z32 + (Int.tdiv (a3 - 1) z7)))) S28 F29 G30)))))
theorem R_X10_middle_16 {d : Nat} {S : AS} {F : AF} {G : AG} {Q : AQ} {a0 : Nat} {a1 : Int} {a2 : Int} {a3 : Int} {a5 : Int} (h : V_X10_middle_16 d S F G Q a0 a1 a2 a3 a5) : Go d MX10_middle 16 [some (vR a0), some (vI a1), some (vI a2), some (vJ a3), none, some (vI a5), none, none, none, none] [] S F G Q := by
  unfold V_X10_middle_16 at h
  refine go_aload_n (show decode cX10_middle 16 = .ok (.aload_n 0, 1) by decide +kernel) (by rfl) ?_
  refine go_iload_n (show decode cX10_middle 17 = .ok (.iload_n 1, 1) by decide +kernel) (by rfl) ?_
  refine go_iload_n (show decode cX10_middle 18 = .ok (.iload_n 2, 1) by decide +kernel) (by rfl) ?_
  refine go_iload (show decode cX10_middle 19 = .ok (.iload 5, 2) by decide +kernel) (by rfl) ?_
  obtain ⟨q1, h⟩ := h
  obtain ⟨q6, h⟩ := h
  refine go_callV (d2 := d - 1) (M2 := MX10_lineOf) (n := 3) (ci := 10) (av := [vI a1, vI a2, vI a5]) (st := []) (show decode cX10_middle 21 = .ok (.invokevirtual 441, 3) by decide +kernel) ml_X10_441 mt_X10_lineOf min_X10_lineOf mse_X10_lineOf (by decide) q6 rfl (Nat.le_of_ble_eq_true rfl) (by omega) (ok_mono h (fun w2 S3 F4 G5 h => ?_))
  obtain ⟨z7, e9, h⟩ := h
  subst e9
  show Go d MX10_middle 24 [some (vR a0), some (vI a1), some (vI a2), some (vJ a3), none, some (vI a5), none, none, none, none] [vJ z7] S3 F4 G5 Q
  refine go_lstore (show decode cX10_middle 24 = .ok (.lstore 6, 2) by decide +kernel) (by decide) ?_
  show Go d MX10_middle 26 [some (vR a0), some (vI a1), some (vI a2), some (vJ a3), none, some (vI a5), some (vJ z7), none, none, none] [] S3 F4 G5 Q
  refine go_lload (show decode cX10_middle 26 = .ok (.lload 6, 2) by decide +kernel) (by rfl) ?_
  refine go_aload_n (show decode cX10_middle 28 = .ok (.aload_n 0, 1) by decide +kernel) (by rfl) ?_
  refine go_iload_n (show decode cX10_middle 29 = .ok (.iload_n 2, 1) by decide +kernel) (by rfl) ?_
  refine go_iload (show decode cX10_middle 30 = .ok (.iload 5, 2) by decide +kernel) (by rfl) ?_
  refine go_iconst (show decode cX10_middle 32 = .ok (.iconst 1, 1) by decide +kernel) (by decide) ?_
  obtain ⟨q8, h⟩ := h
  refine go_iadd (show decode cX10_middle 33 = .ok (.iadd, 1) by decide +kernel) q8 ?_
  obtain ⟨q13, h⟩ := h
  refine go_callV (d2 := d - 1) (M2 := MX10_edgeAt) (n := 2) (ci := 10) (av := [vI a2, vI (a5 + 1)]) (st := [vJ z7]) (show decode cX10_middle 34 = .ok (.invokevirtual 126, 3) by decide +kernel) ml_X10_126 mt_X10_edgeAt min_X10_edgeAt mse_X10_edgeAt (by decide) q13 rfl (Nat.le_of_ble_eq_true rfl) (by omega) (ok_mono h (fun w9 S10 F11 G12 h => ?_))
  obtain ⟨z14, e9, h⟩ := h
  subst e9
  show Go d MX10_middle 37 [some (vR a0), some (vI a1), some (vI a2), some (vJ a3), none, some (vI a5), some (vJ z7), none, none, none] [vI z14, vJ z7] S10 F11 G12 Q
  refine go_aload_n (show decode cX10_middle 37 = .ok (.aload_n 0, 1) by decide +kernel) (by rfl) ?_
  refine go_iload_n (show decode cX10_middle 38 = .ok (.iload_n 2, 1) by decide +kernel) (by rfl) ?_
  refine go_iload (show decode cX10_middle 39 = .ok (.iload 5, 2) by decide +kernel) (by rfl) ?_
  obtain ⟨q19, h⟩ := h
  refine go_callV (d2 := d - 1) (M2 := MX10_edgeAt) (n := 2) (ci := 10) (av := [vI a2, vI a5]) (st := [vI z14, vJ z7]) (show decode cX10_middle 41 = .ok (.invokevirtual 126, 3) by decide +kernel) ml_X10_126 mt_X10_edgeAt min_X10_edgeAt mse_X10_edgeAt (by decide) q19 rfl (Nat.le_of_ble_eq_true rfl) (by omega) (ok_mono h (fun w15 S16 F17 G18 h => ?_))
  obtain ⟨z20, e9, h⟩ := h
  subst e9
  show Go d MX10_middle 44 [some (vR a0), some (vI a1), some (vI a2), some (vJ a3), none, some (vI a5), some (vJ z7), none, none, none] [vI z20, vI z14, vJ z7] S16 F17 G18 Q
  obtain ⟨q21, h⟩ := h
  refine go_isub (show decode cX10_middle 44 = .ok (.isub, 1) by decide +kernel) q21 ?_
  refine go_i2l (show decode cX10_middle 45 = .ok (.i2l, 1) by decide +kernel) ?_
  obtain ⟨q22, h⟩ := h
  refine go_lmul (show decode cX10_middle 46 = .ok (.lmul, 1) by decide +kernel) q22 ?_
  obtain ⟨x23, x23e⟩ : ∃ x23 : Int, x23 = z7 * (z14 - z20) := ⟨_, rfl⟩
  have h := h x23 x23e
  rw [← x23e]
  refine go_lstore (show decode cX10_middle 47 = .ok (.lstore 8, 2) by decide +kernel) (by decide) ?_
  show Go d MX10_middle 49 [some (vR a0), some (vI a1), some (vI a2), some (vJ a3), none, some (vI a5), some (vJ z7), none, some (vJ x23), none] [] S16 F17 G18 Q
  refine go_lload (show decode cX10_middle 49 = .ok (.lload 8, 2) by decide +kernel) (by rfl) ?_
  refine go_lload_n (show decode cX10_middle 51 = .ok (.lload_n 3, 1) by decide +kernel) (by rfl) ?_
  obtain ⟨ht, hf⟩ := h
  refine go_jlt (tgt := 72) (show decode cX10_middle 52 = .ok (.lcmp, 1) by decide +kernel) (show decode cX10_middle 53 = .ok (.ifCond .lt 19, 3) by decide +kernel) (by decide) (fun hc => ?_) (fun hc => ?_)
  · have h := ht hc
    refine go_lload_n (show decode cX10_middle 72 = .ok (.lload_n 3, 1) by decide +kernel) (by rfl) ?_
    refine go_lload (show decode cX10_middle 73 = .ok (.lload 8, 2) by decide +kernel) (by rfl) ?_
    obtain ⟨q24, h⟩ := h
    refine go_lsub (show decode cX10_middle 75 = .ok (.lsub, 1) by decide +kernel) q24 ?_
    obtain ⟨x25, x25e⟩ : ∃ x25 : Int, x25 = a3 - x23 := ⟨_, rfl⟩
    have h := h x25 x25e
    rw [← x25e]
    refine go_lstore_n (show decode cX10_middle 76 = .ok (.lstore_n 3, 1) by decide +kernel) (by decide) ?_
    show Go d MX10_middle 77 [some (vR a0), some (vI a1), some (vI a2), some (vJ x25), none, some (vI a5), some (vJ z7), none, some (vJ x23), none] [] S16 F17 G18 Q
    obtain ⟨q26, h⟩ := h
    refine go_iinc (show decode cX10_middle 77 = .ok (.iinc 5 1, 3) by decide +kernel) (by rfl) q26 (by decide) ?_
    show Go d MX10_middle 80 [some (vR a0), some (vI a1), some (vI a2), some (vJ x25), none, some (vI (a5 + 1)), some (vJ z7), none, some (vJ x23), none] [] S16 F17 G18 Q
    refine go_goto (tgt := 16) (show decode cX10_middle 80 = .ok (.goto (-64), 3) by decide +kernel) (by decide) ?_
    refine go_clr 6 ?_
    refine go_clr 8 ?_
    exact h
  · have h := hf hc
    refine go_aload_n (show decode cX10_middle 56 = .ok (.aload_n 0, 1) by decide +kernel) (by rfl) ?_
    refine go_iload_n (show decode cX10_middle 57 = .ok (.iload_n 2, 1) by decide +kernel) (by rfl) ?_
    refine go_iload (show decode cX10_middle 58 = .ok (.iload 5, 2) by decide +kernel) (by rfl) ?_
    obtain ⟨q31, h⟩ := h
    refine go_callV (d2 := d - 1) (M2 := MX10_edgeAt) (n := 2) (ci := 10) (av := [vI a2, vI a5]) (st := []) (show decode cX10_middle 60 = .ok (.invokevirtual 126, 3) by decide +kernel) ml_X10_126 mt_X10_edgeAt min_X10_edgeAt mse_X10_edgeAt (by decide) q31 rfl (Nat.le_of_ble_eq_true rfl) (by omega) (ok_mono h (fun w27 S28 F29 G30 h => ?_))
    obtain ⟨z32, e9, h⟩ := h
    subst e9
    show Go d MX10_middle 63 [some (vR a0), some (vI a1), some (vI a2), some (vJ a3), none, some (vI a5), some (vJ z7), none, some (vJ x23), none] [vI z32] S28 F29 G30 Q
    refine go_lload_n (show decode cX10_middle 63 = .ok (.lload_n 3, 1) by decide +kernel) (by rfl) ?_
    refine go_lconst (n := 1) (show decode cX10_middle 64 = .ok (.lconst 1, 1) by decide +kernel) ?_
    show Go d MX10_middle 65 [some (vR a0), some (vI a1), some (vI a2), some (vJ a3), none, some (vI a5), some (vJ z7), none, some (vJ x23), none] [vJ 1, vJ a3, vI z32] S28 F29 G30 Q
    obtain ⟨q33, h⟩ := h
    refine go_lsub (show decode cX10_middle 65 = .ok (.lsub, 1) by decide +kernel) q33 ?_
    refine go_lload (show decode cX10_middle 66 = .ok (.lload 6, 2) by decide +kernel) (by rfl) ?_
    obtain ⟨q34, h⟩ := h
    obtain ⟨q35, h⟩ := h
    refine go_ldiv (show decode cX10_middle 68 = .ok (.ldiv, 1) by decide +kernel) q34 q35 ?_
    obtain ⟨q36, h⟩ := h
    refine go_l2i (show decode cX10_middle 69 = .ok (.l2i, 1) by decide +kernel) q36 ?_
    obtain ⟨q37, h⟩ := h
    refine go_iadd (show decode cX10_middle 70 = .ok (.iadd, 1) by decide +kernel) q37 ?_
    exact go_iret (show decode cX10_middle 71 = .ok (.ireturn, 1) by decide +kernel) rfl h
def V_X10_middle_0 (d : Nat) (S : AS) (F : AF) (G : AG) (Q : AQ) (a0 : Nat) (a1 : Int) (a2 : Int) : Prop :=
  (sK S a0 = 10) ∧
  (sK S (sR S a0 9) = 21) ∧
  ((0 : Int) ≤ a1) ∧
  ((a1 : Int) < (sN S (sR S a0 9) : Int)) ∧
  (r64 ((G (sR S a0 9) a1) + 1)) ∧
  (r64 (Int.tdiv ((G (sR S a0 9) a1) + 1) 2)) ∧
  ∀ x7 : Int, x7 = Int.tdiv ((G (sR S a0 9) a1) + 1) 2 →
  Go d MX10_middle 16 [some (vR a0), some (vI a1), some (vI a2), some (vJ x7), none, some (vI 0), none, none, none, none] [] S F G Q
theorem R_X10_middle_0 {d : Nat} {S : AS} {F : AF} {G : AG} {Q : AQ} {a0 : Nat} {a1 : Int} {a2 : Int} (h : V_X10_middle_0 d S F G Q a0 a1 a2) : Go d MX10_middle 0 [some (vR a0), some (vI a1), some (vI a2), none, none, none, none, none, none, none] [] S F G Q := by
  unfold V_X10_middle_0 at h
  refine go_aload_n (show decode cX10_middle 0 = .ok (.aload_n 0, 1) by decide +kernel) (by rfl) ?_
  obtain ⟨q1, h⟩ := h
  refine go_getR (show decode cX10_middle 1 = .ok (.getfield 43, 3) by decide +kernel) fl_X10_43 rfl q1 ?_
  refine go_iload_n (show decode cX10_middle 4 = .ok (.iload_n 1, 1) by decide +kernel) (by rfl) ?_
  obtain ⟨q2, h⟩ := h
  obtain ⟨q3, h⟩ := h
  obtain ⟨q4, h⟩ := h
  refine go_laload (show decode cX10_middle 5 = .ok (.laload, 1) by decide +kernel) q2 q3 q4 ?_
  refine go_lconst (n := 1) (show decode cX10_middle 6 = .ok (.lconst 1, 1) by decide +kernel) ?_
  show Go d MX10_middle 7 [some (vR a0), some (vI a1), some (vI a2), none, none, none, none, none, none, none] [vJ 1, vJ (G (sR S a0 9) a1)] S F G Q
  obtain ⟨q5, h⟩ := h
  refine go_ladd (show decode cX10_middle 7 = .ok (.ladd, 1) by decide +kernel) q5 ?_
  refine go_ldc2 (show decode cX10_middle 8 = .ok (.ldc2_w 157, 3) by decide +kernel) lc_X10_157 (by decide) ?_
  obtain ⟨q6, h⟩ := h
  refine go_ldiv (show decode cX10_middle 11 = .ok (.ldiv, 1) by decide +kernel) (by decide) q6 ?_
  obtain ⟨x7, x7e⟩ : ∃ x7 : Int, x7 = Int.tdiv ((G (sR S a0 9) a1) + 1) 2 := ⟨_, rfl⟩
  have h := h x7 x7e
  rw [← x7e]
  refine go_lstore_n (show decode cX10_middle 12 = .ok (.lstore_n 3, 1) by decide +kernel) (by decide) ?_
  show Go d MX10_middle 13 [some (vR a0), some (vI a1), some (vI a2), some (vJ x7), none, none, none, none, none, none] [] S F G Q
  refine go_iconst (show decode cX10_middle 13 = .ok (.iconst 0, 1) by decide +kernel) (by decide) ?_
  refine go_istore (show decode cX10_middle 14 = .ok (.istore 5, 2) by decide +kernel) (by decide) ?_
  show Go d MX10_middle 16 [some (vR a0), some (vI a1), some (vI a2), some (vJ x7), none, some (vI 0), none, none, none, none] [] S F G Q
  exact h
def V_X10_lineOf_0 (d : Nat) (S : AS) (F : AF) (G : AG) (Q : AQ) (a0 : Nat) (a1 : Int) (a2 : Int) (a3 : Int) : Prop :=
  ((¬ a2 = 0) →
    (sK S a0 = 10) ∧
    (r32 ((F a0 1) - 1)) ∧
    (1 ≤ d) ∧
    Ok (d - 1) MX10_acrossSum [vR a0, vI a1, vI a3, vI 0, vI ((F a0 1) - 1)] S F G (fun w4 S5 F6 G7 =>
    ∃ z8 : Int, w4 = some (vJ z8) ∧
    Q (some (vJ z8)) S5 F6 G7)) ∧
  ((a2 = 0) →
    (sK S a0 = 10) ∧
    (r32 ((F a0 2) - 1)) ∧
    (1 ≤ d) ∧
    Ok (d - 1) MX10_downSum [vR a0, vI a1, vI a3, vI 0, vI ((F a0 2) - 1)] S F G (fun w12 S13 F14 G15 =>
    ∃ z16 : Int, w12 = some (vJ z16) ∧
    Q (some (vJ z16)) S13 F14 G15))
theorem R_X10_lineOf_0 {d : Nat} {S : AS} {F : AF} {G : AG} {Q : AQ} {a0 : Nat} {a1 : Int} {a2 : Int} {a3 : Int} (h : V_X10_lineOf_0 d S F G Q a0 a1 a2 a3) : Go d MX10_lineOf 0 [some (vR a0), some (vI a1), some (vI a2), some (vI a3)] [] S F G Q := by
  unfold V_X10_lineOf_0 at h
  refine go_iload_n (show decode cX10_lineOf 0 = .ok (.iload_n 2, 1) by decide +kernel) (by rfl) ?_
  obtain ⟨ht, hf⟩ := h
  refine go_ifne (tgt := 20) (show decode cX10_lineOf 1 = .ok (.ifCond .ne 19, 3) by decide +kernel) (by decide) (fun hc => ?_) (fun hc => ?_)
  · have h := ht hc
    refine go_aload_n (show decode cX10_lineOf 20 = .ok (.aload_n 0, 1) by decide +kernel) (by rfl) ?_
    refine go_iload_n (show decode cX10_lineOf 21 = .ok (.iload_n 1, 1) by decide +kernel) (by rfl) ?_
    refine go_iload_n (show decode cX10_lineOf 22 = .ok (.iload_n 3, 1) by decide +kernel) (by rfl) ?_
    refine go_iconst (show decode cX10_lineOf 23 = .ok (.iconst 0, 1) by decide +kernel) (by decide) ?_
    refine go_aload_n (show decode cX10_lineOf 24 = .ok (.aload_n 0, 1) by decide +kernel) (by rfl) ?_
    obtain ⟨q1, h⟩ := h
    refine go_getI (show decode cX10_lineOf 25 = .ok (.getfield 13, 3) by decide +kernel) fl_X10_13 (Or.inl rfl) q1 ?_
    refine go_iconst (show decode cX10_lineOf 28 = .ok (.iconst 1, 1) by decide +kernel) (by decide) ?_
    obtain ⟨q2, h⟩ := h
    refine go_isub (show decode cX10_lineOf 29 = .ok (.isub, 1) by decide +kernel) q2 ?_
    obtain ⟨q3, h⟩ := h
    refine go_callV (d2 := d - 1) (M2 := MX10_acrossSum) (n := 4) (ci := 10) (av := [vI a1, vI a3, vI 0, vI ((F a0 1) - 1)]) (st := []) (show decode cX10_lineOf 30 = .ok (.invokevirtual 217, 3) by decide +kernel) ml_X10_217 mt_X10_acrossSum min_X10_acrossSum mse_X10_acrossSum (by decide) q1 rfl (Nat.le_of_ble_eq_true rfl) (by omega) (ok_mono h (fun w4 S5 F6 G7 h => ?_))
    obtain ⟨z8, e9, h⟩ := h
    subst e9
    show Go d MX10_lineOf 33 [some (vR a0), some (vI a1), some (vI a2), some (vI a3)] [vJ z8] S5 F6 G7 Q
    exact go_lret (show decode cX10_lineOf 33 = .ok (.lreturn, 1) by decide +kernel) rfl h
  · have h := hf hc
    refine go_aload_n (show decode cX10_lineOf 4 = .ok (.aload_n 0, 1) by decide +kernel) (by rfl) ?_
    refine go_iload_n (show decode cX10_lineOf 5 = .ok (.iload_n 1, 1) by decide +kernel) (by rfl) ?_
    refine go_iload_n (show decode cX10_lineOf 6 = .ok (.iload_n 3, 1) by decide +kernel) (by rfl) ?_
    refine go_iconst (show decode cX10_lineOf 7 = .ok (.iconst 0, 1) by decide +kernel) (by decide) ?_
    refine go_aload_n (show decode cX10_lineOf 8 = .ok (.aload_n 0, 1) by decide +kernel) (by rfl) ?_
    obtain ⟨q9, h⟩ := h
    refine go_getI (show decode cX10_lineOf 9 = .ok (.getfield 16, 3) by decide +kernel) fl_X10_16 (Or.inl rfl) q9 ?_
    refine go_iconst (show decode cX10_lineOf 12 = .ok (.iconst 1, 1) by decide +kernel) (by decide) ?_
    obtain ⟨q10, h⟩ := h
    refine go_isub (show decode cX10_lineOf 13 = .ok (.isub, 1) by decide +kernel) q10 ?_
    obtain ⟨q11, h⟩ := h
    refine go_callV (d2 := d - 1) (M2 := MX10_downSum) (n := 4) (ci := 10) (av := [vI a1, vI a3, vI 0, vI ((F a0 2) - 1)]) (st := []) (show decode cX10_lineOf 14 = .ok (.invokevirtual 230, 3) by decide +kernel) ml_X10_230 mt_X10_downSum min_X10_downSum mse_X10_downSum (by decide) q9 rfl (Nat.le_of_ble_eq_true rfl) (by omega) (ok_mono h (fun w12 S13 F14 G15 h => ?_))
    obtain ⟨z16, e9, h⟩ := h
    subst e9
    show Go d MX10_lineOf 17 [some (vR a0), some (vI a1), some (vI a2), some (vI a3)] [vJ z16] S13 F14 G15 Q
    refine go_goto (tgt := 33) (show decode cX10_lineOf 17 = .ok (.goto 16, 3) by decide +kernel) (by decide) ?_
    exact go_lret (show decode cX10_lineOf 33 = .ok (.lreturn, 1) by decide +kernel) rfl h
def V_X10_haul_107 (d : Nat) (S : AS) (F : AF) (G : AG) (Q : AQ) (a0 : Nat) (a1 : Int) (a2 : Int) (a3 : Int) (a4 : Int) (a6 : Int) (a7 : Int) (a9 : Int) : Prop :=
  (r32 (a6 + 1)) ∧
  Go d MX10_haul 6 [some (vR a0), some (vI a1), some (vI a2), some (vI a3), some (vJ a4), none, some (vI (a6 + 1)), none, none, none, none] [] S F G Q
theorem R_X10_haul_107 {d : Nat} {S : AS} {F : AF} {G : AG} {Q : AQ} {a0 : Nat} {a1 : Int} {a2 : Int} {a3 : Int} {a4 : Int} {a6 : Int} {a7 : Int} {a9 : Int} (h : V_X10_haul_107 d S F G Q a0 a1 a2 a3 a4 a6 a7 a9) : Go d MX10_haul 107 [some (vR a0), some (vI a1), some (vI a2), some (vI a3), some (vJ a4), none, some (vI a6), some (vJ a7), none, some (vJ a9), none] [] S F G Q := by
  unfold V_X10_haul_107 at h
  obtain ⟨q1, h⟩ := h
  refine go_iinc (show decode cX10_haul 107 = .ok (.iinc 6 1, 3) by decide +kernel) (by rfl) q1 (by decide) ?_
  show Go d MX10_haul 110 [some (vR a0), some (vI a1), some (vI a2), some (vI a3), some (vJ a4), none, some (vI (a6 + 1)), some (vJ a7), none, some (vJ a9), none] [] S F G Q
  refine go_goto (tgt := 6) (show decode cX10_haul 110 = .ok (.goto (-104), 3) by decide +kernel) (by decide) ?_
  refine go_clr 7 ?_
  refine go_clr 9 ?_
  exact h
def V_X10_haul_6 (d : Nat) (S : AS) (F : AF) (G : AG) (Q : AQ) (a0 : Nat) (a1 : Int) (a2 : Int) (a3 : Int) (a4 : Int) (a6 : Int) : Prop :=
  (sK S a0 = 10) ∧
  (sK S (sR S a0 5) = 20) ∧
  ((0 : Int) ≤ a2) ∧
  ((a2 : Int) < (sN S (sR S a0 5) : Int)) ∧
  ((G (sR S a0 5) a2 ≤ a6) →
    Q (some (vJ a4)) S F G) ∧
  ((¬ G (sR S a0 5) a2 ≤ a6) →
    (1 ≤ d) ∧
    Ok (d - 1) MX10_lineOf [vR a0, vI a1, vI a2, vI a6] S F G (fun w6 S7 F8 G9 =>
    ∃ z10 : Int, w6 = some (vJ z10) ∧
    (sK S7 a0 = 10) ∧
    Ok (d - 1) MX10_edgeAt [vR a0, vI a2, vI a6] S7 F8 G9 (fun w11 S12 F13 G14 =>
    ∃ z16 : Int, w11 = some (vI z16) ∧
    (r32 (a6 + 1)) ∧
    (sK S12 a0 = 10) ∧
    Ok (d - 1) MX10_edgeAt [vR a0, vI a2, vI (a6 + 1)] S12 F13 G14 (fun w18 S19 F20 G21 =>
    ∃ z23 : Int, w18 = some (vI z23) ∧
    (r32 (z23 - 1)) ∧
    Ok (d - 1) MX10_farAll [vI z16, vI (z23 - 1), vI a3] S19 F20 G21 (fun w25 S26 F27 G28 =>
    ∃ z29 : Int, w25 = some (vJ z29) ∧
    ((z10 = 0) →
      V_X10_haul_107 d S26 F27 G28 Q a0 a1 a2 a3 a4 a6 z10 z29) ∧
    ((¬ z10 = 0) →
      ((¬ z29 = 0) →
        (¬ z10 = 0) ∧
        (r64 (Int.tdiv 3000000000000000000 z10)) ∧
        ((z29 ≤ Int.tdiv 3000000000000000000 z10) →
          (r64 (z10 * z29)) ∧
          (r64 (a4 + (z10 * z29))) ∧
          ∀ x34 : Int, x34 = a4 + (z10 * z29) →
          ((x34 ≤ 3000000000000000000) →
            V_X10_haul_107 d S26 F27 G28 Q a0 a1 a2 a3 x34 a6 z10 z29) ∧
          ((¬ x34 ≤ 3000000000000000000) →
            Q (some (vJ 3000000000000000001)) S26 F27 G28)) ∧
        ((¬ z29 ≤ Int.tdiv 3000000000000000000 z10) →
          Q (some (vJ 3000000000000000001)) S26 F27 G28)) ∧
      ((z29 = 0) →
        V_X10_haul_107 d S26 F27 G28 Q a0 a1 a2 a3 a4 a6 z10 z29)))))))
theorem R_X10_haul_6 {d : Nat} {S : AS} {F : AF} {G : AG} {Q : AQ} {a0 : Nat} {a1 : Int} {a2 : Int} {a3 : Int} {a4 : Int} {a6 : Int} (h : V_X10_haul_6 d S F G Q a0 a1 a2 a3 a4 a6) : Go d MX10_haul 6 [some (vR a0), some (vI a1), some (vI a2), some (vI a3), some (vJ a4), none, some (vI a6), none, none, none, none] [] S F G Q := by
  unfold V_X10_haul_6 at h
  refine go_iload (show decode cX10_haul 6 = .ok (.iload 6, 2) by decide +kernel) (by rfl) ?_
  refine go_aload_n (show decode cX10_haul 8 = .ok (.aload_n 0, 1) by decide +kernel) (by rfl) ?_
  obtain ⟨q1, h⟩ := h
  refine go_getR (show decode cX10_haul 9 = .ok (.getfield 29, 3) by decide +kernel) fl_X10_29 rfl q1 ?_
  refine go_iload_n (show decode cX10_haul 12 = .ok (.iload_n 2, 1) by decide +kernel) (by rfl) ?_
  obtain ⟨q2, h⟩ := h
  obtain ⟨q3, h⟩ := h
  obtain ⟨q4, h⟩ := h
  refine go_iaload (show decode cX10_haul 13 = .ok (.iaload, 1) by decide +kernel) q2 q3 q4 ?_
  obtain ⟨ht, hf⟩ := h
  refine go_icmpge (tgt := 113) (show decode cX10_haul 14 = .ok (.if_icmp .ge 99, 3) by decide +kernel) (by decide) (fun hc => ?_) (fun hc => ?_)
  · have h := ht hc
    refine go_lload (show decode cX10_haul 113 = .ok (.lload 4, 2) by decide +kernel) (by rfl) ?_
    exact go_lret (show decode cX10_haul 115 = .ok (.lreturn, 1) by decide +kernel) rfl h
  · have h := hf hc
    refine go_aload_n (show decode cX10_haul 17 = .ok (.aload_n 0, 1) by decide +kernel) (by rfl) ?_
    refine go_iload_n (show decode cX10_haul 18 = .ok (.iload_n 1, 1) by decide +kernel) (by rfl) ?_
    refine go_iload_n (show decode cX10_haul 19 = .ok (.iload_n 2, 1) by decide +kernel) (by rfl) ?_
    refine go_iload (show decode cX10_haul 20 = .ok (.iload 6, 2) by decide +kernel) (by rfl) ?_
    obtain ⟨q5, h⟩ := h
    refine go_callV (d2 := d - 1) (M2 := MX10_lineOf) (n := 3) (ci := 10) (av := [vI a1, vI a2, vI a6]) (st := []) (show decode cX10_haul 22 = .ok (.invokevirtual 441, 3) by decide +kernel) ml_X10_441 mt_X10_lineOf min_X10_lineOf mse_X10_lineOf (by decide) q1 rfl (Nat.le_of_ble_eq_true rfl) (by omega) (ok_mono h (fun w6 S7 F8 G9 h => ?_))
    obtain ⟨z10, e9, h⟩ := h
    subst e9
    show Go d MX10_haul 25 [some (vR a0), some (vI a1), some (vI a2), some (vI a3), some (vJ a4), none, some (vI a6), none, none, none, none] [vJ z10] S7 F8 G9 Q
    refine go_lstore (show decode cX10_haul 25 = .ok (.lstore 7, 2) by decide +kernel) (by decide) ?_
    show Go d MX10_haul 27 [some (vR a0), some (vI a1), some (vI a2), some (vI a3), some (vJ a4), none, some (vI a6), some (vJ z10), none, none, none] [] S7 F8 G9 Q
    refine go_aload_n (show decode cX10_haul 27 = .ok (.aload_n 0, 1) by decide +kernel) (by rfl) ?_
    refine go_iload_n (show decode cX10_haul 28 = .ok (.iload_n 2, 1) by decide +kernel) (by rfl) ?_
    refine go_iload (show decode cX10_haul 29 = .ok (.iload 6, 2) by decide +kernel) (by rfl) ?_
    obtain ⟨q15, h⟩ := h
    refine go_callV (d2 := d - 1) (M2 := MX10_edgeAt) (n := 2) (ci := 10) (av := [vI a2, vI a6]) (st := []) (show decode cX10_haul 31 = .ok (.invokevirtual 126, 3) by decide +kernel) ml_X10_126 mt_X10_edgeAt min_X10_edgeAt mse_X10_edgeAt (by decide) q15 rfl (Nat.le_of_ble_eq_true rfl) (by omega) (ok_mono h (fun w11 S12 F13 G14 h => ?_))
    obtain ⟨z16, e9, h⟩ := h
    subst e9
    show Go d MX10_haul 34 [some (vR a0), some (vI a1), some (vI a2), some (vI a3), some (vJ a4), none, some (vI a6), some (vJ z10), none, none, none] [vI z16] S12 F13 G14 Q
    refine go_aload_n (show decode cX10_haul 34 = .ok (.aload_n 0, 1) by decide +kernel) (by rfl) ?_
    refine go_iload_n (show decode cX10_haul 35 = .ok (.iload_n 2, 1) by decide +kernel) (by rfl) ?_
    refine go_iload (show decode cX10_haul 36 = .ok (.iload 6, 2) by decide +kernel) (by rfl) ?_
    refine go_iconst (show decode cX10_haul 38 = .ok (.iconst 1, 1) by decide +kernel) (by decide) ?_
    obtain ⟨q17, h⟩ := h
    refine go_iadd (show decode cX10_haul 39 = .ok (.iadd, 1) by decide +kernel) q17 ?_
    obtain ⟨q22, h⟩ := h
    refine go_callV (d2 := d - 1) (M2 := MX10_edgeAt) (n := 2) (ci := 10) (av := [vI a2, vI (a6 + 1)]) (st := [vI z16]) (show decode cX10_haul 40 = .ok (.invokevirtual 126, 3) by decide +kernel) ml_X10_126 mt_X10_edgeAt min_X10_edgeAt mse_X10_edgeAt (by decide) q22 rfl (Nat.le_of_ble_eq_true rfl) (by omega) (ok_mono h (fun w18 S19 F20 G21 h => ?_))
    obtain ⟨z23, e9, h⟩ := h
    subst e9
    show Go d MX10_haul 43 [some (vR a0), some (vI a1), some (vI a2), some (vI a3), some (vJ a4), none, some (vI a6), some (vJ z10), none, none, none] [vI z23, vI z16] S19 F20 G21 Q
    refine go_iconst (show decode cX10_haul 43 = .ok (.iconst 1, 1) by decide +kernel) (by decide) ?_
    obtain ⟨q24, h⟩ := h
    refine go_isub (show decode cX10_haul 44 = .ok (.isub, 1) by decide +kernel) q24 ?_
    refine go_iload_n (show decode cX10_haul 45 = .ok (.iload_n 3, 1) by decide +kernel) (by rfl) ?_
    refine go_callS (d2 := d - 1) (M2 := MX10_farAll) (n := 3) (av := [vI z16, vI (z23 - 1), vI a3]) (st := []) (show decode cX10_haul 46 = .ok (.invokestatic 444, 3) by decide +kernel) ml_X10_444 mt_X10_farAll mst_X10_farAll rfl (Nat.le_of_ble_eq_true rfl) (by omega) (ok_mono h (fun w25 S26 F27 G28 h => ?_))
    obtain ⟨z29, e9, h⟩ := h
    subst e9
    show Go d MX10_haul 49 [some (vR a0), some (vI a1), some (vI a2), some (vI a3), some (vJ a4), none, some (vI a6), some (vJ z10), none, none, none] [vJ z29] S26 F27 G28 Q
    refine go_lstore (show decode cX10_haul 49 = .ok (.lstore 9, 2) by decide +kernel) (by decide) ?_
    show Go d MX10_haul 51 [some (vR a0), some (vI a1), some (vI a2), some (vI a3), some (vJ a4), none, some (vI a6), some (vJ z10), none, some (vJ z29), none] [] S26 F27 G28 Q
    refine go_lload (show decode cX10_haul 51 = .ok (.lload 7, 2) by decide +kernel) (by rfl) ?_
    refine go_lconst (n := 0) (show decode cX10_haul 53 = .ok (.lconst 0, 1) by decide +kernel) ?_
    show Go d MX10_haul 54 [some (vR a0), some (vI a1), some (vI a2), some (vI a3), some (vJ a4), none, some (vI a6), some (vJ z10), none, some (vJ z29), none] [vJ 0, vJ z10] S26 F27 G28 Q
    obtain ⟨ht, hf⟩ := h
    refine go_jeq (tgt := 107) (show decode cX10_haul 54 = .ok (.lcmp, 1) by decide +kernel) (show decode cX10_haul 55 = .ok (.ifCond .eq 52, 3) by decide +kernel) (by decide) (fun hc => ?_) (fun hc => ?_)
    · have h := ht hc
      exact R_X10_haul_107 h
    · have h := hf hc
      refine go_lload (show decode cX10_haul 58 = .ok (.lload 9, 2) by decide +kernel) (by rfl) ?_
      refine go_lconst (n := 0) (show decode cX10_haul 60 = .ok (.lconst 0, 1) by decide +kernel) ?_
      show Go d MX10_haul 61 [some (vR a0), some (vI a1), some (vI a2), some (vI a3), some (vJ a4), none, some (vI a6), some (vJ z10), none, some (vJ z29), none] [vJ 0, vJ z29] S26 F27 G28 Q
      obtain ⟨ht, hf⟩ := h
      refine go_jne (tgt := 68) (show decode cX10_haul 61 = .ok (.lcmp, 1) by decide +kernel) (show decode cX10_haul 62 = .ok (.ifCond .ne 6, 3) by decide +kernel) (by decide) (fun hc => ?_) (fun hc => ?_)
      · have h := ht hc
        refine go_lload (show decode cX10_haul 68 = .ok (.lload 9, 2) by decide +kernel) (by rfl) ?_
        refine go_ldc2 (show decode cX10_haul 70 = .ok (.ldc2_w 198, 3) by decide +kernel) lc_X10_198 (by decide) ?_
        refine go_lload (show decode cX10_haul 73 = .ok (.lload 7, 2) by decide +kernel) (by rfl) ?_
        obtain ⟨q30, h⟩ := h
        obtain ⟨q31, h⟩ := h
        refine go_ldiv (show decode cX10_haul 75 = .ok (.ldiv, 1) by decide +kernel) q30 q31 ?_
        obtain ⟨ht, hf⟩ := h
        refine go_jle (tgt := 84) (show decode cX10_haul 76 = .ok (.lcmp, 1) by decide +kernel) (show decode cX10_haul 77 = .ok (.ifCond .le 7, 3) by decide +kernel) (by decide) (fun hc => ?_) (fun hc => ?_)
        · have h := ht hc
          refine go_lload (show decode cX10_haul 84 = .ok (.lload 4, 2) by decide +kernel) (by rfl) ?_
          refine go_lload (show decode cX10_haul 86 = .ok (.lload 7, 2) by decide +kernel) (by rfl) ?_
          refine go_lload (show decode cX10_haul 88 = .ok (.lload 9, 2) by decide +kernel) (by rfl) ?_
          obtain ⟨q32, h⟩ := h
          refine go_lmul (show decode cX10_haul 90 = .ok (.lmul, 1) by decide +kernel) q32 ?_
          obtain ⟨q33, h⟩ := h
          refine go_ladd (show decode cX10_haul 91 = .ok (.ladd, 1) by decide +kernel) q33 ?_
          obtain ⟨x34, x34e⟩ : ∃ x34 : Int, x34 = a4 + (z10 * z29) := ⟨_, rfl⟩
          have h := h x34 x34e
          rw [← x34e]
          refine go_lstore (show decode cX10_haul 92 = .ok (.lstore 4, 2) by decide +kernel) (by decide) ?_
          show Go d MX10_haul 94 [some (vR a0), some (vI a1), some (vI a2), some (vI a3), some (vJ x34), none, some (vI a6), some (vJ z10), none, some (vJ z29), none] [] S26 F27 G28 Q
          refine go_lload (show decode cX10_haul 94 = .ok (.lload 4, 2) by decide +kernel) (by rfl) ?_
          refine go_ldc2 (show decode cX10_haul 96 = .ok (.ldc2_w 198, 3) by decide +kernel) lc_X10_198 (by decide) ?_
          obtain ⟨ht, hf⟩ := h
          refine go_jle (tgt := 107) (show decode cX10_haul 99 = .ok (.lcmp, 1) by decide +kernel) (show decode cX10_haul 100 = .ok (.ifCond .le 7, 3) by decide +kernel) (by decide) (fun hc => ?_) (fun hc => ?_)
          · have h := ht hc
            exact R_X10_haul_107 h
          · have h := hf hc
            refine go_ldc2 (show decode cX10_haul 103 = .ok (.ldc2_w 356, 3) by decide +kernel) lc_X10_356 (by decide) ?_
            exact go_lret (show decode cX10_haul 106 = .ok (.lreturn, 1) by decide +kernel) rfl h
        · have h := hf hc
          refine go_ldc2 (show decode cX10_haul 80 = .ok (.ldc2_w 356, 3) by decide +kernel) lc_X10_356 (by decide) ?_
          exact go_lret (show decode cX10_haul 83 = .ok (.lreturn, 1) by decide +kernel) rfl h
      · have h := hf hc
        refine go_goto (tgt := 107) (show decode cX10_haul 65 = .ok (.goto 42, 3) by decide +kernel) (by decide) ?_
        exact R_X10_haul_107 h
def V_X10_haul_0 (d : Nat) (S : AS) (F : AF) (G : AG) (Q : AQ) (a0 : Nat) (a1 : Int) (a2 : Int) (a3 : Int) : Prop :=
  Go d MX10_haul 6 [some (vR a0), some (vI a1), some (vI a2), some (vI a3), some (vJ 0), none, some (vI 0), none, none, none, none] [] S F G Q
theorem R_X10_haul_0 {d : Nat} {S : AS} {F : AF} {G : AG} {Q : AQ} {a0 : Nat} {a1 : Int} {a2 : Int} {a3 : Int} (h : V_X10_haul_0 d S F G Q a0 a1 a2 a3) : Go d MX10_haul 0 [some (vR a0), some (vI a1), some (vI a2), some (vI a3), none, none, none, none, none, none, none] [] S F G Q := by
  unfold V_X10_haul_0 at h
  refine go_lconst (n := 0) (show decode cX10_haul 0 = .ok (.lconst 0, 1) by decide +kernel) ?_
  show Go d MX10_haul 1 [some (vR a0), some (vI a1), some (vI a2), some (vI a3), none, none, none, none, none, none, none] [vJ 0] S F G Q
  refine go_lstore (show decode cX10_haul 1 = .ok (.lstore 4, 2) by decide +kernel) (by decide) ?_
  show Go d MX10_haul 3 [some (vR a0), some (vI a1), some (vI a2), some (vI a3), some (vJ 0), none, none, none, none, none, none] [] S F G Q
  refine go_iconst (show decode cX10_haul 3 = .ok (.iconst 0, 1) by decide +kernel) (by decide) ?_
  refine go_istore (show decode cX10_haul 4 = .ok (.istore 6, 2) by decide +kernel) (by decide) ?_
  show Go d MX10_haul 6 [some (vR a0), some (vI a1), some (vI a2), some (vI a3), some (vJ 0), none, some (vI 0), none, none, none, none] [] S F G Q
  exact h
def V_X10_farAll_0 (d : Nat) (S : AS) (F : AF) (G : AG) (Q : AQ) (a0 : Int) (a1 : Int) (a2 : Int) : Prop :=
  ((a2 ≤ a1) →
    ((a0 ≤ a2) →
      (r32 (a2 - a0)) ∧
      ∀ x2 : Int, x2 = a2 - a0 →
      (r32 (a1 - a2)) ∧
      ∀ x4 : Int, x4 = a1 - a2 →
      (r64 (x2 + 1)) ∧
      (r64 (x2 * (x2 + 1))) ∧
      (r64 (x4 + 1)) ∧
      (r64 (x4 * (x4 + 1))) ∧
      (r64 ((x2 * (x2 + 1)) + (x4 * (x4 + 1)))) ∧
      (r64 (Int.tdiv ((x2 * (x2 + 1)) + (x4 * (x4 + 1))) 2)) ∧
      Q (some (vJ (Int.tdiv ((x2 * (x2 + 1)) + (x4 * (x4 + 1))) 2))) S F G) ∧
    ((¬ a0 ≤ a2) →
      (r32 (a1 - a0)) ∧
      (r32 ((a1 - a0) + 1)) ∧
      (r32 (a0 - a2)) ∧
      (r32 ((a0 - a2) + a1)) ∧
      (r32 (((a0 - a2) + a1) - a2)) ∧
      (r64 (((a1 - a0) + 1) * (((a0 - a2) + a1) - a2))) ∧
      (r64 (Int.tdiv (((a1 - a0) + 1) * (((a0 - a2) + a1) - a2)) 2)) ∧
      Q (some (vJ (Int.tdiv (((a1 - a0) + 1) * (((a0 - a2) + a1) - a2)) 2))) S F G)) ∧
  ((¬ a2 ≤ a1) →
    (r32 (-a1)) ∧
    (r32 (-a0)) ∧
    (r32 (-a2)) ∧
    (1 ≤ d) ∧
    Ok (d - 1) MX10_farAll [vI (-a1), vI (-a0), vI (-a2)] S F G (fun w22 S23 F24 G25 =>
    ∃ z26 : Int, w22 = some (vJ z26) ∧
    Q (some (vJ z26)) S23 F24 G25))
theorem R_X10_farAll_0 {d : Nat} {S : AS} {F : AF} {G : AG} {Q : AQ} {a0 : Int} {a1 : Int} {a2 : Int} (h : V_X10_farAll_0 d S F G Q a0 a1 a2) : Go d MX10_farAll 0 [some (vI a0), some (vI a1), some (vI a2), none, none, none, none] [] S F G Q := by
  unfold V_X10_farAll_0 at h
  refine go_iload_n (show decode cX10_farAll 0 = .ok (.iload_n 1, 1) by decide +kernel) (by rfl) ?_
  refine go_iload_n (show decode cX10_farAll 1 = .ok (.iload_n 2, 1) by decide +kernel) (by rfl) ?_
  obtain ⟨ht, hf⟩ := h
  refine go_icmpge (tgt := 15) (show decode cX10_farAll 2 = .ok (.if_icmp .ge 13, 3) by decide +kernel) (by decide) (fun hc => ?_) (fun hc => ?_)
  · have h := ht hc
    refine go_iload_n (show decode cX10_farAll 15 = .ok (.iload_n 0, 1) by decide +kernel) (by rfl) ?_
    refine go_iload_n (show decode cX10_farAll 16 = .ok (.iload_n 2, 1) by decide +kernel) (by rfl) ?_
    obtain ⟨ht, hf⟩ := h
    refine go_icmple (tgt := 40) (show decode cX10_farAll 17 = .ok (.if_icmp .le 23, 3) by decide +kernel) (by decide) (fun hc => ?_) (fun hc => ?_)
    · have h := ht hc
      refine go_iload_n (show decode cX10_farAll 40 = .ok (.iload_n 2, 1) by decide +kernel) (by rfl) ?_
      refine go_iload_n (show decode cX10_farAll 41 = .ok (.iload_n 0, 1) by decide +kernel) (by rfl) ?_
      obtain ⟨q1, h⟩ := h
      refine go_isub (show decode cX10_farAll 42 = .ok (.isub, 1) by decide +kernel) q1 ?_
      refine go_i2l (show decode cX10_farAll 43 = .ok (.i2l, 1) by decide +kernel) ?_
      obtain ⟨x2, x2e⟩ : ∃ x2 : Int, x2 = a2 - a0 := ⟨_, rfl⟩
      have h := h x2 x2e
      rw [← x2e]
      refine go_lstore_n (show decode cX10_farAll 44 = .ok (.lstore_n 3, 1) by decide +kernel) (by decide) ?_
      show Go d MX10_farAll 45 [some (vI a0), some (vI a1), some (vI a2), some (vJ x2), none, none, none] [] S F G Q
      refine go_iload_n (show decode cX10_farAll 45 = .ok (.iload_n 1, 1) by decide +kernel) (by rfl) ?_
      refine go_iload_n (show decode cX10_farAll 46 = .ok (.iload_n 2, 1) by decide +kernel) (by rfl) ?_
      obtain ⟨q3, h⟩ := h
      refine go_isub (show decode cX10_farAll 47 = .ok (.isub, 1) by decide +kernel) q3 ?_
      refine go_i2l (show decode cX10_farAll 48 = .ok (.i2l, 1) by decide +kernel) ?_
      obtain ⟨x4, x4e⟩ : ∃ x4 : Int, x4 = a1 - a2 := ⟨_, rfl⟩
      have h := h x4 x4e
      rw [← x4e]
      refine go_lstore (show decode cX10_farAll 49 = .ok (.lstore 5, 2) by decide +kernel) (by decide) ?_
      show Go d MX10_farAll 51 [some (vI a0), some (vI a1), some (vI a2), some (vJ x2), none, some (vJ x4), none] [] S F G Q
      refine go_lload_n (show decode cX10_farAll 51 = .ok (.lload_n 3, 1) by decide +kernel) (by rfl) ?_
      refine go_lload_n (show decode cX10_farAll 52 = .ok (.lload_n 3, 1) by decide +kernel) (by rfl) ?_
      refine go_lconst (n := 1) (show decode cX10_farAll 53 = .ok (.lconst 1, 1) by decide +kernel) ?_
      show Go d MX10_farAll 54 [some (vI a0), some (vI a1), some (vI a2), some (vJ x2), none, some (vJ x4), none] [vJ 1, vJ x2, vJ x2] S F G Q
      obtain ⟨q5, h⟩ := h
      refine go_ladd (show decode cX10_farAll 54 = .ok (.ladd, 1) by decide +kernel) q5 ?_
      obtain ⟨q6, h⟩ := h
      refine go_lmul (show decode cX10_farAll 55 = .ok (.lmul, 1) by decide +kernel) q6 ?_
      refine go_lload (show decode cX10_farAll 56 = .ok (.lload 5, 2) by decide +kernel) (by rfl) ?_
      refine go_lload (show decode cX10_farAll 58 = .ok (.lload 5, 2) by decide +kernel) (by rfl) ?_
      refine go_lconst (n := 1) (show decode cX10_farAll 60 = .ok (.lconst 1, 1) by decide +kernel) ?_
      show Go d MX10_farAll 61 [some (vI a0), some (vI a1), some (vI a2), some (vJ x2), none, some (vJ x4), none] [vJ 1, vJ x4, vJ x4, vJ (x2 * (x2 + 1))] S F G Q
      obtain ⟨q7, h⟩ := h
      refine go_ladd (show decode cX10_farAll 61 = .ok (.ladd, 1) by decide +kernel) q7 ?_
      obtain ⟨q8, h⟩ := h
      refine go_lmul (show decode cX10_farAll 62 = .ok (.lmul, 1) by decide +kernel) q8 ?_
      obtain ⟨q9, h⟩ := h
      refine go_ladd (show decode cX10_farAll 63 = .ok (.ladd, 1) by decide +kernel) q9 ?_
      refine go_ldc2 (show decode cX10_farAll 64 = .ok (.ldc2_w 157, 3) by decide +kernel) lc_X10_157 (by decide) ?_
      obtain ⟨q10, h⟩ := h
      refine go_ldiv (show decode cX10_farAll 67 = .ok (.ldiv, 1) by decide +kernel) (by decide) q10 ?_
      exact go_lret (show decode cX10_farAll 68 = .ok (.lreturn, 1) by decide +kernel) rfl h
    · have h := hf hc
      refine go_iload_n (show decode cX10_farAll 20 = .ok (.iload_n 1, 1) by decide +kernel) (by rfl) ?_
      refine go_iload_n (show decode cX10_farAll 21 = .ok (.iload_n 0, 1) by decide +kernel) (by rfl) ?_
      obtain ⟨q11, h⟩ := h
      refine go_isub (show decode cX10_farAll 22 = .ok (.isub, 1) by decide +kernel) q11 ?_
      refine go_iconst (show decode cX10_farAll 23 = .ok (.iconst 1, 1) by decide +kernel) (by decide) ?_
      obtain ⟨q12, h⟩ := h
      refine go_iadd (show decode cX10_farAll 24 = .ok (.iadd, 1) by decide +kernel) q12 ?_
      refine go_i2l (show decode cX10_farAll 25 = .ok (.i2l, 1) by decide +kernel) ?_
      refine go_iload_n (show decode cX10_farAll 26 = .ok (.iload_n 0, 1) by decide +kernel) (by rfl) ?_
      refine go_iload_n (show decode cX10_farAll 27 = .ok (.iload_n 2, 1) by decide +kernel) (by rfl) ?_
      obtain ⟨q13, h⟩ := h
      refine go_isub (show decode cX10_farAll 28 = .ok (.isub, 1) by decide +kernel) q13 ?_
      refine go_iload_n (show decode cX10_farAll 29 = .ok (.iload_n 1, 1) by decide +kernel) (by rfl) ?_
      obtain ⟨q14, h⟩ := h
      refine go_iadd (show decode cX10_farAll 30 = .ok (.iadd, 1) by decide +kernel) q14 ?_
      refine go_iload_n (show decode cX10_farAll 31 = .ok (.iload_n 2, 1) by decide +kernel) (by rfl) ?_
      obtain ⟨q15, h⟩ := h
      refine go_isub (show decode cX10_farAll 32 = .ok (.isub, 1) by decide +kernel) q15 ?_
      refine go_i2l (show decode cX10_farAll 33 = .ok (.i2l, 1) by decide +kernel) ?_
      obtain ⟨q16, h⟩ := h
      refine go_lmul (show decode cX10_farAll 34 = .ok (.lmul, 1) by decide +kernel) q16 ?_
      refine go_ldc2 (show decode cX10_farAll 35 = .ok (.ldc2_w 157, 3) by decide +kernel) lc_X10_157 (by decide) ?_
      obtain ⟨q17, h⟩ := h
      refine go_ldiv (show decode cX10_farAll 38 = .ok (.ldiv, 1) by decide +kernel) (by decide) q17 ?_
      exact go_lret (show decode cX10_farAll 39 = .ok (.lreturn, 1) by decide +kernel) rfl h
  · have h := hf hc
    refine go_iload_n (show decode cX10_farAll 5 = .ok (.iload_n 1, 1) by decide +kernel) (by rfl) ?_
    obtain ⟨q18, h⟩ := h
    refine go_ineg (show decode cX10_farAll 6 = .ok (.ineg, 1) by decide +kernel) q18 ?_
    refine go_iload_n (show decode cX10_farAll 7 = .ok (.iload_n 0, 1) by decide +kernel) (by rfl) ?_
    obtain ⟨q19, h⟩ := h
    refine go_ineg (show decode cX10_farAll 8 = .ok (.ineg, 1) by decide +kernel) q19 ?_
    refine go_iload_n (show decode cX10_farAll 9 = .ok (.iload_n 2, 1) by decide +kernel) (by rfl) ?_
    obtain ⟨q20, h⟩ := h
    refine go_ineg (show decode cX10_farAll 10 = .ok (.ineg, 1) by decide +kernel) q20 ?_
    obtain ⟨q21, h⟩ := h
    refine go_callS (d2 := d - 1) (M2 := MX10_farAll) (n := 3) (av := [vI (-a1), vI (-a0), vI (-a2)]) (st := []) (show decode cX10_farAll 11 = .ok (.invokestatic 444, 3) by decide +kernel) ml_X10_444 mt_X10_farAll mst_X10_farAll rfl (Nat.le_of_ble_eq_true rfl) (by omega) (ok_mono h (fun w22 S23 F24 G25 h => ?_))
    obtain ⟨z26, e9, h⟩ := h
    subst e9
    show Go d MX10_farAll 14 [some (vI a0), some (vI a1), some (vI a2), none, none, none, none] [vJ z26] S23 F24 G25 Q
    exact go_lret (show decode cX10_farAll 14 = .ok (.lreturn, 1) by decide +kernel) rfl h
def V_X10_window_263 (d : Nat) (S : AS) (F : AF) (G : AG) (Q : AQ) (a0 : Nat) (a1 : Int) (a2 : Int) (a3 : Int) (a4 : Int) (a5 : Int) (a6 : Int) (a7 : Int) (a9 : Int) (a10 : Int) (a11 : Int) (a12 : Int) (a13 : Int) (a15 : Int) : Prop :=
  (r32 (a12 + 1)) ∧
  Go d MX10_window 161 [some (vR a0), some (vI a1), some (vI a2), some (vI a3), some (vI a4), some (vI a5), some (vI a6), some (vJ a7), none, some (vI a9), some (vI a10), some (vI a11), some (vI (a12 + 1)), none, none, none] [] S F G Q
theorem R_X10_window_263 {d : Nat} {S : AS} {F : AF} {G : AG} {Q : AQ} {a0 : Nat} {a1 : Int} {a2 : Int} {a3 : Int} {a4 : Int} {a5 : Int} {a6 : Int} {a7 : Int} {a9 : Int} {a10 : Int} {a11 : Int} {a12 : Int} {a13 : Int} {a15 : Int} (h : V_X10_window_263 d S F G Q a0 a1 a2 a3 a4 a5 a6 a7 a9 a10 a11 a12 a13 a15) : Go d MX10_window 263 [some (vR a0), some (vI a1), some (vI a2), some (vI a3), some (vI a4), some (vI a5), some (vI a6), some (vJ a7), none, some (vI a9), some (vI a10), some (vI a11), some (vI a12), some (vJ a13), none, some (vI a15)] [] S F G Q := by
  unfold V_X10_window_263 at h
  obtain ⟨q1, h⟩ := h
  refine go_iinc (show decode cX10_window 263 = .ok (.iinc 12 1, 3) by decide +kernel) (by rfl) q1 (by decide) ?_
  show Go d MX10_window 266 [some (vR a0), some (vI a1), some (vI a2), some (vI a3), some (vI a4), some (vI a5), some (vI a6), some (vJ a7), none, some (vI a9), some (vI a10), some (vI a11), some (vI (a12 + 1)), some (vJ a13), none, some (vI a15)] [] S F G Q
  refine go_goto (tgt := 161) (show decode cX10_window 266 = .ok (.goto (-105), 3) by decide +kernel) (by decide) ?_
  refine go_clr 13 ?_
  refine go_clr 15 ?_
  exact h
def V_X10_window_174 (d : Nat) (S : AS) (F : AF) (G : AG) (Q : AQ) (a0 : Nat) (a1 : Int) (a2 : Int) (a3 : Int) (a4 : Int) (a5 : Int) (a6 : Int) (a7 : Int) (a9 : Int) (a10 : Int) (a11 : Int) (a12 : Int) (a13 : Int) (a15 : Int) : Prop :=
  (sK S a0 = 10) ∧
  (sK S (sR S a0 5) = 20) ∧
  ((0 : Int) < (sN S (sR S a0 5) : Int)) ∧
  ((G (sR S a0 5) 0 ≤ a15) →
    ((a7 < a13) →
      (sK S (sR S a0 48) = 20) ∧
      ((0 : Int) ≤ a12) ∧
      ((a12 : Int) < (sN S (sR S a0 48) : Int)) ∧
      ∀ x7 : Int, x7 = G (sR S a0 48) a12 →
      (sK S (sR S a0 49) = 20) ∧
      ((0 : Int) ≤ a11) ∧
      ((a11 : Int) < (sN S (sR S a0 49) : Int)) ∧
      ∀ x11 : Int, x11 = G (sR S a0 49) a11 →
      V_X10_window_263 d S F G Q a0 a1 a2 a3 a4 a5 a6 a13 x7 x11 a11 a12 a13 a15) ∧
    ((¬ a7 < a13) →
      V_X10_window_263 d S F G Q a0 a1 a2 a3 a4 a5 a6 a7 a9 a10 a11 a12 a13 a15)) ∧
  ((¬ G (sR S a0 5) 0 ≤ a15) →
    (sK S (sR S a0 50) = 21) ∧
    ((0 : Int) ≤ a15) ∧
    ((a15 : Int) < (sN S (sR S a0 50) : Int)) ∧
    (sK S (sR S a0 48) = 20) ∧
    ((0 : Int) ≤ a12) ∧
    ((a12 : Int) < (sN S (sR S a0 48) : Int)) ∧
    (r32 ((G (sR S a0 48) a12) + a2)) ∧
    (r32 (((G (sR S a0 48) a12) + a2) - 1)) ∧
    (1 ≤ d) ∧
    Ok (d - 1) MX10_part [vR a0, vI 0, vI a15, vI (G (sR S a0 48) a12), vI (((G (sR S a0 48) a12) + a2) - 1)] S F G (fun w21 S22 F23 G24 =>
    ∃ z25 : Int, w21 = some (vI z25) ∧
    (r64 ((G (sR S a0 50) a15) * z25)) ∧
    (r64 (a13 + ((G (sR S a0 50) a15) * z25))) ∧
    ∀ x28 : Int, x28 = a13 + ((G (sR S a0 50) a15) * z25) →
    (r32 (a15 + 1)) ∧
    Go d MX10_window 174 [some (vR a0), some (vI a1), some (vI a2), some (vI a3), some (vI a4), some (vI a5), some (vI a6), some (vJ a7), none, some (vI a9), some (vI a10), some (vI a11), some (vI a12), some (vJ x28), none, some (vI (a15 + 1))] [] S22 F23 G24 Q))
theorem R_X10_window_174 {d : Nat} {S : AS} {F : AF} {G : AG} {Q : AQ} {a0 : Nat} {a1 : Int} {a2 : Int} {a3 : Int} {a4 : Int} {a5 : Int} {a6 : Int} {a7 : Int} {a9 : Int} {a10 : Int} {a11 : Int} {a12 : Int} {a13 : Int} {a15 : Int} (h : V_X10_window_174 d S F G Q a0 a1 a2 a3 a4 a5 a6 a7 a9 a10 a11 a12 a13 a15) : Go d MX10_window 174 [some (vR a0), some (vI a1), some (vI a2), some (vI a3), some (vI a4), some (vI a5), some (vI a6), some (vJ a7), none, some (vI a9), some (vI a10), some (vI a11), some (vI a12), some (vJ a13), none, some (vI a15)] [] S F G Q := by
  unfold V_X10_window_174 at h
  refine go_iload (show decode cX10_window 174 = .ok (.iload 15, 2) by decide +kernel) (by rfl) ?_
  refine go_aload_n (show decode cX10_window 176 = .ok (.aload_n 0, 1) by decide +kernel) (by rfl) ?_
  obtain ⟨q1, h⟩ := h
  refine go_getR (show decode cX10_window 177 = .ok (.getfield 29, 3) by decide +kernel) fl_X10_29 rfl q1 ?_
  refine go_iconst (show decode cX10_window 180 = .ok (.iconst 0, 1) by decide +kernel) (by decide) ?_
  obtain ⟨q2, h⟩ := h
  obtain ⟨q3, h⟩ := h
  refine go_iaload (show decode cX10_window 181 = .ok (.iaload, 1) by decide +kernel) q2 (by decide) q3 ?_
  obtain ⟨ht, hf⟩ := h
  refine go_icmpge (tgt := 230) (show decode cX10_window 182 = .ok (.if_icmp .ge 48, 3) by decide +kernel) (by decide) (fun hc => ?_) (fun hc => ?_)
  · have h := ht hc
    refine go_lload (show decode cX10_window 230 = .ok (.lload 13, 2) by decide +kernel) (by rfl) ?_
    refine go_lload (show decode cX10_window 232 = .ok (.lload 7, 2) by decide +kernel) (by rfl) ?_
    obtain ⟨ht, hf⟩ := h
    refine go_jgt (tgt := 241) (show decode cX10_window 234 = .ok (.lcmp, 1) by decide +kernel) (show decode cX10_window 235 = .ok (.ifCond .gt 6, 3) by decide +kernel) (by decide) (fun hc => ?_) (fun hc => ?_)
    · have h := ht hc
      refine go_lload (show decode cX10_window 241 = .ok (.lload 13, 2) by decide +kernel) (by rfl) ?_
      refine go_lstore (show decode cX10_window 243 = .ok (.lstore 7, 2) by decide +kernel) (by decide) ?_
      show Go d MX10_window 245 [some (vR a0), some (vI a1), some (vI a2), some (vI a3), some (vI a4), some (vI a5), some (vI a6), some (vJ a13), none, some (vI a9), some (vI a10), some (vI a11), some (vI a12), some (vJ a13), none, some (vI a15)] [] S F G Q
      refine go_aload_n (show decode cX10_window 245 = .ok (.aload_n 0, 1) by decide +kernel) (by rfl) ?_
      refine go_getR (show decode cX10_window 246 = .ok (.getfield 96, 3) by decide +kernel) fl_X10_96 rfl q1 ?_
      refine go_iload (show decode cX10_window 249 = .ok (.iload 12, 2) by decide +kernel) (by rfl) ?_
      obtain ⟨q4, h⟩ := h
      obtain ⟨q5, h⟩ := h
      obtain ⟨q6, h⟩ := h
      refine go_iaload (show decode cX10_window 251 = .ok (.iaload, 1) by decide +kernel) q4 q5 q6 ?_
      obtain ⟨x7, x7e⟩ : ∃ x7 : Int, x7 = G (sR S a0 48) a12 := ⟨_, rfl⟩
      have h := h x7 x7e
      rw [← x7e]
      refine go_istore (show decode cX10_window 252 = .ok (.istore 9, 2) by decide +kernel) (by decide) ?_
      show Go d MX10_window 254 [some (vR a0), some (vI a1), some (vI a2), some (vI a3), some (vI a4), some (vI a5), some (vI a6), some (vJ a13), none, some (vI x7), some (vI a10), some (vI a11), some (vI a12), some (vJ a13), none, some (vI a15)] [] S F G Q
      refine go_aload_n (show decode cX10_window 254 = .ok (.aload_n 0, 1) by decide +kernel) (by rfl) ?_
      refine go_getR (show decode cX10_window 255 = .ok (.getfield 99, 3) by decide +kernel) fl_X10_99 rfl q1 ?_
      refine go_iload (show decode cX10_window 258 = .ok (.iload 11, 2) by decide +kernel) (by rfl) ?_
      obtain ⟨q8, h⟩ := h
      obtain ⟨q9, h⟩ := h
      obtain ⟨q10, h⟩ := h
      refine go_iaload (show decode cX10_window 260 = .ok (.iaload, 1) by decide +kernel) q8 q9 q10 ?_
      obtain ⟨x11, x11e⟩ : ∃ x11 : Int, x11 = G (sR S a0 49) a11 := ⟨_, rfl⟩
      have h := h x11 x11e
      rw [← x11e]
      refine go_istore (show decode cX10_window 261 = .ok (.istore 10, 2) by decide +kernel) (by decide) ?_
      show Go d MX10_window 263 [some (vR a0), some (vI a1), some (vI a2), some (vI a3), some (vI a4), some (vI a5), some (vI a6), some (vJ a13), none, some (vI x7), some (vI x11), some (vI a11), some (vI a12), some (vJ a13), none, some (vI a15)] [] S F G Q
      exact R_X10_window_263 h
    · have h := hf hc
      refine go_goto (tgt := 263) (show decode cX10_window 238 = .ok (.goto 25, 3) by decide +kernel) (by decide) ?_
      exact R_X10_window_263 h
  · have h := hf hc
    refine go_lload (show decode cX10_window 185 = .ok (.lload 13, 2) by decide +kernel) (by rfl) ?_
    refine go_aload_n (show decode cX10_window 187 = .ok (.aload_n 0, 1) by decide +kernel) (by rfl) ?_
    refine go_getR (show decode cX10_window 188 = .ok (.getfield 102, 3) by decide +kernel) fl_X10_102 rfl q1 ?_
    refine go_iload (show decode cX10_window 191 = .ok (.iload 15, 2) by decide +kernel) (by rfl) ?_
    obtain ⟨q12, h⟩ := h
    obtain ⟨q13, h⟩ := h
    obtain ⟨q14, h⟩ := h
    refine go_laload (show decode cX10_window 193 = .ok (.laload, 1) by decide +kernel) q12 q13 q14 ?_
    refine go_aload_n (show decode cX10_window 194 = .ok (.aload_n 0, 1) by decide +kernel) (by rfl) ?_
    refine go_iconst (show decode cX10_window 195 = .ok (.iconst 0, 1) by decide +kernel) (by decide) ?_
    refine go_iload (show decode cX10_window 196 = .ok (.iload 15, 2) by decide +kernel) (by rfl) ?_
    refine go_aload_n (show decode cX10_window 198 = .ok (.aload_n 0, 1) by decide +kernel) (by rfl) ?_
    refine go_getR (show decode cX10_window 199 = .ok (.getfield 96, 3) by decide +kernel) fl_X10_96 rfl q1 ?_
    refine go_iload (show decode cX10_window 202 = .ok (.iload 12, 2) by decide +kernel) (by rfl) ?_
    obtain ⟨q15, h⟩ := h
    obtain ⟨q16, h⟩ := h
    obtain ⟨q17, h⟩ := h
    refine go_iaload (show decode cX10_window 204 = .ok (.iaload, 1) by decide +kernel) q15 q16 q17 ?_
    refine go_aload_n (show decode cX10_window 205 = .ok (.aload_n 0, 1) by decide +kernel) (by rfl) ?_
    refine go_getR (show decode cX10_window 206 = .ok (.getfield 96, 3) by decide +kernel) fl_X10_96 rfl q1 ?_
    refine go_iload (show decode cX10_window 209 = .ok (.iload 12, 2) by decide +kernel) (by rfl) ?_
    refine go_iaload (show decode cX10_window 211 = .ok (.iaload, 1) by decide +kernel) q15 q16 q17 ?_
    refine go_iload_n (show decode cX10_window 212 = .ok (.iload_n 2, 1) by decide +kernel) (by rfl) ?_
    obtain ⟨q18, h⟩ := h
    refine go_iadd (show decode cX10_window 213 = .ok (.iadd, 1) by decide +kernel) q18 ?_
    refine go_iconst (show decode cX10_window 214 = .ok (.iconst 1, 1) by decide +kernel) (by decide) ?_
    obtain ⟨q19, h⟩ := h
    refine go_isub (show decode cX10_window 215 = .ok (.isub, 1) by decide +kernel) q19 ?_
    obtain ⟨q20, h⟩ := h
    refine go_callV (d2 := d - 1) (M2 := MX10_part) (n := 4) (ci := 10) (av := [vI 0, vI a15, vI (G (sR S a0 48) a12), vI (((G (sR S a0 48) a12) + a2) - 1)]) (st := [vJ (G (sR S a0 50) a15), vJ a13]) (show decode cX10_window 216 = .ok (.invokevirtual 159, 3) by decide +kernel) ml_X10_159 mt_X10_part min_X10_part mse_X10_part (by decide) q1 rfl (Nat.le_of_ble_eq_true rfl) (by omega) (ok_mono h (fun w21 S22 F23 G24 h => ?_))
    obtain ⟨z25, e9, h⟩ := h
    subst e9
    show Go d MX10_window 219 [some (vR a0), some (vI a1), some (vI a2), some (vI a3), some (vI a4), some (vI a5), some (vI a6), some (vJ a7), none, some (vI a9), some (vI a10), some (vI a11), some (vI a12), some (vJ a13), none, some (vI a15)] [vI z25, vJ (G (sR S a0 50) a15), vJ a13] S22 F23 G24 Q
    refine go_i2l (show decode cX10_window 219 = .ok (.i2l, 1) by decide +kernel) ?_
    obtain ⟨q26, h⟩ := h
    refine go_lmul (show decode cX10_window 220 = .ok (.lmul, 1) by decide +kernel) q26 ?_
    obtain ⟨q27, h⟩ := h
    refine go_ladd (show decode cX10_window 221 = .ok (.ladd, 1) by decide +kernel) q27 ?_
    obtain ⟨x28, x28e⟩ : ∃ x28 : Int, x28 = a13 + ((G (sR S a0 50) a15) * z25) := ⟨_, rfl⟩
    have h := h x28 x28e
    rw [← x28e]
    refine go_lstore (show decode cX10_window 222 = .ok (.lstore 13, 2) by decide +kernel) (by decide) ?_
    show Go d MX10_window 224 [some (vR a0), some (vI a1), some (vI a2), some (vI a3), some (vI a4), some (vI a5), some (vI a6), some (vJ a7), none, some (vI a9), some (vI a10), some (vI a11), some (vI a12), some (vJ x28), none, some (vI a15)] [] S22 F23 G24 Q
    obtain ⟨q29, h⟩ := h
    refine go_iinc (show decode cX10_window 224 = .ok (.iinc 15 1, 3) by decide +kernel) (by rfl) q29 (by decide) ?_
    show Go d MX10_window 227 [some (vR a0), some (vI a1), some (vI a2), some (vI a3), some (vI a4), some (vI a5), some (vI a6), some (vJ a7), none, some (vI a9), some (vI a10), some (vI a11), some (vI a12), some (vJ x28), none, some (vI (a15 + 1))] [] S22 F23 G24 Q
    refine go_goto (tgt := 174) (show decode cX10_window 227 = .ok (.goto (-53), 3) by decide +kernel) (by decide) ?_
    exact h
def V_X10_window_161 (d : Nat) (S : AS) (F : AF) (G : AG) (Q : AQ) (a0 : Nat) (a1 : Int) (a2 : Int) (a3 : Int) (a4 : Int) (a5 : Int) (a6 : Int) (a7 : Int) (a9 : Int) (a10 : Int) (a11 : Int) (a12 : Int) : Prop :=
  ((a5 ≤ a12) →
    (r32 (a11 + 1)) ∧
    Go d MX10_window 99 [some (vR a0), some (vI a1), some (vI a2), some (vI a3), some (vI a4), some (vI a5), some (vI a6), some (vJ a7), none, some (vI a9), some (vI a10), some (vI (a11 + 1)), none, none, none, none] [] S F G Q) ∧
  ((¬ a5 ≤ a12) →
    Go d MX10_window 174 [some (vR a0), some (vI a1), some (vI a2), some (vI a3), some (vI a4), some (vI a5), some (vI a6), some (vJ a7), none, some (vI a9), some (vI a10), some (vI a11), some (vI a12), some (vJ 0), none, some (vI 0)] [] S F G Q)
theorem R_X10_window_161 {d : Nat} {S : AS} {F : AF} {G : AG} {Q : AQ} {a0 : Nat} {a1 : Int} {a2 : Int} {a3 : Int} {a4 : Int} {a5 : Int} {a6 : Int} {a7 : Int} {a9 : Int} {a10 : Int} {a11 : Int} {a12 : Int} (h : V_X10_window_161 d S F G Q a0 a1 a2 a3 a4 a5 a6 a7 a9 a10 a11 a12) : Go d MX10_window 161 [some (vR a0), some (vI a1), some (vI a2), some (vI a3), some (vI a4), some (vI a5), some (vI a6), some (vJ a7), none, some (vI a9), some (vI a10), some (vI a11), some (vI a12), none, none, none] [] S F G Q := by
  unfold V_X10_window_161 at h
  refine go_iload (show decode cX10_window 161 = .ok (.iload 12, 2) by decide +kernel) (by rfl) ?_
  refine go_iload (show decode cX10_window 163 = .ok (.iload 5, 2) by decide +kernel) (by rfl) ?_
  obtain ⟨ht, hf⟩ := h
  refine go_icmpge (tgt := 269) (show decode cX10_window 165 = .ok (.if_icmp .ge 104, 3) by decide +kernel) (by decide) (fun hc => ?_) (fun hc => ?_)
  · have h := ht hc
    obtain ⟨q1, h⟩ := h
    refine go_iinc (show decode cX10_window 269 = .ok (.iinc 11 1, 3) by decide +kernel) (by rfl) q1 (by decide) ?_
    show Go d MX10_window 272 [some (vR a0), some (vI a1), some (vI a2), some (vI a3), some (vI a4), some (vI a5), some (vI a6), some (vJ a7), none, some (vI a9), some (vI a10), some (vI (a11 + 1)), some (vI a12), none, none, none] [] S F G Q
    refine go_goto (tgt := 99) (show decode cX10_window 272 = .ok (.goto (-173), 3) by decide +kernel) (by decide) ?_
    refine go_clr 12 ?_
    exact h
  · have h := hf hc
    refine go_lconst (n := 0) (show decode cX10_window 168 = .ok (.lconst 0, 1) by decide +kernel) ?_
    show Go d MX10_window 169 [some (vR a0), some (vI a1), some (vI a2), some (vI a3), some (vI a4), some (vI a5), some (vI a6), some (vJ a7), none, some (vI a9), some (vI a10), some (vI a11), some (vI a12), none, none, none] [vJ 0] S F G Q
    refine go_lstore (show decode cX10_window 169 = .ok (.lstore 13, 2) by decide +kernel) (by decide) ?_
    show Go d MX10_window 171 [some (vR a0), some (vI a1), some (vI a2), some (vI a3), some (vI a4), some (vI a5), some (vI a6), some (vJ a7), none, some (vI a9), some (vI a10), some (vI a11), some (vI a12), some (vJ 0), none, none] [] S F G Q
    refine go_iconst (show decode cX10_window 171 = .ok (.iconst 0, 1) by decide +kernel) (by decide) ?_
    refine go_istore (show decode cX10_window 172 = .ok (.istore 15, 2) by decide +kernel) (by decide) ?_
    show Go d MX10_window 174 [some (vR a0), some (vI a1), some (vI a2), some (vI a3), some (vI a4), some (vI a5), some (vI a6), some (vJ a7), none, some (vI a9), some (vI a10), some (vI a11), some (vI a12), some (vJ 0), none, some (vI 0)] [] S F G Q
    exact h
def V_X10_window_109 (d : Nat) (S : AS) (F : AF) (G : AG) (Q : AQ) (a0 : Nat) (a1 : Int) (a2 : Int) (a3 : Int) (a4 : Int) (a5 : Int) (a6 : Int) (a7 : Int) (a9 : Int) (a10 : Int) (a11 : Int) (a12 : Int) : Prop :=
  (sK S a0 = 10) ∧
  (sK S (sR S a0 5) = 20) ∧
  ((0 : Int) < (sN S (sR S a0 5) : Int)) ∧
  ((G (sR S a0 5) 0 ≤ a12) →
    Go d MX10_window 161 [some (vR a0), some (vI a1), some (vI a2), some (vI a3), some (vI a4), some (vI a5), some (vI a6), some (vJ a7), none, some (vI a9), some (vI a10), some (vI a11), some (vI 0), none, none, none] [] S F G Q) ∧
  ((¬ G (sR S a0 5) 0 ≤ a12) →
    (sK S (sR S a0 49) = 20) ∧
    ((0 : Int) ≤ a11) ∧
    ((a11 : Int) < (sN S (sR S a0 49) : Int)) ∧
    (r32 ((G (sR S a0 49) a11) + a3)) ∧
    (r32 (((G (sR S a0 49) a11) + a3) - 1)) ∧
    (1 ≤ d) ∧
    Ok (d - 1) MX10_downSum [vR a0, vI a1, vI a12, vI (G (sR S a0 49) a11), vI (((G (sR S a0 49) a11) + a3) - 1)] S F G (fun w10 S11 F12 G13 =>
    ∃ z14 : Int, w10 = some (vJ z14) ∧
    (sK S11 (sR S a0 50) = 21) ∧
    ((0 : Int) ≤ a12) ∧
    ((a12 : Int) < (sN S11 (sR S a0 50) : Int)) ∧
    ∀ G18 : AG, G18 = gu G13 (sR S a0 50) a12 z14 →
    (r32 (a12 + 1)) ∧
    Go d MX10_window 109 [some (vR a0), some (vI a1), some (vI a2), some (vI a3), some (vI a4), some (vI a5), some (vI a6), some (vJ a7), none, some (vI a9), some (vI a10), some (vI a11), some (vI (a12 + 1)), none, none, none] [] S11 F12 G18 Q))
theorem R_X10_window_109 {d : Nat} {S : AS} {F : AF} {G : AG} {Q : AQ} {a0 : Nat} {a1 : Int} {a2 : Int} {a3 : Int} {a4 : Int} {a5 : Int} {a6 : Int} {a7 : Int} {a9 : Int} {a10 : Int} {a11 : Int} {a12 : Int} (h : V_X10_window_109 d S F G Q a0 a1 a2 a3 a4 a5 a6 a7 a9 a10 a11 a12) : Go d MX10_window 109 [some (vR a0), some (vI a1), some (vI a2), some (vI a3), some (vI a4), some (vI a5), some (vI a6), some (vJ a7), none, some (vI a9), some (vI a10), some (vI a11), some (vI a12), none, none, none] [] S F G Q := by
  unfold V_X10_window_109 at h
  refine go_iload (show decode cX10_window 109 = .ok (.iload 12, 2) by decide +kernel) (by rfl) ?_
  refine go_aload_n (show decode cX10_window 111 = .ok (.aload_n 0, 1) by decide +kernel) (by rfl) ?_
  obtain ⟨q1, h⟩ := h
  refine go_getR (show decode cX10_window 112 = .ok (.getfield 29, 3) by decide +kernel) fl_X10_29 rfl q1 ?_
  refine go_iconst (show decode cX10_window 115 = .ok (.iconst 0, 1) by decide +kernel) (by decide) ?_
  obtain ⟨q2, h⟩ := h
  obtain ⟨q3, h⟩ := h
  refine go_iaload (show decode cX10_window 116 = .ok (.iaload, 1) by decide +kernel) q2 (by decide) q3 ?_
  obtain ⟨ht, hf⟩ := h
  refine go_icmpge (tgt := 158) (show decode cX10_window 117 = .ok (.if_icmp .ge 41, 3) by decide +kernel) (by decide) (fun hc => ?_) (fun hc => ?_)
  · have h := ht hc
    refine go_iconst (show decode cX10_window 158 = .ok (.iconst 0, 1) by decide +kernel) (by decide) ?_
    refine go_istore (show decode cX10_window 159 = .ok (.istore 12, 2) by decide +kernel) (by decide) ?_
    show Go d MX10_window 161 [some (vR a0), some (vI a1), some (vI a2), some (vI a3), some (vI a4), some (vI a5), some (vI a6), some (vJ a7), none, some (vI a9), some (vI a10), some (vI a11), some (vI 0), none, none, none] [] S F G Q
    exact h
  · have h := hf hc
    refine go_aload_n (show decode cX10_window 120 = .ok (.aload_n 0, 1) by decide +kernel) (by rfl) ?_
    refine go_getR (show decode cX10_window 121 = .ok (.getfield 102, 3) by decide +kernel) fl_X10_102 rfl q1 ?_
    refine go_iload (show decode cX10_window 124 = .ok (.iload 12, 2) by decide +kernel) (by rfl) ?_
    refine go_aload_n (show decode cX10_window 126 = .ok (.aload_n 0, 1) by decide +kernel) (by rfl) ?_
    refine go_iload_n (show decode cX10_window 127 = .ok (.iload_n 1, 1) by decide +kernel) (by rfl) ?_
    refine go_iload (show decode cX10_window 128 = .ok (.iload 12, 2) by decide +kernel) (by rfl) ?_
    refine go_aload_n (show decode cX10_window 130 = .ok (.aload_n 0, 1) by decide +kernel) (by rfl) ?_
    refine go_getR (show decode cX10_window 131 = .ok (.getfield 99, 3) by decide +kernel) fl_X10_99 rfl q1 ?_
    refine go_iload (show decode cX10_window 134 = .ok (.iload 11, 2) by decide +kernel) (by rfl) ?_
    obtain ⟨q4, h⟩ := h
    obtain ⟨q5, h⟩ := h
    obtain ⟨q6, h⟩ := h
    refine go_iaload (show decode cX10_window 136 = .ok (.iaload, 1) by decide +kernel) q4 q5 q6 ?_
    refine go_aload_n (show decode cX10_window 137 = .ok (.aload_n 0, 1) by decide +kernel) (by rfl) ?_
    refine go_getR (show decode cX10_window 138 = .ok (.getfield 99, 3) by decide +kernel) fl_X10_99 rfl q1 ?_
    refine go_iload (show decode cX10_window 141 = .ok (.iload 11, 2) by decide +kernel) (by rfl) ?_
    refine go_iaload (show decode cX10_window 143 = .ok (.iaload, 1) by decide +kernel) q4 q5 q6 ?_
    refine go_iload_n (show decode cX10_window 144 = .ok (.iload_n 3, 1) by decide +kernel) (by rfl) ?_
    obtain ⟨q7, h⟩ := h
    refine go_iadd (show decode cX10_window 145 = .ok (.iadd, 1) by decide +kernel) q7 ?_
    refine go_iconst (show decode cX10_window 146 = .ok (.iconst 1, 1) by decide +kernel) (by decide) ?_
    obtain ⟨q8, h⟩ := h
    refine go_isub (show decode cX10_window 147 = .ok (.isub, 1) by decide +kernel) q8 ?_
    obtain ⟨q9, h⟩ := h
    refine go_callV (d2 := d - 1) (M2 := MX10_downSum) (n := 4) (ci := 10) (av := [vI a1, vI a12, vI (G (sR S a0 49) a11), vI (((G (sR S a0 49) a11) + a3) - 1)]) (st := [vI a12, vR (sR S a0 50)]) (show decode cX10_window 148 = .ok (.invokevirtual 230, 3) by decide +kernel) ml_X10_230 mt_X10_downSum min_X10_downSum mse_X10_downSum (by decide) q1 rfl (Nat.le_of_ble_eq_true rfl) (by omega) (ok_mono h (fun w10 S11 F12 G13 h => ?_))
    obtain ⟨z14, e9, h⟩ := h
    subst e9
    show Go d MX10_window 151 [some (vR a0), some (vI a1), some (vI a2), some (vI a3), some (vI a4), some (vI a5), some (vI a6), some (vJ a7), none, some (vI a9), some (vI a10), some (vI a11), some (vI a12), none, none, none] [vJ z14, vI a12, vR (sR S a0 50)] S11 F12 G13 Q
    obtain ⟨q15, h⟩ := h
    obtain ⟨q16, h⟩ := h
    obtain ⟨q17, h⟩ := h
    refine go_lastore (show decode cX10_window 151 = .ok (.lastore, 1) by decide +kernel) q15 q16 q17  ?_
    obtain ⟨G18, G18e⟩ : ∃ G18 : AG, G18 = gu G13 (sR S a0 50) a12 z14 := ⟨_, rfl⟩
    have h := h G18 G18e
    rw [← G18e]
    obtain ⟨q19, h⟩ := h
    refine go_iinc (show decode cX10_window 152 = .ok (.iinc 12 1, 3) by decide +kernel) (by rfl) q19 (by decide) ?_
    show Go d MX10_window 155 [some (vR a0), some (vI a1), some (vI a2), some (vI a3), some (vI a4), some (vI a5), some (vI a6), some (vJ a7), none, some (vI a9), some (vI a10), some (vI a11), some (vI (a12 + 1)), none, none, none] [] S11 F12 G18 Q
    refine go_goto (tgt := 109) (show decode cX10_window 155 = .ok (.goto (-46), 3) by decide +kernel) (by decide) ?_
    exact h
def V_X10_window_99 (d : Nat) (S : AS) (F : AF) (G : AG) (Q : AQ) (a0 : Nat) (a1 : Int) (a2 : Int) (a3 : Int) (a4 : Int) (a5 : Int) (a6 : Int) (a7 : Int) (a9 : Int) (a10 : Int) (a11 : Int) : Prop :=
  ((a6 ≤ a11) →
    ((¬ a4 = 0) →
      ((¬ a4 = 1) →
        Q (some (vJ a7)) S F G) ∧
      ((a4 = 1) →
        Q (some (vJ a10)) S F G)) ∧
    ((a4 = 0) →
      Q (some (vJ a9)) S F G)) ∧
  ((¬ a6 ≤ a11) →
    Go d MX10_window 109 [some (vR a0), some (vI a1), some (vI a2), some (vI a3), some (vI a4), some (vI a5), some (vI a6), some (vJ a7), none, some (vI a9), some (vI a10), some (vI a11), some (vI 0), none, none, none] [] S F G Q)
theorem R_X10_window_99 {d : Nat} {S : AS} {F : AF} {G : AG} {Q : AQ} {a0 : Nat} {a1 : Int} {a2 : Int} {a3 : Int} {a4 : Int} {a5 : Int} {a6 : Int} {a7 : Int} {a9 : Int} {a10 : Int} {a11 : Int} (h : V_X10_window_99 d S F G Q a0 a1 a2 a3 a4 a5 a6 a7 a9 a10 a11) : Go d MX10_window 99 [some (vR a0), some (vI a1), some (vI a2), some (vI a3), some (vI a4), some (vI a5), some (vI a6), some (vJ a7), none, some (vI a9), some (vI a10), some (vI a11), none, none, none, none] [] S F G Q := by
  unfold V_X10_window_99 at h
  refine go_iload (show decode cX10_window 99 = .ok (.iload 11, 2) by decide +kernel) (by rfl) ?_
  refine go_iload (show decode cX10_window 101 = .ok (.iload 6, 2) by decide +kernel) (by rfl) ?_
  obtain ⟨ht, hf⟩ := h
  refine go_icmpge (tgt := 275) (show decode cX10_window 103 = .ok (.if_icmp .ge 172, 3) by decide +kernel) (by decide) (fun hc => ?_) (fun hc => ?_)
  · have h := ht hc
    refine go_iload (show decode cX10_window 275 = .ok (.iload 4, 2) by decide +kernel) (by rfl) ?_
    obtain ⟨ht, hf⟩ := h
    refine go_ifne (tgt := 286) (show decode cX10_window 277 = .ok (.ifCond .ne 9, 3) by decide +kernel) (by decide) (fun hc => ?_) (fun hc => ?_)
    · have h := ht hc
      refine go_iload (show decode cX10_window 286 = .ok (.iload 4, 2) by decide +kernel) (by rfl) ?_
      refine go_iconst (show decode cX10_window 288 = .ok (.iconst 1, 1) by decide +kernel) (by decide) ?_
      obtain ⟨ht, hf⟩ := h
      refine go_icmpne (tgt := 298) (show decode cX10_window 289 = .ok (.if_icmp .ne 9, 3) by decide +kernel) (by decide) (fun hc => ?_) (fun hc => ?_)
      · have h := ht hc
        refine go_lload (show decode cX10_window 298 = .ok (.lload 7, 2) by decide +kernel) (by rfl) ?_
        exact go_lret (show decode cX10_window 300 = .ok (.lreturn, 1) by decide +kernel) rfl h
      · have h := hf hc
        refine go_iload (show decode cX10_window 292 = .ok (.iload 10, 2) by decide +kernel) (by rfl) ?_
        refine go_i2l (show decode cX10_window 294 = .ok (.i2l, 1) by decide +kernel) ?_
        refine go_goto (tgt := 300) (show decode cX10_window 295 = .ok (.goto 5, 3) by decide +kernel) (by decide) ?_
        exact go_lret (show decode cX10_window 300 = .ok (.lreturn, 1) by decide +kernel) rfl h
    · have h := hf hc
      refine go_iload (show decode cX10_window 280 = .ok (.iload 9, 2) by decide +kernel) (by rfl) ?_
      refine go_i2l (show decode cX10_window 282 = .ok (.i2l, 1) by decide +kernel) ?_
      refine go_goto (tgt := 300) (show decode cX10_window 283 = .ok (.goto 17, 3) by decide +kernel) (by decide) ?_
      exact go_lret (show decode cX10_window 300 = .ok (.lreturn, 1) by decide +kernel) rfl h
  · have h := hf hc
    refine go_iconst (show decode cX10_window 106 = .ok (.iconst 0, 1) by decide +kernel) (by decide) ?_
    refine go_istore (show decode cX10_window 107 = .ok (.istore 12, 2) by decide +kernel) (by decide) ?_
    show Go d MX10_window 109 [some (vR a0), some (vI a1), some (vI a2), some (vI a3), some (vI a4), some (vI a5), some (vI a6), some (vJ a7), none, some (vI a9), some (vI a10), some (vI a11), some (vI 0), none, none, none] [] S F G Q
    exact h
def V_X10_window_0 (d : Nat) (S : AS) (F : AF) (G : AG) (Q : AQ) (a0 : Nat) (a1 : Int) (a2 : Int) (a3 : Int) (a4 : Int) : Prop :=
  (sK S a0 = 10) ∧
  ∀ F2 : AF, F2 = fu F a0 0 0 →
  (1 ≤ d) ∧
  Ok (d - 1) MX10_isGood [vI a1] S F2 G (fun w4 S5 F6 G7 =>
  ∃ z8 : Int, w4 = some (vI z8) ∧
  ((z8 = 0) →
    Q (some (vJ (-2))) S5 F6 G7) ∧
  ((¬ z8 = 0) →
    Ok (d - 1) MX10_isIn [vJ a4, vJ 0, vJ 2] S5 F6 G7 (fun w9 S10 F11 G12 =>
    ∃ z13 : Int, w9 = some (vI z13) ∧
    ((¬ z13 = 0) →
      (sK S10 a0 = 10) ∧
      Ok (d - 1) MX10_isIn [vJ a2, vJ 1, vJ (F11 a0 1)] S10 F11 G12 (fun w15 S16 F17 G18 =>
      ∃ z19 : Int, w15 = some (vI z19) ∧
      ((z19 = 0) →
        Q (some (vJ (-3))) S16 F17 G18) ∧
      ((¬ z19 = 0) →
        (sK S16 a0 = 10) ∧
        Ok (d - 1) MX10_isIn [vJ a3, vJ 1, vJ (F17 a0 2)] S16 F17 G18 (fun w21 S22 F23 G24 =>
        ∃ z25 : Int, w21 = some (vI z25) ∧
        ((¬ z25 = 0) →
          (sK S22 a0 = 10) ∧
          Ok (d - 1) MX10_laysPlaces [vR a0, vI 0, vI a2, vR (sR S22 a0 48)] S22 F23 G24 (fun w27 S28 F29 G30 =>
          ∃ z31 : Int, w27 = some (vI z31) ∧
          (sK S28 a0 = 10) ∧
          Ok (d - 1) MX10_laysPlaces [vR a0, vI 1, vI a3, vR (sR S28 a0 49)] S28 F29 G30 (fun w33 S34 F35 G36 =>
          ∃ z37 : Int, w33 = some (vI z37) ∧
          Go d MX10_window 99 [some (vR a0), some (vI a1), some (vI a2), some (vI a3), some (vI a4), some (vI z31), some (vI z37), some (vJ (-1)), none, some (vI 0), some (vI 0), some (vI 0), none, none, none, none] [] S34 F35 G36 Q))) ∧
        ((z25 = 0) →
          Q (some (vJ (-3))) S22 F23 G24))))) ∧
    ((z13 = 0) →
      Q (some (vJ (-2))) S10 F11 G12))))
theorem R_X10_window_0 {d : Nat} {S : AS} {F : AF} {G : AG} {Q : AQ} {a0 : Nat} {a1 : Int} {a2 : Int} {a3 : Int} {a4 : Int} (h : V_X10_window_0 d S F G Q a0 a1 a2 a3 a4) : Go d MX10_window 0 [some (vR a0), some (vI a1), some (vI a2), some (vI a3), some (vI a4), none, none, none, none, none, none, none, none, none, none, none] [] S F G Q := by
  unfold V_X10_window_0 at h
  refine go_aload_n (show decode cX10_window 0 = .ok (.aload_n 0, 1) by decide +kernel) (by rfl) ?_
  refine go_iconst (show decode cX10_window 1 = .ok (.iconst 0, 1) by decide +kernel) (by decide) ?_
  obtain ⟨q1, h⟩ := h
  refine go_putI (show decode cX10_window 2 = .ok (.putfield 1, 3) by decide +kernel) fl_X10_1 rfl (Or.inl rfl) q1 ?_
  obtain ⟨F2, F2e⟩ : ∃ F2 : AF, F2 = fu F a0 0 0 := ⟨_, rfl⟩
  have h := h F2 F2e
  rw [← F2e]
  refine go_iload_n (show decode cX10_window 5 = .ok (.iload_n 1, 1) by decide +kernel) (by rfl) ?_
  obtain ⟨q3, h⟩ := h
  refine go_callS (d2 := d - 1) (M2 := MX10_isGood) (n := 1) (av := [vI a1]) (st := []) (show decode cX10_window 6 = .ok (.invokestatic 167, 3) by decide +kernel) ml_X10_167 mt_X10_isGood mst_X10_isGood rfl (Nat.le_of_ble_eq_true rfl) (by omega) (ok_mono h (fun w4 S5 F6 G7 h => ?_))
  obtain ⟨z8, e9, h⟩ := h
  subst e9
  show Go d MX10_window 9 [some (vR a0), some (vI a1), some (vI a2), some (vI a3), some (vI a4), none, none, none, none, none, none, none, none, none, none, none] [vI z8] S5 F6 G7 Q
  obtain ⟨ht, hf⟩ := h
  refine go_ifeq (tgt := 25) (show decode cX10_window 9 = .ok (.ifCond .eq 16, 3) by decide +kernel) (by decide) (fun hc => ?_) (fun hc => ?_)
  · have h := ht hc
    refine go_ldc2 (show decode cX10_window 25 = .ok (.ldc2_w 174, 3) by decide +kernel) lc_X10_174 (by decide) ?_
    exact go_lret (show decode cX10_window 28 = .ok (.lreturn, 1) by decide +kernel) rfl h
  · have h := hf hc
    refine go_iload (show decode cX10_window 12 = .ok (.iload 4, 2) by decide +kernel) (by rfl) ?_
    refine go_i2l (show decode cX10_window 14 = .ok (.i2l, 1) by decide +kernel) ?_
    refine go_lconst (n := 0) (show decode cX10_window 15 = .ok (.lconst 0, 1) by decide +kernel) ?_
    show Go d MX10_window 16 [some (vR a0), some (vI a1), some (vI a2), some (vI a3), some (vI a4), none, none, none, none, none, none, none, none, none, none, none] [vJ 0, vJ a4] S5 F6 G7 Q
    refine go_ldc2 (show decode cX10_window 16 = .ok (.ldc2_w 157, 3) by decide +kernel) lc_X10_157 (by decide) ?_
    refine go_callS (d2 := d - 1) (M2 := MX10_isIn) (n := 3) (av := [vJ a4, vJ 0, vJ 2]) (st := []) (show decode cX10_window 19 = .ok (.invokestatic 116, 3) by decide +kernel) ml_X10_116 mt_X10_isIn mst_X10_isIn rfl (Nat.le_of_ble_eq_true rfl) (by omega) (ok_mono h (fun w9 S10 F11 G12 h => ?_))
    obtain ⟨z13, e9, h⟩ := h
    subst e9
    show Go d MX10_window 22 [some (vR a0), some (vI a1), some (vI a2), some (vI a3), some (vI a4), none, none, none, none, none, none, none, none, none, none, none] [vI z13] S10 F11 G12 Q
    obtain ⟨ht, hf⟩ := h
    refine go_ifne (tgt := 29) (show decode cX10_window 22 = .ok (.ifCond .ne 7, 3) by decide +kernel) (by decide) (fun hc => ?_) (fun hc => ?_)
    · have h := ht hc
      refine go_iload_n (show decode cX10_window 29 = .ok (.iload_n 2, 1) by decide +kernel) (by rfl) ?_
      refine go_i2l (show decode cX10_window 30 = .ok (.i2l, 1) by decide +kernel) ?_
      refine go_lconst (n := 1) (show decode cX10_window 31 = .ok (.lconst 1, 1) by decide +kernel) ?_
      show Go d MX10_window 32 [some (vR a0), some (vI a1), some (vI a2), some (vI a3), some (vI a4), none, none, none, none, none, none, none, none, none, none, none] [vJ 1, vJ a2] S10 F11 G12 Q
      refine go_aload_n (show decode cX10_window 32 = .ok (.aload_n 0, 1) by decide +kernel) (by rfl) ?_
      obtain ⟨q14, h⟩ := h
      refine go_getI (show decode cX10_window 33 = .ok (.getfield 13, 3) by decide +kernel) fl_X10_13 (Or.inl rfl) q14 ?_
      refine go_i2l (show decode cX10_window 36 = .ok (.i2l, 1) by decide +kernel) ?_
      refine go_callS (d2 := d - 1) (M2 := MX10_isIn) (n := 3) (av := [vJ a2, vJ 1, vJ (F11 a0 1)]) (st := []) (show decode cX10_window 37 = .ok (.invokestatic 116, 3) by decide +kernel) ml_X10_116 mt_X10_isIn mst_X10_isIn rfl (Nat.le_of_ble_eq_true rfl) (by omega) (ok_mono h (fun w15 S16 F17 G18 h => ?_))
      obtain ⟨z19, e9, h⟩ := h
      subst e9
      show Go d MX10_window 40 [some (vR a0), some (vI a1), some (vI a2), some (vI a3), some (vI a4), none, none, none, none, none, none, none, none, none, none, none] [vI z19] S16 F17 G18 Q
      obtain ⟨ht, hf⟩ := h
      refine go_ifeq (tgt := 57) (show decode cX10_window 40 = .ok (.ifCond .eq 17, 3) by decide +kernel) (by decide) (fun hc => ?_) (fun hc => ?_)
      · have h := ht hc
        refine go_ldc2 (show decode cX10_window 57 = .ok (.ldc2_w 120, 3) by decide +kernel) lc_X10_120 (by decide) ?_
        exact go_lret (show decode cX10_window 60 = .ok (.lreturn, 1) by decide +kernel) rfl h
      · have h := hf hc
        refine go_iload_n (show decode cX10_window 43 = .ok (.iload_n 3, 1) by decide +kernel) (by rfl) ?_
        refine go_i2l (show decode cX10_window 44 = .ok (.i2l, 1) by decide +kernel) ?_
        refine go_lconst (n := 1) (show decode cX10_window 45 = .ok (.lconst 1, 1) by decide +kernel) ?_
        show Go d MX10_window 46 [some (vR a0), some (vI a1), some (vI a2), some (vI a3), some (vI a4), none, none, none, none, none, none, none, none, none, none, none] [vJ 1, vJ a3] S16 F17 G18 Q
        refine go_aload_n (show decode cX10_window 46 = .ok (.aload_n 0, 1) by decide +kernel) (by rfl) ?_
        obtain ⟨q20, h⟩ := h
        refine go_getI (show decode cX10_window 47 = .ok (.getfield 16, 3) by decide +kernel) fl_X10_16 (Or.inl rfl) q20 ?_
        refine go_i2l (show decode cX10_window 50 = .ok (.i2l, 1) by decide +kernel) ?_
        refine go_callS (d2 := d - 1) (M2 := MX10_isIn) (n := 3) (av := [vJ a3, vJ 1, vJ (F17 a0 2)]) (st := []) (show decode cX10_window 51 = .ok (.invokestatic 116, 3) by decide +kernel) ml_X10_116 mt_X10_isIn mst_X10_isIn rfl (Nat.le_of_ble_eq_true rfl) (by omega) (ok_mono h (fun w21 S22 F23 G24 h => ?_))
        obtain ⟨z25, e9, h⟩ := h
        subst e9
        show Go d MX10_window 54 [some (vR a0), some (vI a1), some (vI a2), some (vI a3), some (vI a4), none, none, none, none, none, none, none, none, none, none, none] [vI z25] S22 F23 G24 Q
        obtain ⟨ht, hf⟩ := h
        refine go_ifne (tgt := 61) (show decode cX10_window 54 = .ok (.ifCond .ne 7, 3) by decide +kernel) (by decide) (fun hc => ?_) (fun hc => ?_)
        · have h := ht hc
          refine go_aload_n (show decode cX10_window 61 = .ok (.aload_n 0, 1) by decide +kernel) (by rfl) ?_
          refine go_iconst (show decode cX10_window 62 = .ok (.iconst 0, 1) by decide +kernel) (by decide) ?_
          refine go_iload_n (show decode cX10_window 63 = .ok (.iload_n 2, 1) by decide +kernel) (by rfl) ?_
          refine go_aload_n (show decode cX10_window 64 = .ok (.aload_n 0, 1) by decide +kernel) (by rfl) ?_
          obtain ⟨q26, h⟩ := h
          refine go_getR (show decode cX10_window 65 = .ok (.getfield 96, 3) by decide +kernel) fl_X10_96 rfl q26 ?_
          refine go_callV (d2 := d - 1) (M2 := MX10_laysPlaces) (n := 3) (ci := 10) (av := [vI 0, vI a2, vR (sR S22 a0 48)]) (st := []) (show decode cX10_window 68 = .ok (.invokevirtual 453, 3) by decide +kernel) ml_X10_453 mt_X10_laysPlaces min_X10_laysPlaces mse_X10_laysPlaces (by decide) q26 rfl (Nat.le_of_ble_eq_true rfl) (by omega) (ok_mono h (fun w27 S28 F29 G30 h => ?_))
          obtain ⟨z31, e9, h⟩ := h
          subst e9
          show Go d MX10_window 71 [some (vR a0), some (vI a1), some (vI a2), some (vI a3), some (vI a4), none, none, none, none, none, none, none, none, none, none, none] [vI z31] S28 F29 G30 Q
          refine go_istore (show decode cX10_window 71 = .ok (.istore 5, 2) by decide +kernel) (by decide) ?_
          show Go d MX10_window 73 [some (vR a0), some (vI a1), some (vI a2), some (vI a3), some (vI a4), some (vI z31), none, none, none, none, none, none, none, none, none, none] [] S28 F29 G30 Q
          refine go_aload_n (show decode cX10_window 73 = .ok (.aload_n 0, 1) by decide +kernel) (by rfl) ?_
          refine go_iconst (show decode cX10_window 74 = .ok (.iconst 1, 1) by decide +kernel) (by decide) ?_
          refine go_iload_n (show decode cX10_window 75 = .ok (.iload_n 3, 1) by decide +kernel) (by rfl) ?_
          refine go_aload_n (show decode cX10_window 76 = .ok (.aload_n 0, 1) by decide +kernel) (by rfl) ?_
          obtain ⟨q32, h⟩ := h
          refine go_getR (show decode cX10_window 77 = .ok (.getfield 99, 3) by decide +kernel) fl_X10_99 rfl q32 ?_
          refine go_callV (d2 := d - 1) (M2 := MX10_laysPlaces) (n := 3) (ci := 10) (av := [vI 1, vI a3, vR (sR S28 a0 49)]) (st := []) (show decode cX10_window 80 = .ok (.invokevirtual 453, 3) by decide +kernel) ml_X10_453 mt_X10_laysPlaces min_X10_laysPlaces mse_X10_laysPlaces (by decide) q32 rfl (Nat.le_of_ble_eq_true rfl) (by omega) (ok_mono h (fun w33 S34 F35 G36 h => ?_))
          obtain ⟨z37, e9, h⟩ := h
          subst e9
          show Go d MX10_window 83 [some (vR a0), some (vI a1), some (vI a2), some (vI a3), some (vI a4), some (vI z31), none, none, none, none, none, none, none, none, none, none] [vI z37] S34 F35 G36 Q
          refine go_istore (show decode cX10_window 83 = .ok (.istore 6, 2) by decide +kernel) (by decide) ?_
          show Go d MX10_window 85 [some (vR a0), some (vI a1), some (vI a2), some (vI a3), some (vI a4), some (vI z31), some (vI z37), none, none, none, none, none, none, none, none, none] [] S34 F35 G36 Q
          refine go_ldc2 (show decode cX10_window 85 = .ok (.ldc2_w 311, 3) by decide +kernel) lc_X10_311 (by decide) ?_
          refine go_lstore (show decode cX10_window 88 = .ok (.lstore 7, 2) by decide +kernel) (by decide) ?_
          show Go d MX10_window 90 [some (vR a0), some (vI a1), some (vI a2), some (vI a3), some (vI a4), some (vI z31), some (vI z37), some (vJ (-1)), none, none, none, none, none, none, none, none] [] S34 F35 G36 Q
          refine go_iconst (show decode cX10_window 90 = .ok (.iconst 0, 1) by decide +kernel) (by decide) ?_
          refine go_istore (show decode cX10_window 91 = .ok (.istore 9, 2) by decide +kernel) (by decide) ?_
          show Go d MX10_window 93 [some (vR a0), some (vI a1), some (vI a2), some (vI a3), some (vI a4), some (vI z31), some (vI z37), some (vJ (-1)), none, some (vI 0), none, none, none, none, none, none] [] S34 F35 G36 Q
          refine go_iconst (show decode cX10_window 93 = .ok (.iconst 0, 1) by decide +kernel) (by decide) ?_
          refine go_istore (show decode cX10_window 94 = .ok (.istore 10, 2) by decide +kernel) (by decide) ?_
          show Go d MX10_window 96 [some (vR a0), some (vI a1), some (vI a2), some (vI a3), some (vI a4), some (vI z31), some (vI z37), some (vJ (-1)), none, some (vI 0), some (vI 0), none, none, none, none, none] [] S34 F35 G36 Q
          refine go_iconst (show decode cX10_window 96 = .ok (.iconst 0, 1) by decide +kernel) (by decide) ?_
          refine go_istore (show decode cX10_window 97 = .ok (.istore 11, 2) by decide +kernel) (by decide) ?_
          show Go d MX10_window 99 [some (vR a0), some (vI a1), some (vI a2), some (vI a3), some (vI a4), some (vI z31), some (vI z37), some (vJ (-1)), none, some (vI 0), some (vI 0), some (vI 0), none, none, none, none] [] S34 F35 G36 Q
          exact h
        · have h := hf hc
          refine go_ldc2 (show decode cX10_window 57 = .ok (.ldc2_w 120, 3) by decide +kernel) lc_X10_120 (by decide) ?_
          exact go_lret (show decode cX10_window 60 = .ok (.lreturn, 1) by decide +kernel) rfl h
    · have h := hf hc
      refine go_ldc2 (show decode cX10_window 25 = .ok (.ldc2_w 174, 3) by decide +kernel) lc_X10_174 (by decide) ?_
      exact go_lret (show decode cX10_window 28 = .ok (.lreturn, 1) by decide +kernel) rfl h
def V_X10_laysPlaces_91 (d : Nat) (S : AS) (F : AF) (G : AG) (Q : AQ) (a0 : Nat) (a1 : Int) (a2 : Int) (a3 : Nat) (a4 : Int) (a5 : Int) (a6 : Int) (a7 : Int) (a8 : Int) (a9 : Int) : Prop :=
  (r32 (a8 + 1)) ∧
  Go d MX10_laysPlaces 29 [some (vR a0), some (vI a1), some (vI a2), some (vR a3), some (vI a4), some (vI a5), some (vI a6), some (vI a7), some (vI (a8 + 1)), none] [] S F G Q
theorem R_X10_laysPlaces_91 {d : Nat} {S : AS} {F : AF} {G : AG} {Q : AQ} {a0 : Nat} {a1 : Int} {a2 : Int} {a3 : Nat} {a4 : Int} {a5 : Int} {a6 : Int} {a7 : Int} {a8 : Int} {a9 : Int} (h : V_X10_laysPlaces_91 d S F G Q a0 a1 a2 a3 a4 a5 a6 a7 a8 a9) : Go d MX10_laysPlaces 91 [some (vR a0), some (vI a1), some (vI a2), some (vR a3), some (vI a4), some (vI a5), some (vI a6), some (vI a7), some (vI a8), some (vI a9)] [] S F G Q := by
  unfold V_X10_laysPlaces_91 at h
  obtain ⟨q1, h⟩ := h
  refine go_iinc (show decode cX10_laysPlaces 91 = .ok (.iinc 8 1, 3) by decide +kernel) (by rfl) q1 (by decide) ?_
  show Go d MX10_laysPlaces 94 [some (vR a0), some (vI a1), some (vI a2), some (vR a3), some (vI a4), some (vI a5), some (vI a6), some (vI a7), some (vI (a8 + 1)), some (vI a9)] [] S F G Q
  refine go_goto (tgt := 29) (show decode cX10_laysPlaces 94 = .ok (.goto (-65), 3) by decide +kernel) (by decide) ?_
  refine go_clr 9 ?_
  exact h
def V_X10_laysPlaces_67 (d : Nat) (S : AS) (F : AF) (G : AG) (Q : AQ) (a0 : Nat) (a1 : Int) (a2 : Int) (a3 : Nat) (a4 : Int) (a5 : Int) (a6 : Int) (a7 : Int) (a8 : Int) (a9 : Int) : Prop :=
  (r32 (a9 - a2)) ∧
  ((a9 - a2 ≤ a6) →
    V_X10_laysPlaces_91 d S F G Q a0 a1 a2 a3 a4 a5 a6 a7 a8 a9) ∧
  ((¬ a9 - a2 ≤ a6) →
    ((a7 ≤ a9 - a2) →
      V_X10_laysPlaces_91 d S F G Q a0 a1 a2 a3 a4 a5 a6 a7 a8 a9) ∧
    ((¬ a7 ≤ a9 - a2) →
      ∀ x2 : Int, x2 = a9 - a2 →
      V_X10_laysPlaces_91 d S F G Q a0 a1 a2 a3 a4 a5 a6 x2 a8 a9))
theorem R_X10_laysPlaces_67 {d : Nat} {S : AS} {F : AF} {G : AG} {Q : AQ} {a0 : Nat} {a1 : Int} {a2 : Int} {a3 : Nat} {a4 : Int} {a5 : Int} {a6 : Int} {a7 : Int} {a8 : Int} {a9 : Int} (h : V_X10_laysPlaces_67 d S F G Q a0 a1 a2 a3 a4 a5 a6 a7 a8 a9) : Go d MX10_laysPlaces 67 [some (vR a0), some (vI a1), some (vI a2), some (vR a3), some (vI a4), some (vI a5), some (vI a6), some (vI a7), some (vI a8), some (vI a9)] [] S F G Q := by
  unfold V_X10_laysPlaces_67 at h
  refine go_iload (show decode cX10_laysPlaces 67 = .ok (.iload 9, 2) by decide +kernel) (by rfl) ?_
  refine go_iload_n (show decode cX10_laysPlaces 69 = .ok (.iload_n 2, 1) by decide +kernel) (by rfl) ?_
  obtain ⟨q1, h⟩ := h
  refine go_isub (show decode cX10_laysPlaces 70 = .ok (.isub, 1) by decide +kernel) q1 ?_
  refine go_iload (show decode cX10_laysPlaces 71 = .ok (.iload 6, 2) by decide +kernel) (by rfl) ?_
  obtain ⟨ht, hf⟩ := h
  refine go_icmple (tgt := 91) (show decode cX10_laysPlaces 73 = .ok (.if_icmp .le 18, 3) by decide +kernel) (by decide) (fun hc => ?_) (fun hc => ?_)
  · have h := ht hc
    exact R_X10_laysPlaces_91 h
  · have h := hf hc
    refine go_iload (show decode cX10_laysPlaces 76 = .ok (.iload 9, 2) by decide +kernel) (by rfl) ?_
    refine go_iload_n (show decode cX10_laysPlaces 78 = .ok (.iload_n 2, 1) by decide +kernel) (by rfl) ?_
    refine go_isub (show decode cX10_laysPlaces 79 = .ok (.isub, 1) by decide +kernel) q1 ?_
    refine go_iload (show decode cX10_laysPlaces 80 = .ok (.iload 7, 2) by decide +kernel) (by rfl) ?_
    obtain ⟨ht, hf⟩ := h
    refine go_icmpge (tgt := 91) (show decode cX10_laysPlaces 82 = .ok (.if_icmp .ge 9, 3) by decide +kernel) (by decide) (fun hc => ?_) (fun hc => ?_)
    · have h := ht hc
      exact R_X10_laysPlaces_91 h
    · have h := hf hc
      refine go_iload (show decode cX10_laysPlaces 85 = .ok (.iload 9, 2) by decide +kernel) (by rfl) ?_
      refine go_iload_n (show decode cX10_laysPlaces 87 = .ok (.iload_n 2, 1) by decide +kernel) (by rfl) ?_
      refine go_isub (show decode cX10_laysPlaces 88 = .ok (.isub, 1) by decide +kernel) q1 ?_
      obtain ⟨x2, x2e⟩ : ∃ x2 : Int, x2 = a9 - a2 := ⟨_, rfl⟩
      have h := h x2 x2e
      rw [← x2e]
      refine go_istore (show decode cX10_laysPlaces 89 = .ok (.istore 7, 2) by decide +kernel) (by decide) ?_
      show Go d MX10_laysPlaces 91 [some (vR a0), some (vI a1), some (vI a2), some (vR a3), some (vI a4), some (vI a5), some (vI a6), some (vI x2), some (vI a8), some (vI a9)] [] S F G Q
      exact R_X10_laysPlaces_91 h
def V_X10_laysPlaces_29 (d : Nat) (S : AS) (F : AF) (G : AG) (Q : AQ) (a0 : Nat) (a1 : Int) (a2 : Int) (a3 : Nat) (a4 : Int) (a5 : Int) (a6 : Int) (a7 : Int) (a8 : Int) : Prop :=
  (sK S a0 = 10) ∧
  (sK S (sR S a0 5) = 20) ∧
  ((0 : Int) ≤ a1) ∧
  ((a1 : Int) < (sN S (sR S a0 5) : Int)) ∧
  ((G (sR S a0 5) a1 < a8) →
    (sK S a3 = 20) ∧
    ((0 : Int) ≤ a5) ∧
    ((a5 : Int) < (sN S a3 : Int)) ∧
    ∀ G8 : AG, G8 = gu G a3 a5 a7 →
    (r32 (a5 + 1)) ∧
    Go d MX10_laysPlaces 15 [some (vR a0), some (vI a1), some (vI a2), some (vR a3), some (vI a4), some (vI (a5 + 1)), some (vI a7), none, none, none] [] S F G8 Q) ∧
  ((¬ G (sR S a0 5) a1 < a8) →
    (1 ≤ d) ∧
    Ok (d - 1) MX10_edgeAt [vR a0, vI a1, vI a8] S F G (fun w11 S12 F13 G14 =>
    ∃ z15 : Int, w11 = some (vI z15) ∧
    ((z15 ≤ a6) →
      V_X10_laysPlaces_67 d S12 F13 G14 Q a0 a1 a2 a3 a4 a5 a6 a7 a8 z15) ∧
    ((¬ z15 ≤ a6) →
      ((a7 ≤ z15) →
        V_X10_laysPlaces_67 d S12 F13 G14 Q a0 a1 a2 a3 a4 a5 a6 a7 a8 z15) ∧
      ((¬ a7 ≤ z15) →
        V_X10_laysPlaces_67 d S12 F13 G14 Q a0 a1 a2 a3 a4 a5 a6 z15 a8 z15))))
theorem R_X10_laysPlaces_29 {d : Nat} {S : AS} {F : AF} {G : AG} {Q : AQ} {a0 : Nat} {a1 : Int} {a2 : Int} {a3 : Nat} {a4 : Int} {a5 : Int} {a6 : Int} {a7 : Int} {a8 : Int} (h : V_X10_laysPlaces_29 d S F G Q a0 a1 a2 a3 a4 a5 a6 a7 a8) : Go d MX10_laysPlaces 29 [some (vR a0), some (vI a1), some (vI a2), some (vR a3), some (vI a4), some (vI a5), some (vI a6), some (vI a7), some (vI a8), none] [] S F G Q := by
  unfold V_X10_laysPlaces_29 at h
  refine go_iload (show decode cX10_laysPlaces 29 = .ok (.iload 8, 2) by decide +kernel) (by rfl) ?_
  refine go_aload_n (show decode cX10_laysPlaces 31 = .ok (.aload_n 0, 1) by decide +kernel) (by rfl) ?_
  obtain ⟨q1, h⟩ := h
  refine go_getR (show decode cX10_laysPlaces 32 = .ok (.getfield 29, 3) by decide +kernel) fl_X10_29 rfl q1 ?_
  refine go_iload_n (show decode cX10_laysPlaces 35 = .ok (.iload_n 1, 1) by decide +kernel) (by rfl) ?_
  obtain ⟨q2, h⟩ := h
  obtain ⟨q3, h⟩ := h
  obtain ⟨q4, h⟩ := h
  refine go_iaload (show decode cX10_laysPlaces 36 = .ok (.iaload, 1) by decide +kernel) q2 q3 q4 ?_
  obtain ⟨ht, hf⟩ := h
  refine go_icmpgt (tgt := 97) (show decode cX10_laysPlaces 37 = .ok (.if_icmp .gt 60, 3) by decide +kernel) (by decide) (fun hc => ?_) (fun hc => ?_)
  · have h := ht hc
    refine go_aload_n (show decode cX10_laysPlaces 97 = .ok (.aload_n 3, 1) by decide +kernel) (by rfl) ?_
    refine go_iload (show decode cX10_laysPlaces 98 = .ok (.iload 5, 2) by decide +kernel) (by rfl) ?_
    refine go_iload (show decode cX10_laysPlaces 100 = .ok (.iload 7, 2) by decide +kernel) (by rfl) ?_
    obtain ⟨q5, h⟩ := h
    obtain ⟨q6, h⟩ := h
    obtain ⟨q7, h⟩ := h
    refine go_iastore (show decode cX10_laysPlaces 102 = .ok (.iastore, 1) by decide +kernel) q5 q6 q7  ?_
    obtain ⟨G8, G8e⟩ : ∃ G8 : AG, G8 = gu G a3 a5 a7 := ⟨_, rfl⟩
    have h := h G8 G8e
    rw [← G8e]
    obtain ⟨q9, h⟩ := h
    refine go_iinc (show decode cX10_laysPlaces 103 = .ok (.iinc 5 1, 3) by decide +kernel) (by rfl) q9 (by decide) ?_
    show Go d MX10_laysPlaces 106 [some (vR a0), some (vI a1), some (vI a2), some (vR a3), some (vI a4), some (vI (a5 + 1)), some (vI a6), some (vI a7), some (vI a8), none] [] S F G8 Q
    refine go_iload (show decode cX10_laysPlaces 106 = .ok (.iload 7, 2) by decide +kernel) (by rfl) ?_
    refine go_istore (show decode cX10_laysPlaces 108 = .ok (.istore 6, 2) by decide +kernel) (by decide) ?_
    show Go d MX10_laysPlaces 110 [some (vR a0), some (vI a1), some (vI a2), some (vR a3), some (vI a4), some (vI (a5 + 1)), some (vI a7), some (vI a7), some (vI a8), none] [] S F G8 Q
    refine go_goto (tgt := 15) (show decode cX10_laysPlaces 110 = .ok (.goto (-95), 3) by decide +kernel) (by decide) ?_
    refine go_clr 7 ?_
    refine go_clr 8 ?_
    exact h
  · have h := hf hc
    refine go_aload_n (show decode cX10_laysPlaces 40 = .ok (.aload_n 0, 1) by decide +kernel) (by rfl) ?_
    refine go_iload_n (show decode cX10_laysPlaces 41 = .ok (.iload_n 1, 1) by decide +kernel) (by rfl) ?_
    refine go_iload (show decode cX10_laysPlaces 42 = .ok (.iload 8, 2) by decide +kernel) (by rfl) ?_
    obtain ⟨q10, h⟩ := h
    refine go_callV (d2 := d - 1) (M2 := MX10_edgeAt) (n := 2) (ci := 10) (av := [vI a1, vI a8]) (st := []) (show decode cX10_laysPlaces 44 = .ok (.invokevirtual 126, 3) by decide +kernel) ml_X10_126 mt_X10_edgeAt min_X10_edgeAt mse_X10_edgeAt (by decide) q1 rfl (Nat.le_of_ble_eq_true rfl) (by omega) (ok_mono h (fun w11 S12 F13 G14 h => ?_))
    obtain ⟨z15, e9, h⟩ := h
    subst e9
    show Go d MX10_laysPlaces 47 [some (vR a0), some (vI a1), some (vI a2), some (vR a3), some (vI a4), some (vI a5), some (vI a6), some (vI a7), some (vI a8), none] [vI z15] S12 F13 G14 Q
    refine go_istore (show decode cX10_laysPlaces 47 = .ok (.istore 9, 2) by decide +kernel) (by decide) ?_
    show Go d MX10_laysPlaces 49 [some (vR a0), some (vI a1), some (vI a2), some (vR a3), some (vI a4), some (vI a5), some (vI a6), some (vI a7), some (vI a8), some (vI z15)] [] S12 F13 G14 Q
    refine go_iload (show decode cX10_laysPlaces 49 = .ok (.iload 9, 2) by decide +kernel) (by rfl) ?_
    refine go_iload (show decode cX10_laysPlaces 51 = .ok (.iload 6, 2) by decide +kernel) (by rfl) ?_
    obtain ⟨ht, hf⟩ := h
    refine go_icmple (tgt := 67) (show decode cX10_laysPlaces 53 = .ok (.if_icmp .le 14, 3) by decide +kernel) (by decide) (fun hc => ?_) (fun hc => ?_)
    · have h := ht hc
      exact R_X10_laysPlaces_67 h
    · have h := hf hc
      refine go_iload (show decode cX10_laysPlaces 56 = .ok (.iload 9, 2) by decide +kernel) (by rfl) ?_
      refine go_iload (show decode cX10_laysPlaces 58 = .ok (.iload 7, 2) by decide +kernel) (by rfl) ?_
      obtain ⟨ht, hf⟩ := h
      refine go_icmpge (tgt := 67) (show decode cX10_laysPlaces 60 = .ok (.if_icmp .ge 7, 3) by decide +kernel) (by decide) (fun hc => ?_) (fun hc => ?_)
      · have h := ht hc
        exact R_X10_laysPlaces_67 h
      · have h := hf hc
        refine go_iload (show decode cX10_laysPlaces 63 = .ok (.iload 9, 2) by decide +kernel) (by rfl) ?_
        refine go_istore (show decode cX10_laysPlaces 65 = .ok (.istore 7, 2) by decide +kernel) (by decide) ?_
        show Go d MX10_laysPlaces 67 [some (vR a0), some (vI a1), some (vI a2), some (vR a3), some (vI a4), some (vI a5), some (vI a6), some (vI z15), some (vI a8), some (vI z15)] [] S12 F13 G14 Q
        exact R_X10_laysPlaces_67 h
def V_X10_laysPlaces_15 (d : Nat) (S : AS) (F : AF) (G : AG) (Q : AQ) (a0 : Nat) (a1 : Int) (a2 : Int) (a3 : Nat) (a4 : Int) (a5 : Int) (a6 : Int) : Prop :=
  ((a4 ≤ a6) →
    Q (some (vI a5)) S F G) ∧
  ((¬ a4 ≤ a6) →
    Go d MX10_laysPlaces 29 [some (vR a0), some (vI a1), some (vI a2), some (vR a3), some (vI a4), some (vI a5), some (vI a6), some (vI a4), some (vI 0), none] [] S F G Q)
theorem R_X10_laysPlaces_15 {d : Nat} {S : AS} {F : AF} {G : AG} {Q : AQ} {a0 : Nat} {a1 : Int} {a2 : Int} {a3 : Nat} {a4 : Int} {a5 : Int} {a6 : Int} (h : V_X10_laysPlaces_15 d S F G Q a0 a1 a2 a3 a4 a5 a6) : Go d MX10_laysPlaces 15 [some (vR a0), some (vI a1), some (vI a2), some (vR a3), some (vI a4), some (vI a5), some (vI a6), none, none, none] [] S F G Q := by
  unfold V_X10_laysPlaces_15 at h
  refine go_iload (show decode cX10_laysPlaces 15 = .ok (.iload 6, 2) by decide +kernel) (by rfl) ?_
  refine go_iload (show decode cX10_laysPlaces 17 = .ok (.iload 4, 2) by decide +kernel) (by rfl) ?_
  obtain ⟨ht, hf⟩ := h
  refine go_icmpge (tgt := 113) (show decode cX10_laysPlaces 19 = .ok (.if_icmp .ge 94, 3) by decide +kernel) (by decide) (fun hc => ?_) (fun hc => ?_)
  · have h := ht hc
    refine go_iload (show decode cX10_laysPlaces 113 = .ok (.iload 5, 2) by decide +kernel) (by rfl) ?_
    exact go_iret (show decode cX10_laysPlaces 115 = .ok (.ireturn, 1) by decide +kernel) rfl h
  · have h := hf hc
    refine go_iload (show decode cX10_laysPlaces 22 = .ok (.iload 4, 2) by decide +kernel) (by rfl) ?_
    refine go_istore (show decode cX10_laysPlaces 24 = .ok (.istore 7, 2) by decide +kernel) (by decide) ?_
    show Go d MX10_laysPlaces 26 [some (vR a0), some (vI a1), some (vI a2), some (vR a3), some (vI a4), some (vI a5), some (vI a6), some (vI a4), none, none] [] S F G Q
    refine go_iconst (show decode cX10_laysPlaces 26 = .ok (.iconst 0, 1) by decide +kernel) (by decide) ?_
    refine go_istore (show decode cX10_laysPlaces 27 = .ok (.istore 8, 2) by decide +kernel) (by decide) ?_
    show Go d MX10_laysPlaces 29 [some (vR a0), some (vI a1), some (vI a2), some (vR a3), some (vI a4), some (vI a5), some (vI a6), some (vI a4), some (vI 0), none] [] S F G Q
    exact h
def V_X10_laysPlaces_0 (d : Nat) (S : AS) (F : AF) (G : AG) (Q : AQ) (a0 : Nat) (a1 : Int) (a2 : Int) (a3 : Nat) : Prop :=
  (1 ≤ d) ∧
  (sK S a0 = 10) ∧
  Ok (d - 1) MX10_sizeOf [vR a0, vI a1] S F G (fun w2 S3 F4 G5 =>
  ∃ z7 : Int, w2 = some (vI z7) ∧
  (r32 (z7 - a2)) ∧
  ∀ x9 : Int, x9 = z7 - a2 →
  Go d MX10_laysPlaces 15 [some (vR a0), some (vI a1), some (vI a2), some (vR a3), some (vI x9), some (vI 0), some (vI (-1)), none, none, none] [] S3 F4 G5 Q)
theorem R_X10_laysPlaces_0 {d : Nat} {S : AS} {F : AF} {G : AG} {Q : AQ} {a0 : Nat} {a1 : Int} {a2 : Int} {a3 : Nat} (h : V_X10_laysPlaces_0 d S F G Q a0 a1 a2 a3) : Go d MX10_laysPlaces 0 [some (vR a0), some (vI a1), some (vI a2), some (vR a3), none, none, none, none, none, none] [] S F G Q := by
  unfold V_X10_laysPlaces_0 at h
  refine go_aload_n (show decode cX10_laysPlaces 0 = .ok (.aload_n 0, 1) by decide +kernel) (by rfl) ?_
  refine go_iload_n (show decode cX10_laysPlaces 1 = .ok (.iload_n 1, 1) by decide +kernel) (by rfl) ?_
  obtain ⟨q1, h⟩ := h
  obtain ⟨q6, h⟩ := h
  refine go_callV (d2 := d - 1) (M2 := MX10_sizeOf) (n := 1) (ci := 10) (av := [vI a1]) (st := []) (show decode cX10_laysPlaces 2 = .ok (.invokevirtual 122, 3) by decide +kernel) ml_X10_122 mt_X10_sizeOf min_X10_sizeOf mse_X10_sizeOf (by decide) q6 rfl (Nat.le_of_ble_eq_true rfl) (by omega) (ok_mono h (fun w2 S3 F4 G5 h => ?_))
  obtain ⟨z7, e9, h⟩ := h
  subst e9
  show Go d MX10_laysPlaces 5 [some (vR a0), some (vI a1), some (vI a2), some (vR a3), none, none, none, none, none, none] [vI z7] S3 F4 G5 Q
  refine go_iload_n (show decode cX10_laysPlaces 5 = .ok (.iload_n 2, 1) by decide +kernel) (by rfl) ?_
  obtain ⟨q8, h⟩ := h
  refine go_isub (show decode cX10_laysPlaces 6 = .ok (.isub, 1) by decide +kernel) q8 ?_
  obtain ⟨x9, x9e⟩ : ∃ x9 : Int, x9 = z7 - a2 := ⟨_, rfl⟩
  have h := h x9 x9e
  rw [← x9e]
  refine go_istore (show decode cX10_laysPlaces 7 = .ok (.istore 4, 2) by decide +kernel) (by decide) ?_
  show Go d MX10_laysPlaces 9 [some (vR a0), some (vI a1), some (vI a2), some (vR a3), some (vI x9), none, none, none, none, none] [] S3 F4 G5 Q
  refine go_iconst (show decode cX10_laysPlaces 9 = .ok (.iconst 0, 1) by decide +kernel) (by decide) ?_
  refine go_istore (show decode cX10_laysPlaces 10 = .ok (.istore 5, 2) by decide +kernel) (by decide) ?_
  show Go d MX10_laysPlaces 12 [some (vR a0), some (vI a1), some (vI a2), some (vR a3), some (vI x9), some (vI 0), none, none, none, none] [] S3 F4 G5 Q
  refine go_iconst (show decode cX10_laysPlaces 12 = .ok (.iconst (-1), 1) by decide +kernel) (by decide) ?_
  refine go_istore (show decode cX10_laysPlaces 13 = .ok (.istore 6, 2) by decide +kernel) (by decide) ?_
  show Go d MX10_laysPlaces 15 [some (vR a0), some (vI a1), some (vI a2), some (vR a3), some (vI x9), some (vI 0), some (vI (-1)), none, none, none] [] S3 F4 G5 Q
  exact h
def V_X10_line_92 (d : Nat) (S : AS) (F : AF) (G : AG) (Q : AQ) (a0 : Nat) (a1 : Int) (a2 : Int) (a3 : Int) (a4 : Int) (a6 : Int) (a7 : Int) (a8 : Int) : Prop :=
  (r32 (a7 + 1)) ∧
  Go d MX10_line 47 [some (vR a0), some (vI a1), some (vI a2), some (vI a3), some (vJ a4), none, some (vI a6), some (vI (a7 + 1)), none, none] [] S F G Q
theorem R_X10_line_92 {d : Nat} {S : AS} {F : AF} {G : AG} {Q : AQ} {a0 : Nat} {a1 : Int} {a2 : Int} {a3 : Int} {a4 : Int} {a6 : Int} {a7 : Int} {a8 : Int} (h : V_X10_line_92 d S F G Q a0 a1 a2 a3 a4 a6 a7 a8) : Go d MX10_line 92 [some (vR a0), some (vI a1), some (vI a2), some (vI a3), some (vJ a4), none, some (vI a6), some (vI a7), some (vJ a8), none] [] S F G Q := by
  unfold V_X10_line_92 at h
  obtain ⟨q1, h⟩ := h
  refine go_iinc (show decode cX10_line 92 = .ok (.iinc 7 1, 3) by decide +kernel) (by rfl) q1 (by decide) ?_
  show Go d MX10_line 95 [some (vR a0), some (vI a1), some (vI a2), some (vI a3), some (vJ a4), none, some (vI a6), some (vI (a7 + 1)), some (vJ a8), none] [] S F G Q
  refine go_goto (tgt := 47) (show decode cX10_line 95 = .ok (.goto (-48), 3) by decide +kernel) (by decide) ?_
  refine go_clr 8 ?_
  exact h
def V_X10_line_47 (d : Nat) (S : AS) (F : AF) (G : AG) (Q : AQ) (a0 : Nat) (a1 : Int) (a2 : Int) (a3 : Int) (a4 : Int) (a6 : Int) (a7 : Int) : Prop :=
  (sK S a0 = 10) ∧
  (sK S (sR S a0 5) = 20) ∧
  ((0 : Int) ≤ a2) ∧
  ((a2 : Int) < (sN S (sR S a0 5) : Int)) ∧
  ((G (sR S a0 5) a2 ≤ a7) →
    ((¬ a3 = 0) →
      Q (some (vJ a4)) S F G) ∧
    ((a3 = 0) →
      Q (some (vJ a6)) S F G)) ∧
  ((¬ G (sR S a0 5) a2 ≤ a7) →
    (1 ≤ d) ∧
    Ok (d - 1) MX10_lineOf [vR a0, vI a1, vI a2, vI a7] S F G (fun w6 S7 F8 G9 =>
    ∃ z10 : Int, w6 = some (vJ z10) ∧
    ((a4 < z10) →
      (sK S7 a0 = 10) ∧
      Ok (d - 1) MX10_edgeAt [vR a0, vI a2, vI a7] S7 F8 G9 (fun w11 S12 F13 G14 =>
      ∃ z16 : Int, w11 = some (vI z16) ∧
      V_X10_line_92 d S12 F13 G14 Q a0 a1 a2 a3 z10 z16 a7 z10)) ∧
    ((¬ a4 < z10) →
      V_X10_line_92 d S7 F8 G9 Q a0 a1 a2 a3 a4 a6 a7 z10)))
theorem R_X10_line_47 {d : Nat} {S : AS} {F : AF} {G : AG} {Q : AQ} {a0 : Nat} {a1 : Int} {a2 : Int} {a3 : Int} {a4 : Int} {a6 : Int} {a7 : Int} (h : V_X10_line_47 d S F G Q a0 a1 a2 a3 a4 a6 a7) : Go d MX10_line 47 [some (vR a0), some (vI a1), some (vI a2), some (vI a3), some (vJ a4), none, some (vI a6), some (vI a7), none, none] [] S F G Q := by
  unfold V_X10_line_47 at h
  refine go_iload (show decode cX10_line 47 = .ok (.iload 7, 2) by decide +kernel) (by rfl) ?_
  refine go_aload_n (show decode cX10_line 49 = .ok (.aload_n 0, 1) by decide +kernel) (by rfl) ?_
  obtain ⟨q1, h⟩ := h
  refine go_getR (show decode cX10_line 50 = .ok (.getfield 29, 3) by decide +kernel) fl_X10_29 rfl q1 ?_
  refine go_iload_n (show decode cX10_line 53 = .ok (.iload_n 2, 1) by decide +kernel) (by rfl) ?_
  obtain ⟨q2, h⟩ := h
  obtain ⟨q3, h⟩ := h
  obtain ⟨q4, h⟩ := h
  refine go_iaload (show decode cX10_line 54 = .ok (.iaload, 1) by decide +kernel) q2 q3 q4 ?_
  obtain ⟨ht, hf⟩ := h
  refine go_icmpge (tgt := 98) (show decode cX10_line 55 = .ok (.if_icmp .ge 43, 3) by decide +kernel) (by decide) (fun hc => ?_) (fun hc => ?_)
  · have h := ht hc
    refine go_iload_n (show decode cX10_line 98 = .ok (.iload_n 3, 1) by decide +kernel) (by rfl) ?_
    obtain ⟨ht, hf⟩ := h
    refine go_ifne (tgt := 108) (show decode cX10_line 99 = .ok (.ifCond .ne 9, 3) by decide +kernel) (by decide) (fun hc => ?_) (fun hc => ?_)
    · have h := ht hc
      refine go_lload (show decode cX10_line 108 = .ok (.lload 4, 2) by decide +kernel) (by rfl) ?_
      exact go_lret (show decode cX10_line 110 = .ok (.lreturn, 1) by decide +kernel) rfl h
    · have h := hf hc
      refine go_iload (show decode cX10_line 102 = .ok (.iload 6, 2) by decide +kernel) (by rfl) ?_
      refine go_i2l (show decode cX10_line 104 = .ok (.i2l, 1) by decide +kernel) ?_
      refine go_goto (tgt := 110) (show decode cX10_line 105 = .ok (.goto 5, 3) by decide +kernel) (by decide) ?_
      exact go_lret (show decode cX10_line 110 = .ok (.lreturn, 1) by decide +kernel) rfl h
  · have h := hf hc
    refine go_aload_n (show decode cX10_line 58 = .ok (.aload_n 0, 1) by decide +kernel) (by rfl) ?_
    refine go_iload_n (show decode cX10_line 59 = .ok (.iload_n 1, 1) by decide +kernel) (by rfl) ?_
    refine go_iload_n (show decode cX10_line 60 = .ok (.iload_n 2, 1) by decide +kernel) (by rfl) ?_
    refine go_iload (show decode cX10_line 61 = .ok (.iload 7, 2) by decide +kernel) (by rfl) ?_
    obtain ⟨q5, h⟩ := h
    refine go_callV (d2 := d - 1) (M2 := MX10_lineOf) (n := 3) (ci := 10) (av := [vI a1, vI a2, vI a7]) (st := []) (show decode cX10_line 63 = .ok (.invokevirtual 441, 3) by decide +kernel) ml_X10_441 mt_X10_lineOf min_X10_lineOf mse_X10_lineOf (by decide) q1 rfl (Nat.le_of_ble_eq_true rfl) (by omega) (ok_mono h (fun w6 S7 F8 G9 h => ?_))
    obtain ⟨z10, e9, h⟩ := h
    subst e9
    show Go d MX10_line 66 [some (vR a0), some (vI a1), some (vI a2), some (vI a3), some (vJ a4), none, some (vI a6), some (vI a7), none, none] [vJ z10] S7 F8 G9 Q
    refine go_lstore (show decode cX10_line 66 = .ok (.lstore 8, 2) by decide +kernel) (by decide) ?_
    show Go d MX10_line 68 [some (vR a0), some (vI a1), some (vI a2), some (vI a3), some (vJ a4), none, some (vI a6), some (vI a7), some (vJ z10), none] [] S7 F8 G9 Q
    refine go_lload (show decode cX10_line 68 = .ok (.lload 8, 2) by decide +kernel) (by rfl) ?_
    refine go_lload (show decode cX10_line 70 = .ok (.lload 4, 2) by decide +kernel) (by rfl) ?_
    obtain ⟨ht, hf⟩ := h
    refine go_jgt (tgt := 79) (show decode cX10_line 72 = .ok (.lcmp, 1) by decide +kernel) (show decode cX10_line 73 = .ok (.ifCond .gt 6, 3) by decide +kernel) (by decide) (fun hc => ?_) (fun hc => ?_)
    · have h := ht hc
      refine go_lload (show decode cX10_line 79 = .ok (.lload 8, 2) by decide +kernel) (by rfl) ?_
      refine go_lstore (show decode cX10_line 81 = .ok (.lstore 4, 2) by decide +kernel) (by decide) ?_
      show Go d MX10_line 83 [some (vR a0), some (vI a1), some (vI a2), some (vI a3), some (vJ z10), none, some (vI a6), some (vI a7), some (vJ z10), none] [] S7 F8 G9 Q
      refine go_aload_n (show decode cX10_line 83 = .ok (.aload_n 0, 1) by decide +kernel) (by rfl) ?_
      refine go_iload_n (show decode cX10_line 84 = .ok (.iload_n 2, 1) by decide +kernel) (by rfl) ?_
      refine go_iload (show decode cX10_line 85 = .ok (.iload 7, 2) by decide +kernel) (by rfl) ?_
      obtain ⟨q15, h⟩ := h
      refine go_callV (d2 := d - 1) (M2 := MX10_edgeAt) (n := 2) (ci := 10) (av := [vI a2, vI a7]) (st := []) (show decode cX10_line 87 = .ok (.invokevirtual 126, 3) by decide +kernel) ml_X10_126 mt_X10_edgeAt min_X10_edgeAt mse_X10_edgeAt (by decide) q15 rfl (Nat.le_of_ble_eq_true rfl) (by omega) (ok_mono h (fun w11 S12 F13 G14 h => ?_))
      obtain ⟨z16, e9, h⟩ := h
      subst e9
      show Go d MX10_line 90 [some (vR a0), some (vI a1), some (vI a2), some (vI a3), some (vJ z10), none, some (vI a6), some (vI a7), some (vJ z10), none] [vI z16] S12 F13 G14 Q
      refine go_istore (show decode cX10_line 90 = .ok (.istore 6, 2) by decide +kernel) (by decide) ?_
      show Go d MX10_line 92 [some (vR a0), some (vI a1), some (vI a2), some (vI a3), some (vJ z10), none, some (vI z16), some (vI a7), some (vJ z10), none] [] S12 F13 G14 Q
      exact R_X10_line_92 h
    · have h := hf hc
      refine go_goto (tgt := 92) (show decode cX10_line 76 = .ok (.goto 16, 3) by decide +kernel) (by decide) ?_
      exact R_X10_line_92 h
def V_X10_line_0 (d : Nat) (S : AS) (F : AF) (G : AG) (Q : AQ) (a0 : Nat) (a1 : Int) (a2 : Int) (a3 : Int) : Prop :=
  (sK S a0 = 10) ∧
  ∀ F2 : AF, F2 = fu F a0 0 0 →
  (1 ≤ d) ∧
  Ok (d - 1) MX10_isGood [vI a1] S F2 G (fun w4 S5 F6 G7 =>
  ∃ z8 : Int, w4 = some (vI z8) ∧
  ((z8 = 0) →
    Q (some (vJ (-2))) S5 F6 G7) ∧
  ((¬ z8 = 0) →
    Ok (d - 1) MX10_isIn [vJ a2, vJ 0, vJ 1] S5 F6 G7 (fun w9 S10 F11 G12 =>
    ∃ z13 : Int, w9 = some (vI z13) ∧
    ((z13 = 0) →
      Q (some (vJ (-2))) S10 F11 G12) ∧
    ((¬ z13 = 0) →
      Ok (d - 1) MX10_isIn [vJ a3, vJ 0, vJ 1] S10 F11 G12 (fun w14 S15 F16 G17 =>
      ∃ z18 : Int, w14 = some (vI z18) ∧
      ((¬ z18 = 0) →
        Go d MX10_line 47 [some (vR a0), some (vI a1), some (vI a2), some (vI a3), some (vJ (-1)), none, some (vI 0), some (vI 0), none, none] [] S15 F16 G17 Q) ∧
      ((z18 = 0) →
        Q (some (vJ (-2))) S15 F16 G17))))))
theorem R_X10_line_0 {d : Nat} {S : AS} {F : AF} {G : AG} {Q : AQ} {a0 : Nat} {a1 : Int} {a2 : Int} {a3 : Int} (h : V_X10_line_0 d S F G Q a0 a1 a2 a3) : Go d MX10_line 0 [some (vR a0), some (vI a1), some (vI a2), some (vI a3), none, none, none, none, none, none] [] S F G Q := by
  unfold V_X10_line_0 at h
  refine go_aload_n (show decode cX10_line 0 = .ok (.aload_n 0, 1) by decide +kernel) (by rfl) ?_
  refine go_iconst (show decode cX10_line 1 = .ok (.iconst 0, 1) by decide +kernel) (by decide) ?_
  obtain ⟨q1, h⟩ := h
  refine go_putI (show decode cX10_line 2 = .ok (.putfield 1, 3) by decide +kernel) fl_X10_1 rfl (Or.inl rfl) q1 ?_
  obtain ⟨F2, F2e⟩ : ∃ F2 : AF, F2 = fu F a0 0 0 := ⟨_, rfl⟩
  have h := h F2 F2e
  rw [← F2e]
  refine go_iload_n (show decode cX10_line 5 = .ok (.iload_n 1, 1) by decide +kernel) (by rfl) ?_
  obtain ⟨q3, h⟩ := h
  refine go_callS (d2 := d - 1) (M2 := MX10_isGood) (n := 1) (av := [vI a1]) (st := []) (show decode cX10_line 6 = .ok (.invokestatic 167, 3) by decide +kernel) ml_X10_167 mt_X10_isGood mst_X10_isGood rfl (Nat.le_of_ble_eq_true rfl) (by omega) (ok_mono h (fun w4 S5 F6 G7 h => ?_))
  obtain ⟨z8, e9, h⟩ := h
  subst e9
  show Go d MX10_line 9 [some (vR a0), some (vI a1), some (vI a2), some (vI a3), none, none, none, none, none, none] [vI z8] S5 F6 G7 Q
  obtain ⟨ht, hf⟩ := h
  refine go_ifeq (tgt := 32) (show decode cX10_line 9 = .ok (.ifCond .eq 23, 3) by decide +kernel) (by decide) (fun hc => ?_) (fun hc => ?_)
  · have h := ht hc
    refine go_ldc2 (show decode cX10_line 32 = .ok (.ldc2_w 174, 3) by decide +kernel) lc_X10_174 (by decide) ?_
    exact go_lret (show decode cX10_line 35 = .ok (.lreturn, 1) by decide +kernel) rfl h
  · have h := hf hc
    refine go_iload_n (show decode cX10_line 12 = .ok (.iload_n 2, 1) by decide +kernel) (by rfl) ?_
    refine go_i2l (show decode cX10_line 13 = .ok (.i2l, 1) by decide +kernel) ?_
    refine go_lconst (n := 0) (show decode cX10_line 14 = .ok (.lconst 0, 1) by decide +kernel) ?_
    show Go d MX10_line 15 [some (vR a0), some (vI a1), some (vI a2), some (vI a3), none, none, none, none, none, none] [vJ 0, vJ a2] S5 F6 G7 Q
    refine go_lconst (n := 1) (show decode cX10_line 15 = .ok (.lconst 1, 1) by decide +kernel) ?_
    show Go d MX10_line 16 [some (vR a0), some (vI a1), some (vI a2), some (vI a3), none, none, none, none, none, none] [vJ 1, vJ 0, vJ a2] S5 F6 G7 Q
    refine go_callS (d2 := d - 1) (M2 := MX10_isIn) (n := 3) (av := [vJ a2, vJ 0, vJ 1]) (st := []) (show decode cX10_line 16 = .ok (.invokestatic 116, 3) by decide +kernel) ml_X10_116 mt_X10_isIn mst_X10_isIn rfl (Nat.le_of_ble_eq_true rfl) (by omega) (ok_mono h (fun w9 S10 F11 G12 h => ?_))
    obtain ⟨z13, e9, h⟩ := h
    subst e9
    show Go d MX10_line 19 [some (vR a0), some (vI a1), some (vI a2), some (vI a3), none, none, none, none, none, none] [vI z13] S10 F11 G12 Q
    obtain ⟨ht, hf⟩ := h
    refine go_ifeq (tgt := 32) (show decode cX10_line 19 = .ok (.ifCond .eq 13, 3) by decide +kernel) (by decide) (fun hc => ?_) (fun hc => ?_)
    · have h := ht hc
      refine go_ldc2 (show decode cX10_line 32 = .ok (.ldc2_w 174, 3) by decide +kernel) lc_X10_174 (by decide) ?_
      exact go_lret (show decode cX10_line 35 = .ok (.lreturn, 1) by decide +kernel) rfl h
    · have h := hf hc
      refine go_iload_n (show decode cX10_line 22 = .ok (.iload_n 3, 1) by decide +kernel) (by rfl) ?_
      refine go_i2l (show decode cX10_line 23 = .ok (.i2l, 1) by decide +kernel) ?_
      refine go_lconst (n := 0) (show decode cX10_line 24 = .ok (.lconst 0, 1) by decide +kernel) ?_
      show Go d MX10_line 25 [some (vR a0), some (vI a1), some (vI a2), some (vI a3), none, none, none, none, none, none] [vJ 0, vJ a3] S10 F11 G12 Q
      refine go_lconst (n := 1) (show decode cX10_line 25 = .ok (.lconst 1, 1) by decide +kernel) ?_
      show Go d MX10_line 26 [some (vR a0), some (vI a1), some (vI a2), some (vI a3), none, none, none, none, none, none] [vJ 1, vJ 0, vJ a3] S10 F11 G12 Q
      refine go_callS (d2 := d - 1) (M2 := MX10_isIn) (n := 3) (av := [vJ a3, vJ 0, vJ 1]) (st := []) (show decode cX10_line 26 = .ok (.invokestatic 116, 3) by decide +kernel) ml_X10_116 mt_X10_isIn mst_X10_isIn rfl (Nat.le_of_ble_eq_true rfl) (by omega) (ok_mono h (fun w14 S15 F16 G17 h => ?_))
      obtain ⟨z18, e9, h⟩ := h
      subst e9
      show Go d MX10_line 29 [some (vR a0), some (vI a1), some (vI a2), some (vI a3), none, none, none, none, none, none] [vI z18] S15 F16 G17 Q
      obtain ⟨ht, hf⟩ := h
      refine go_ifne (tgt := 36) (show decode cX10_line 29 = .ok (.ifCond .ne 7, 3) by decide +kernel) (by decide) (fun hc => ?_) (fun hc => ?_)
      · have h := ht hc
        refine go_ldc2 (show decode cX10_line 36 = .ok (.ldc2_w 311, 3) by decide +kernel) lc_X10_311 (by decide) ?_
        refine go_lstore (show decode cX10_line 39 = .ok (.lstore 4, 2) by decide +kernel) (by decide) ?_
        show Go d MX10_line 41 [some (vR a0), some (vI a1), some (vI a2), some (vI a3), some (vJ (-1)), none, none, none, none, none] [] S15 F16 G17 Q
        refine go_iconst (show decode cX10_line 41 = .ok (.iconst 0, 1) by decide +kernel) (by decide) ?_
        refine go_istore (show decode cX10_line 42 = .ok (.istore 6, 2) by decide +kernel) (by decide) ?_
        show Go d MX10_line 44 [some (vR a0), some (vI a1), some (vI a2), some (vI a3), some (vJ (-1)), none, some (vI 0), none, none, none] [] S15 F16 G17 Q
        refine go_iconst (show decode cX10_line 44 = .ok (.iconst 0, 1) by decide +kernel) (by decide) ?_
        refine go_istore (show decode cX10_line 45 = .ok (.istore 7, 2) by decide +kernel) (by decide) ?_
        show Go d MX10_line 47 [some (vR a0), some (vI a1), some (vI a2), some (vI a3), some (vJ (-1)), none, some (vI 0), some (vI 0), none, none] [] S15 F16 G17 Q
        exact h
      · have h := hf hc
        refine go_ldc2 (show decode cX10_line 32 = .ok (.ldc2_w 174, 3) by decide +kernel) lc_X10_174 (by decide) ?_
        exact go_lret (show decode cX10_line 35 = .ok (.lreturn, 1) by decide +kernel) rfl h
def V_X10_borders_0 (d : Nat) (S : AS) (F : AF) (G : AG) (Q : AQ) (a0 : Nat) (a1 : Int) (a2 : Int) : Prop :=
  (sK S a0 = 10) ∧
  ∀ F2 : AF, F2 = fu F a0 0 0 →
  (1 ≤ d) ∧
  Ok (d - 1) MX10_isIn [vJ a1, vJ 0, vJ 1] S F2 G (fun w4 S5 F6 G7 =>
  ∃ z8 : Int, w4 = some (vI z8) ∧
  ((z8 = 0) →
    Q (some (vI (-2))) S5 F6 G7) ∧
  ((¬ z8 = 0) →
    Ok (d - 1) MX10_isIn [vJ a2, vJ 0, vJ 1] S5 F6 G7 (fun w9 S10 F11 G12 =>
    ∃ z13 : Int, w9 = some (vI z13) ∧
    ((¬ z13 = 0) →
      ((¬ a2 = 0) →
        (sK S10 a0 = 10) ∧
        (sK S10 (sR S10 a0 6) = 20) ∧
        ((0 : Int) ≤ a1) ∧
        ((a1 : Int) < (sN S10 (sR S10 a0 6) : Int)) ∧
        Q (some (vI (G12 (sR S10 a0 6) a1))) S10 F11 G12) ∧
      ((a2 = 0) →
        (sK S10 a0 = 10) ∧
        (sK S10 (sR S10 a0 5) = 20) ∧
        ((0 : Int) ≤ a1) ∧
        ((a1 : Int) < (sN S10 (sR S10 a0 5) : Int)) ∧
        Q (some (vI (G12 (sR S10 a0 5) a1))) S10 F11 G12)) ∧
    ((z13 = 0) →
      Q (some (vI (-2))) S10 F11 G12))))
theorem R_X10_borders_0 {d : Nat} {S : AS} {F : AF} {G : AG} {Q : AQ} {a0 : Nat} {a1 : Int} {a2 : Int} (h : V_X10_borders_0 d S F G Q a0 a1 a2) : Go d MX10_borders 0 [some (vR a0), some (vI a1), some (vI a2)] [] S F G Q := by
  unfold V_X10_borders_0 at h
  refine go_aload_n (show decode cX10_borders 0 = .ok (.aload_n 0, 1) by decide +kernel) (by rfl) ?_
  refine go_iconst (show decode cX10_borders 1 = .ok (.iconst 0, 1) by decide +kernel) (by decide) ?_
  obtain ⟨q1, h⟩ := h
  refine go_putI (show decode cX10_borders 2 = .ok (.putfield 1, 3) by decide +kernel) fl_X10_1 rfl (Or.inl rfl) q1 ?_
  obtain ⟨F2, F2e⟩ : ∃ F2 : AF, F2 = fu F a0 0 0 := ⟨_, rfl⟩
  have h := h F2 F2e
  rw [← F2e]
  refine go_iload_n (show decode cX10_borders 5 = .ok (.iload_n 1, 1) by decide +kernel) (by rfl) ?_
  refine go_i2l (show decode cX10_borders 6 = .ok (.i2l, 1) by decide +kernel) ?_
  refine go_lconst (n := 0) (show decode cX10_borders 7 = .ok (.lconst 0, 1) by decide +kernel) ?_
  show Go d MX10_borders 8 [some (vR a0), some (vI a1), some (vI a2)] [vJ 0, vJ a1] S F2 G Q
  refine go_lconst (n := 1) (show decode cX10_borders 8 = .ok (.lconst 1, 1) by decide +kernel) ?_
  show Go d MX10_borders 9 [some (vR a0), some (vI a1), some (vI a2)] [vJ 1, vJ 0, vJ a1] S F2 G Q
  obtain ⟨q3, h⟩ := h
  refine go_callS (d2 := d - 1) (M2 := MX10_isIn) (n := 3) (av := [vJ a1, vJ 0, vJ 1]) (st := []) (show decode cX10_borders 9 = .ok (.invokestatic 116, 3) by decide +kernel) ml_X10_116 mt_X10_isIn mst_X10_isIn rfl (Nat.le_of_ble_eq_true rfl) (by omega) (ok_mono h (fun w4 S5 F6 G7 h => ?_))
  obtain ⟨z8, e9, h⟩ := h
  subst e9
  show Go d MX10_borders 12 [some (vR a0), some (vI a1), some (vI a2)] [vI z8] S5 F6 G7 Q
  obtain ⟨ht, hf⟩ := h
  refine go_ifeq (tgt := 25) (show decode cX10_borders 12 = .ok (.ifCond .eq 13, 3) by decide +kernel) (by decide) (fun hc => ?_) (fun hc => ?_)
  · have h := ht hc
    refine go_bipush (show decode cX10_borders 25 = .ok (.bipush (-2), 2) by decide +kernel) (by decide) ?_
    exact go_iret (show decode cX10_borders 27 = .ok (.ireturn, 1) by decide +kernel) rfl h
  · have h := hf hc
    refine go_iload_n (show decode cX10_borders 15 = .ok (.iload_n 2, 1) by decide +kernel) (by rfl) ?_
    refine go_i2l (show decode cX10_borders 16 = .ok (.i2l, 1) by decide +kernel) ?_
    refine go_lconst (n := 0) (show decode cX10_borders 17 = .ok (.lconst 0, 1) by decide +kernel) ?_
    show Go d MX10_borders 18 [some (vR a0), some (vI a1), some (vI a2)] [vJ 0, vJ a2] S5 F6 G7 Q
    refine go_lconst (n := 1) (show decode cX10_borders 18 = .ok (.lconst 1, 1) by decide +kernel) ?_
    show Go d MX10_borders 19 [some (vR a0), some (vI a1), some (vI a2)] [vJ 1, vJ 0, vJ a2] S5 F6 G7 Q
    refine go_callS (d2 := d - 1) (M2 := MX10_isIn) (n := 3) (av := [vJ a2, vJ 0, vJ 1]) (st := []) (show decode cX10_borders 19 = .ok (.invokestatic 116, 3) by decide +kernel) ml_X10_116 mt_X10_isIn mst_X10_isIn rfl (Nat.le_of_ble_eq_true rfl) (by omega) (ok_mono h (fun w9 S10 F11 G12 h => ?_))
    obtain ⟨z13, e9, h⟩ := h
    subst e9
    show Go d MX10_borders 22 [some (vR a0), some (vI a1), some (vI a2)] [vI z13] S10 F11 G12 Q
    obtain ⟨ht, hf⟩ := h
    refine go_ifne (tgt := 28) (show decode cX10_borders 22 = .ok (.ifCond .ne 6, 3) by decide +kernel) (by decide) (fun hc => ?_) (fun hc => ?_)
    · have h := ht hc
      refine go_iload_n (show decode cX10_borders 28 = .ok (.iload_n 2, 1) by decide +kernel) (by rfl) ?_
      obtain ⟨ht, hf⟩ := h
      refine go_ifne (tgt := 41) (show decode cX10_borders 29 = .ok (.ifCond .ne 12, 3) by decide +kernel) (by decide) (fun hc => ?_) (fun hc => ?_)
      · have h := ht hc
        refine go_aload_n (show decode cX10_borders 41 = .ok (.aload_n 0, 1) by decide +kernel) (by rfl) ?_
        obtain ⟨q14, h⟩ := h
        refine go_getR (show decode cX10_borders 42 = .ok (.getfield 32, 3) by decide +kernel) fl_X10_32 rfl q14 ?_
        refine go_iload_n (show decode cX10_borders 45 = .ok (.iload_n 1, 1) by decide +kernel) (by rfl) ?_
        obtain ⟨q15, h⟩ := h
        obtain ⟨q16, h⟩ := h
        obtain ⟨q17, h⟩ := h
        refine go_iaload (show decode cX10_borders 46 = .ok (.iaload, 1) by decide +kernel) q15 q16 q17 ?_
        exact go_iret (show decode cX10_borders 47 = .ok (.ireturn, 1) by decide +kernel) rfl h
      · have h := hf hc
        refine go_aload_n (show decode cX10_borders 32 = .ok (.aload_n 0, 1) by decide +kernel) (by rfl) ?_
        obtain ⟨q18, h⟩ := h
        refine go_getR (show decode cX10_borders 33 = .ok (.getfield 29, 3) by decide +kernel) fl_X10_29 rfl q18 ?_
        refine go_iload_n (show decode cX10_borders 36 = .ok (.iload_n 1, 1) by decide +kernel) (by rfl) ?_
        obtain ⟨q19, h⟩ := h
        obtain ⟨q20, h⟩ := h
        obtain ⟨q21, h⟩ := h
        refine go_iaload (show decode cX10_borders 37 = .ok (.iaload, 1) by decide +kernel) q19 q20 q21 ?_
        refine go_goto (tgt := 47) (show decode cX10_borders 38 = .ok (.goto 9, 3) by decide +kernel) (by decide) ?_
        exact go_iret (show decode cX10_borders 47 = .ok (.ireturn, 1) by decide +kernel) rfl h
    · have h := hf hc
      refine go_bipush (show decode cX10_borders 25 = .ok (.bipush (-2), 2) by decide +kernel) (by decide) ?_
      exact go_iret (show decode cX10_borders 27 = .ok (.ireturn, 1) by decide +kernel) rfl h
def V_X10_border_0 (d : Nat) (S : AS) (F : AF) (G : AG) (Q : AQ) (a0 : Nat) (a1 : Int) (a2 : Int) : Prop :=
  (sK S a0 = 10) ∧
  ∀ F2 : AF, F2 = fu F a0 0 0 →
  (1 ≤ d) ∧
  Ok (d - 1) MX10_isIn [vJ a1, vJ 0, vJ 1] S F2 G (fun w4 S5 F6 G7 =>
  ∃ z8 : Int, w4 = some (vI z8) ∧
  ((¬ z8 = 0) →
    ((0 ≤ a2) →
      (sK S5 a0 = 10) ∧
      (sK S5 (sR S5 a0 5) = 20) ∧
      ((0 : Int) ≤ a1) ∧
      ((a1 : Int) < (sN S5 (sR S5 a0 5) : Int)) ∧
      ((G7 (sR S5 a0 5) a1 ≤ a2) →
        Q (some (vI (-1))) S5 F6 G7) ∧
      ((¬ G7 (sR S5 a0 5) a1 ≤ a2) →
        (r32 (48 * a1)) ∧
        (r32 ((48 * a1) + a2)) ∧
        (sK S5 (sR S5 a0 4) = 20) ∧
        ((0 : Int) ≤ (48 * a1) + a2) ∧
        (((48 * a1) + a2 : Int) < (sN S5 (sR S5 a0 4) : Int)) ∧
        Q (some (vI (G7 (sR S5 a0 4) ((48 * a1) + a2)))) S5 F6 G7)) ∧
    ((¬ 0 ≤ a2) →
      Q (some (vI (-3))) S5 F6 G7)) ∧
  ((z8 = 0) →
    Q (some (vI (-2))) S5 F6 G7))
theorem R_X10_border_0 {d : Nat} {S : AS} {F : AF} {G : AG} {Q : AQ} {a0 : Nat} {a1 : Int} {a2 : Int} (h : V_X10_border_0 d S F G Q a0 a1 a2) : Go d MX10_border 0 [some (vR a0), some (vI a1), some (vI a2)] [] S F G Q := by
  unfold V_X10_border_0 at h
  refine go_aload_n (show decode cX10_border 0 = .ok (.aload_n 0, 1) by decide +kernel) (by rfl) ?_
  refine go_iconst (show decode cX10_border 1 = .ok (.iconst 0, 1) by decide +kernel) (by decide) ?_
  obtain ⟨q1, h⟩ := h
  refine go_putI (show decode cX10_border 2 = .ok (.putfield 1, 3) by decide +kernel) fl_X10_1 rfl (Or.inl rfl) q1 ?_
  obtain ⟨F2, F2e⟩ : ∃ F2 : AF, F2 = fu F a0 0 0 := ⟨_, rfl⟩
  have h := h F2 F2e
  rw [← F2e]
  refine go_iload_n (show decode cX10_border 5 = .ok (.iload_n 1, 1) by decide +kernel) (by rfl) ?_
  refine go_i2l (show decode cX10_border 6 = .ok (.i2l, 1) by decide +kernel) ?_
  refine go_lconst (n := 0) (show decode cX10_border 7 = .ok (.lconst 0, 1) by decide +kernel) ?_
  show Go d MX10_border 8 [some (vR a0), some (vI a1), some (vI a2)] [vJ 0, vJ a1] S F2 G Q
  refine go_lconst (n := 1) (show decode cX10_border 8 = .ok (.lconst 1, 1) by decide +kernel) ?_
  show Go d MX10_border 9 [some (vR a0), some (vI a1), some (vI a2)] [vJ 1, vJ 0, vJ a1] S F2 G Q
  obtain ⟨q3, h⟩ := h
  refine go_callS (d2 := d - 1) (M2 := MX10_isIn) (n := 3) (av := [vJ a1, vJ 0, vJ 1]) (st := []) (show decode cX10_border 9 = .ok (.invokestatic 116, 3) by decide +kernel) ml_X10_116 mt_X10_isIn mst_X10_isIn rfl (Nat.le_of_ble_eq_true rfl) (by omega) (ok_mono h (fun w4 S5 F6 G7 h => ?_))
  obtain ⟨z8, e9, h⟩ := h
  subst e9
  show Go d MX10_border 12 [some (vR a0), some (vI a1), some (vI a2)] [vI z8] S5 F6 G7 Q
  obtain ⟨ht, hf⟩ := h
  refine go_ifne (tgt := 18) (show decode cX10_border 12 = .ok (.ifCond .ne 6, 3) by decide +kernel) (by decide) (fun hc => ?_) (fun hc => ?_)
  · have h := ht hc
    refine go_iload_n (show decode cX10_border 18 = .ok (.iload_n 2, 1) by decide +kernel) (by rfl) ?_
    obtain ⟨ht, hf⟩ := h
    refine go_ifge (tgt := 25) (show decode cX10_border 19 = .ok (.ifCond .ge 6, 3) by decide +kernel) (by decide) (fun hc => ?_) (fun hc => ?_)
    · have h := ht hc
      refine go_iload_n (show decode cX10_border 25 = .ok (.iload_n 2, 1) by decide +kernel) (by rfl) ?_
      refine go_aload_n (show decode cX10_border 26 = .ok (.aload_n 0, 1) by decide +kernel) (by rfl) ?_
      obtain ⟨q9, h⟩ := h
      refine go_getR (show decode cX10_border 27 = .ok (.getfield 29, 3) by decide +kernel) fl_X10_29 rfl q9 ?_
      refine go_iload_n (show decode cX10_border 30 = .ok (.iload_n 1, 1) by decide +kernel) (by rfl) ?_
      obtain ⟨q10, h⟩ := h
      obtain ⟨q11, h⟩ := h
      obtain ⟨q12, h⟩ := h
      refine go_iaload (show decode cX10_border 31 = .ok (.iaload, 1) by decide +kernel) q10 q11 q12 ?_
      obtain ⟨ht, hf⟩ := h
      refine go_icmpge (tgt := 49) (show decode cX10_border 32 = .ok (.if_icmp .ge 17, 3) by decide +kernel) (by decide) (fun hc => ?_) (fun hc => ?_)
      · have h := ht hc
        refine go_iconst (show decode cX10_border 49 = .ok (.iconst (-1), 1) by decide +kernel) (by decide) ?_
        exact go_iret (show decode cX10_border 50 = .ok (.ireturn, 1) by decide +kernel) rfl h
      · have h := hf hc
        refine go_aload_n (show decode cX10_border 35 = .ok (.aload_n 0, 1) by decide +kernel) (by rfl) ?_
        refine go_getR (show decode cX10_border 36 = .ok (.getfield 25, 3) by decide +kernel) fl_X10_25 rfl q9 ?_
        refine go_bipush (show decode cX10_border 39 = .ok (.bipush 48, 2) by decide +kernel) (by decide) ?_
        refine go_iload_n (show decode cX10_border 41 = .ok (.iload_n 1, 1) by decide +kernel) (by rfl) ?_
        obtain ⟨q13, h⟩ := h
        refine go_imul (show decode cX10_border 42 = .ok (.imul, 1) by decide +kernel) q13 ?_
        refine go_iload_n (show decode cX10_border 43 = .ok (.iload_n 2, 1) by decide +kernel) (by rfl) ?_
        obtain ⟨q14, h⟩ := h
        refine go_iadd (show decode cX10_border 44 = .ok (.iadd, 1) by decide +kernel) q14 ?_
        obtain ⟨q15, h⟩ := h
        obtain ⟨q16, h⟩ := h
        obtain ⟨q17, h⟩ := h
        refine go_iaload (show decode cX10_border 45 = .ok (.iaload, 1) by decide +kernel) q15 q16 q17 ?_
        refine go_goto (tgt := 50) (show decode cX10_border 46 = .ok (.goto 4, 3) by decide +kernel) (by decide) ?_
        exact go_iret (show decode cX10_border 50 = .ok (.ireturn, 1) by decide +kernel) rfl h
    · have h := hf hc
      refine go_bipush (show decode cX10_border 22 = .ok (.bipush (-3), 2) by decide +kernel) (by decide) ?_
      exact go_iret (show decode cX10_border 24 = .ok (.ireturn, 1) by decide +kernel) rfl h
  · have h := hf hc
    refine go_bipush (show decode cX10_border 15 = .ok (.bipush (-2), 2) by decide +kernel) (by decide) ?_
    exact go_iret (show decode cX10_border 17 = .ok (.ireturn, 1) by decide +kernel) rfl h
