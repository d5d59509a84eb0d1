def V_X10_comes_170 (d : Nat) (S : AS) (F : AF) (G : AG) (Q : AQ) (a0 : Nat) (a1 : Int) (a2 : Int) (a3 : Int) (a4 : Int) (a5 : Int) : Prop :=
  (sK S a0 = 10) ∧
  (sK S (sR S a0 5) = 20) ∧
  ((0 : Int) ≤ a1) ∧
  ((a1 : Int) < (sN S (sR S a0 5) : Int)) ∧
  (r32 ((G (sR S a0 5) a1) + 1)) ∧
  ∀ G6 : AG, G6 = gu G (sR S a0 5) a1 ((G (sR S a0 5) a1) + 1) →
  Q none S F G6
theorem R_X10_comes_170 {d : Nat} {S : AS} {F : AF} {G : AG} {Q : AQ} {a0 : Nat} {a1 : Int} {a2 : Int} {a3 : Int} {a4 : Int} {a5 : Int} (h : V_X10_comes_170 d S F G Q a0 a1 a2 a3 a4 a5) : Go d MX10_comes 170 [some (vR a0), some (vI a1), some (vI a2), some (vI a3), some (vI a4), some (vI a5)] [] S F G Q := by
  unfold V_X10_comes_170 at h
  refine go_aload_n (show decode cX10_comes 170 = .ok (.aload_n 0, 1) by decide +kernel) (by rfl) ?_
  obtain ⟨q1, h⟩ := h
  refine go_getR (show decode cX10_comes 171 = .ok (.getfield 29, 3) by decide +kernel) fl_X10_29 rfl q1 ?_
  refine go_iload_n (show decode cX10_comes 174 = .ok (.iload_n 1, 1) by decide +kernel) (by rfl) ?_
  refine go_dup2 (show decode cX10_comes 175 = .ok (.dup2, 1) by decide +kernel) ?_
  obtain ⟨q2, h⟩ := h
  obtain ⟨q3, h⟩ := h
  obtain ⟨q4, h⟩ := h
  refine go_iaload (show decode cX10_comes 176 = .ok (.iaload, 1) by decide +kernel) q2 q3 q4 ?_
  refine go_iconst (show decode cX10_comes 177 = .ok (.iconst 1, 1) by decide +kernel) (by decide) ?_
  obtain ⟨q5, h⟩ := h
  refine go_iadd (show decode cX10_comes 178 = .ok (.iadd, 1) by decide +kernel) q5 ?_
  refine go_iastore (show decode cX10_comes 179 = .ok (.iastore, 1) by decide +kernel) q2 q3 q4  ?_
  obtain ⟨G6, G6e⟩ : ∃ G6 : AG, G6 = gu G (sR S a0 5) a1 ((G (sR S a0 5) a1) + 1) := ⟨_, rfl⟩
  have h := h G6 G6e
  rw [← G6e]
  exact go_vret (show decode cX10_comes 180 = .ok (.return_, 1) by decide +kernel) rfl h
def V_X10_comes_98 (d : Nat) (S : AS) (F : AF) (G : AG) (Q : AQ) (a0 : Nat) (a1 : Int) (a2 : Int) (a3 : Int) (a4 : Int) (a5 : Int) : Prop :=
  ((a5 ≤ a4) →
    (sK S a0 = 10) ∧
    (r32 (48 * a1)) ∧
    (r32 ((48 * a1) + a4)) ∧
    (sK S (sR S a0 4) = 20) ∧
    ((0 : Int) ≤ (48 * a1) + a4) ∧
    (((48 * a1) + a4 : Int) < (sN S (sR S a0 4) : Int)) ∧
    ∀ G7 : AG, G7 = gu G (sR S a0 4) ((48 * a1) + a4) a2 →
    (sK S (sR S a0 18) = 20) ∧
    ((0 : Int) ≤ a1) ∧
    ((a1 : Int) < (sN S (sR S a0 18) : Int)) ∧
    ((G7 (sR S a0 18) a1 ≤ a2) →
      V_X10_comes_170 d S F G7 Q a0 a1 a2 a3 a4 a5) ∧
    ((¬ G7 (sR S a0 18) a1 ≤ a2) →
      (sK S (sR S a0 6) = 20) ∧
      ((a1 : Int) < (sN S (sR S a0 6) : Int)) ∧
      (r32 ((G7 (sR S a0 6) a1) + 1)) ∧
      ∀ G14 : AG, G14 = gu G7 (sR S a0 6) a1 ((G7 (sR S a0 6) a1) + 1) →
      V_X10_comes_170 d S F G14 Q a0 a1 a2 a3 a4 a5)) ∧
  ((¬ a5 ≤ a4) →
    (sK S a0 = 10) ∧
    (r32 (48 * a1)) ∧
    (r32 ((48 * a1) + a5)) ∧
    (r32 (((48 * a1) + a5) - 1)) ∧
    (sK S (sR S a0 4) = 20) ∧
    ((0 : Int) ≤ ((48 * a1) + a5) - 1) ∧
    ((((48 * a1) + a5) - 1 : Int) < (sN S (sR S a0 4) : Int)) ∧
    ((0 : Int) ≤ (48 * a1) + a5) ∧
    (((48 * a1) + a5 : Int) < (sN S (sR S a0 4) : Int)) ∧
    ∀ G24 : AG, G24 = gu G (sR S a0 4) ((48 * a1) + a5) (G (sR S a0 4) (((48 * a1) + a5) - 1)) →
    (r32 (a5 + (-1))) ∧
    Go d MX10_comes 98 [some (vR a0), some (vI a1), some (vI a2), some (vI a3), some (vI a4), some (vI (a5 + (-1)))] [] S F G24 Q)
theorem R_X10_comes_98 {d : Nat} {S : AS} {F : AF} {G : AG} {Q : AQ} {a0 : Nat} {a1 : Int} {a2 : Int} {a3 : Int} {a4 : Int} {a5 : Int} (h : V_X10_comes_98 d S F G Q a0 a1 a2 a3 a4 a5) : Go d MX10_comes 98 [some (vR a0), some (vI a1), some (vI a2), some (vI a3), some (vI a4), some (vI a5)] [] S F G Q := by
  unfold V_X10_comes_98 at h
  refine go_iload (show decode cX10_comes 98 = .ok (.iload 5, 2) by decide +kernel) (by rfl) ?_
  refine go_iload (show decode cX10_comes 100 = .ok (.iload 4, 2) by decide +kernel) (by rfl) ?_
  obtain ⟨ht, hf⟩ := h
  refine go_icmple (tgt := 137) (show decode cX10_comes 102 = .ok (.if_icmp .le 35, 3) by decide +kernel) (by decide) (fun hc => ?_) (fun hc => ?_)
  · have h := ht hc
    refine go_aload_n (show decode cX10_comes 137 = .ok (.aload_n 0, 1) by decide +kernel) (by rfl) ?_
    obtain ⟨q1, h⟩ := h
    refine go_getR (show decode cX10_comes 138 = .ok (.getfield 25, 3) by decide +kernel) fl_X10_25 rfl q1 ?_
    refine go_bipush (show decode cX10_comes 141 = .ok (.bipush 48, 2) by decide +kernel) (by decide) ?_
    refine go_iload_n (show decode cX10_comes 143 = .ok (.iload_n 1, 1) by decide +kernel) (by rfl) ?_
    obtain ⟨q2, h⟩ := h
    refine go_imul (show decode cX10_comes 144 = .ok (.imul, 1) by decide +kernel) q2 ?_
    refine go_iload (show decode cX10_comes 145 = .ok (.iload 4, 2) by decide +kernel) (by rfl) ?_
    obtain ⟨q3, h⟩ := h
    refine go_iadd (show decode cX10_comes 147 = .ok (.iadd, 1) by decide +kernel) q3 ?_
    refine go_iload_n (show decode cX10_comes 148 = .ok (.iload_n 2, 1) by decide +kernel) (by rfl) ?_
    obtain ⟨q4, h⟩ := h
    obtain ⟨q5, h⟩ := h
    obtain ⟨q6, h⟩ := h
    refine go_iastore (show decode cX10_comes 149 = .ok (.iastore, 1) by decide +kernel) q4 q5 q6  ?_
    obtain ⟨G7, G7e⟩ : ∃ G7 : AG, G7 = gu G (sR S a0 4) ((48 * a1) + a4) a2 := ⟨_, rfl⟩
    have h := h G7 G7e
    rw [← G7e]
    refine go_iload_n (show decode cX10_comes 150 = .ok (.iload_n 2, 1) by decide +kernel) (by rfl) ?_
    refine go_aload_n (show decode cX10_comes 151 = .ok (.aload_n 0, 1) by decide +kernel) (by rfl) ?_
    refine go_getR (show decode cX10_comes 152 = .ok (.getfield 65, 3) by decide +kernel) fl_X10_65 rfl q1 ?_
    refine go_iload_n (show decode cX10_comes 155 = .ok (.iload_n 1, 1) by decide +kernel) (by rfl) ?_
    obtain ⟨q8, h⟩ := h
    obtain ⟨q9, h⟩ := h
    obtain ⟨q10, h⟩ := h
    refine go_iaload (show decode cX10_comes 156 = .ok (.iaload, 1) by decide +kernel) q8 q9 q10 ?_
    obtain ⟨ht, hf⟩ := h
    refine go_icmpge (tgt := 170) (show decode cX10_comes 157 = .ok (.if_icmp .ge 13, 3) by decide +kernel) (by decide) (fun hc => ?_) (fun hc => ?_)
    · have h := ht hc
      exact R_X10_comes_170 h
    · have h := hf hc
      refine go_aload_n (show decode cX10_comes 160 = .ok (.aload_n 0, 1) by decide +kernel) (by rfl) ?_
      refine go_getR (show decode cX10_comes 161 = .ok (.getfield 32, 3) by decide +kernel) fl_X10_32 rfl q1 ?_
      refine go_iload_n (show decode cX10_comes 164 = .ok (.iload_n 1, 1) by decide +kernel) (by rfl) ?_
      refine go_dup2 (show decode cX10_comes 165 = .ok (.dup2, 1) by decide +kernel) ?_
      obtain ⟨q11, h⟩ := h
      obtain ⟨q12, h⟩ := h
      refine go_iaload (show decode cX10_comes 166 = .ok (.iaload, 1) by decide +kernel) q11 q9 q12 ?_
      refine go_iconst (show decode cX10_comes 167 = .ok (.iconst 1, 1) by decide +kernel) (by decide) ?_
      obtain ⟨q13, h⟩ := h
      refine go_iadd (show decode cX10_comes 168 = .ok (.iadd, 1) by decide +kernel) q13 ?_
      refine go_iastore (show decode cX10_comes 169 = .ok (.iastore, 1) by decide +kernel) q11 q9 q12  ?_
      obtain ⟨G14, G14e⟩ : ∃ G14 : AG, G14 = gu G7 (sR S a0 6) a1 ((G7 (sR S a0 6) a1) + 1) := ⟨_, rfl⟩
      have h := h G14 G14e
      rw [← G14e]
      exact R_X10_comes_170 h
  · have h := hf hc
    refine go_aload_n (show decode cX10_comes 105 = .ok (.aload_n 0, 1) by decide +kernel) (by rfl) ?_
    obtain ⟨q15, h⟩ := h
    refine go_getR (show decode cX10_comes 106 = .ok (.getfield 25, 3) by decide +kernel) fl_X10_25 rfl q15 ?_
    refine go_bipush (show decode cX10_comes 109 = .ok (.bipush 48, 2) by decide +kernel) (by decide) ?_
    refine go_iload_n (show decode cX10_comes 111 = .ok (.iload_n 1, 1) by decide +kernel) (by rfl) ?_
    obtain ⟨q16, h⟩ := h
    refine go_imul (show decode cX10_comes 112 = .ok (.imul, 1) by decide +kernel) q16 ?_
    refine go_iload (show decode cX10_comes 113 = .ok (.iload 5, 2) by decide +kernel) (by rfl) ?_
    obtain ⟨q17, h⟩ := h
    refine go_iadd (show decode cX10_comes 115 = .ok (.iadd, 1) by decide +kernel) q17 ?_
    refine go_aload_n (show decode cX10_comes 116 = .ok (.aload_n 0, 1) by decide +kernel) (by rfl) ?_
    refine go_getR (show decode cX10_comes 117 = .ok (.getfield 25, 3) by decide +kernel) fl_X10_25 rfl q15 ?_
    refine go_bipush (show decode cX10_comes 120 = .ok (.bipush 48, 2) by decide +kernel) (by decide) ?_
    refine go_iload_n (show decode cX10_comes 122 = .ok (.iload_n 1, 1) by decide +kernel) (by rfl) ?_
    refine go_imul (show decode cX10_comes 123 = .ok (.imul, 1) by decide +kernel) q16 ?_
    refine go_iload (show decode cX10_comes 124 = .ok (.iload 5, 2) by decide +kernel) (by rfl) ?_
    refine go_iadd (show decode cX10_comes 126 = .ok (.iadd, 1) by decide +kernel) q17 ?_
    refine go_iconst (show decode cX10_comes 127 = .ok (.iconst 1, 1) by decide +kernel) (by decide) ?_
    obtain ⟨q18, h⟩ := h
    refine go_isub (show decode cX10_comes 128 = .ok (.isub, 1) by decide +kernel) q18 ?_
    obtain ⟨q19, h⟩ := h
    obtain ⟨q20, h⟩ := h
    obtain ⟨q21, h⟩ := h
    refine go_iaload (show decode cX10_comes 129 = .ok (.iaload, 1) by decide +kernel) q19 q20 q21 ?_
    obtain ⟨q22, h⟩ := h
    obtain ⟨q23, h⟩ := h
    refine go_iastore (show decode cX10_comes 130 = .ok (.iastore, 1) by decide +kernel) q19 q22 q23  ?_
    obtain ⟨G24, G24e⟩ : ∃ G24 : AG, G24 = gu G (sR S a0 4) ((48 * a1) + a5) (G (sR S a0 4) (((48 * a1) + a5) - 1)) := ⟨_, rfl⟩
    have h := h G24 G24e
    rw [← G24e]
    obtain ⟨q25, h⟩ := h
    refine go_iinc (show decode cX10_comes 131 = .ok (.iinc 5 (-1), 3) by decide +kernel) (by rfl) q25 (by decide) ?_
    show Go d MX10_comes 134 [some (vR a0), some (vI a1), some (vI a2), some (vI a3), some (vI a4), some (vI (a5 + (-1)))] [] S F G24 Q
    refine go_goto (tgt := 98) (show decode cX10_comes 134 = .ok (.goto (-36), 3) by decide +kernel) (by decide) ?_
    exact h
def V_X10_comes_61 (d : Nat) (S : AS) (F : AF) (G : AG) (Q : AQ) (a0 : Nat) (a1 : Int) (a2 : Int) (a3 : Int) (a4 : Int) (a5 : Int) : Prop :=
  (sK S a0 = 10) ∧
  ((F a0 11 ≤ a5) →
    Go d MX10_comes 98 [some (vR a0), some (vI a1), some (vI a2), some (vI a3), some (vI a4), some (vI a3)] [] S F G Q) ∧
  ((¬ F a0 11 ≤ a5) →
    (r32 (6912 * a5)) ∧
    (r32 (a4 - 1)) ∧
    (1 ≤ d) ∧
    Ok (d - 1) MX10_parts [vR (sR S a0 8), vI (6912 * a5), vI a1, vI (a4 - 1), vI a3] S F G (fun w5 S6 F7 G8 =>
    w5 = none ∧
    (r32 (a5 + 1)) ∧
    Go d MX10_comes 61 [some (vR a0), some (vI a1), some (vI a2), some (vI a3), some (vI a4), some (vI (a5 + 1))] [] S6 F7 G8 Q))
theorem R_X10_comes_61 {d : Nat} {S : AS} {F : AF} {G : AG} {Q : AQ} {a0 : Nat} {a1 : Int} {a2 : Int} {a3 : Int} {a4 : Int} {a5 : Int} (h : V_X10_comes_61 d S F G Q a0 a1 a2 a3 a4 a5) : Go d MX10_comes 61 [some (vR a0), some (vI a1), some (vI a2), some (vI a3), some (vI a4), some (vI a5)] [] S F G Q := by
  unfold V_X10_comes_61 at h
  refine go_iload (show decode cX10_comes 61 = .ok (.iload 5, 2) by decide +kernel) (by rfl) ?_
  refine go_aload_n (show decode cX10_comes 63 = .ok (.aload_n 0, 1) by decide +kernel) (by rfl) ?_
  obtain ⟨q1, h⟩ := h
  refine go_getI (show decode cX10_comes 64 = .ok (.getfield 108, 3) by decide +kernel) fl_X10_108 (Or.inl rfl) q1 ?_
  obtain ⟨ht, hf⟩ := h
  refine go_icmpge (tgt := 95) (show decode cX10_comes 67 = .ok (.if_icmp .ge 28, 3) by decide +kernel) (by decide) (fun hc => ?_) (fun hc => ?_)
  · have h := ht hc
    refine go_iload_n (show decode cX10_comes 95 = .ok (.iload_n 3, 1) by decide +kernel) (by rfl) ?_
    refine go_istore (show decode cX10_comes 96 = .ok (.istore 5, 2) by decide +kernel) (by decide) ?_
    show Go d MX10_comes 98 [some (vR a0), some (vI a1), some (vI a2), some (vI a3), some (vI a4), some (vI a3)] [] S F G Q
    exact h
  · have h := hf hc
    refine go_aload_n (show decode cX10_comes 70 = .ok (.aload_n 0, 1) by decide +kernel) (by rfl) ?_
    refine go_getR (show decode cX10_comes 71 = .ok (.getfield 40, 3) by decide +kernel) fl_X10_40 rfl q1 ?_
    refine go_sipush (show decode cX10_comes 74 = .ok (.sipush 6912, 3) by decide +kernel) (by decide) ?_
    refine go_iload (show decode cX10_comes 77 = .ok (.iload 5, 2) by decide +kernel) (by rfl) ?_
    obtain ⟨q2, h⟩ := h
    refine go_imul (show decode cX10_comes 79 = .ok (.imul, 1) by decide +kernel) q2 ?_
    refine go_iload_n (show decode cX10_comes 80 = .ok (.iload_n 1, 1) by decide +kernel) (by rfl) ?_
    refine go_iload (show decode cX10_comes 81 = .ok (.iload 4, 2) by decide +kernel) (by rfl) ?_
    refine go_iconst (show decode cX10_comes 83 = .ok (.iconst 1, 1) by decide +kernel) (by decide) ?_
    obtain ⟨q3, h⟩ := h
    refine go_isub (show decode cX10_comes 84 = .ok (.isub, 1) by decide +kernel) q3 ?_
    refine go_iload_n (show decode cX10_comes 85 = .ok (.iload_n 3, 1) by decide +kernel) (by rfl) ?_
    obtain ⟨q4, h⟩ := h
    refine go_callS (d2 := d - 1) (M2 := MX10_parts) (n := 5) (av := [vR (sR S a0 8), vI (6912 * a5), vI a1, vI (a4 - 1), vI a3]) (st := []) (show decode cX10_comes 86 = .ok (.invokestatic 138, 3) by decide +kernel) ml_X10_138 mt_X10_parts mst_X10_parts rfl (Nat.le_of_ble_eq_true rfl) (by omega) (ok_mono h (fun w5 S6 F7 G8 h => ?_))
    obtain ⟨e9, h⟩ := h
    subst e9
    show Go d MX10_comes 89 [some (vR a0), some (vI a1), some (vI a2), some (vI a3), some (vI a4), some (vI a5)] [] S6 F7 G8 Q
    obtain ⟨q9, h⟩ := h
    refine go_iinc (show decode cX10_comes 89 = .ok (.iinc 5 1, 3) by decide +kernel) (by rfl) q9 (by decide) ?_
    show Go d MX10_comes 92 [some (vR a0), some (vI a1), some (vI a2), some (vI a3), some (vI a4), some (vI (a5 + 1))] [] S6 F7 G8 Q
    refine go_goto (tgt := 61) (show decode cX10_comes 92 = .ok (.goto (-31), 3) by decide +kernel) (by decide) ?_
    exact h
def V_X10_comes_20 (d : Nat) (S : AS) (F : AF) (G : AG) (Q : AQ) (a0 : Nat) (a1 : Int) (a2 : Int) (a3 : Int) (a4 : Int) : Prop :=
  (sK S a0 = 10) ∧
  (r32 (48 * a1)) ∧
  (r32 ((48 * a1) + a4)) ∧
  (r32 (((48 * a1) + a4) - 1)) ∧
  (sK S (sR S a0 4) = 20) ∧
  ((0 : Int) ≤ ((48 * a1) + a4) - 1) ∧
  ((((48 * a1) + a4) - 1 : Int) < (sN S (sR S a0 4) : Int)) ∧
  ((G (sR S a0 4) (((48 * a1) + a4) - 1) ≤ a2) →
    (r32 (a4 - 1)) ∧
    (1 ≤ d) ∧
    Ok (d - 1) MX10_parts [vR (sR S a0 7), vI 0, vI a1, vI (a4 - 1), vI a3] S F G (fun w10 S11 F12 G13 =>
    w10 = none ∧
    Go d MX10_comes 61 [some (vR a0), some (vI a1), some (vI a2), some (vI a3), some (vI a4), some (vI 0)] [] S11 F12 G13 Q)) ∧
  ((¬ G (sR S a0 4) (((48 * a1) + a4) - 1) ≤ a2) →
    (r32 (a4 + (-1))) ∧
    Go d MX10_comes 20 [some (vR a0), some (vI a1), some (vI a2), some (vI a3), some (vI (a4 + (-1))), none] [] S F G Q)
theorem R_X10_comes_20 {d : Nat} {S : AS} {F : AF} {G : AG} {Q : AQ} {a0 : Nat} {a1 : Int} {a2 : Int} {a3 : Int} {a4 : Int} (h : V_X10_comes_20 d S F G Q a0 a1 a2 a3 a4) : Go d MX10_comes 20 [some (vR a0), some (vI a1), some (vI a2), some (vI a3), some (vI a4), none] [] S F G Q := by
  unfold V_X10_comes_20 at h
  refine go_aload_n (show decode cX10_comes 20 = .ok (.aload_n 0, 1) by decide +kernel) (by rfl) ?_
  obtain ⟨q1, h⟩ := h
  refine go_getR (show decode cX10_comes 21 = .ok (.getfield 25, 3) by decide +kernel) fl_X10_25 rfl q1 ?_
  refine go_bipush (show decode cX10_comes 24 = .ok (.bipush 48, 2) by decide +kernel) (by decide) ?_
  refine go_iload_n (show decode cX10_comes 26 = .ok (.iload_n 1, 1) by decide +kernel) (by rfl) ?_
  obtain ⟨q2, h⟩ := h
  refine go_imul (show decode cX10_comes 27 = .ok (.imul, 1) by decide +kernel) q2 ?_
  refine go_iload (show decode cX10_comes 28 = .ok (.iload 4, 2) by decide +kernel) (by rfl) ?_
  obtain ⟨q3, h⟩ := h
  refine go_iadd (show decode cX10_comes 30 = .ok (.iadd, 1) by decide +kernel) q3 ?_
  refine go_iconst (show decode cX10_comes 31 = .ok (.iconst 1, 1) by decide +kernel) (by decide) ?_
  obtain ⟨q4, h⟩ := h
  refine go_isub (show decode cX10_comes 32 = .ok (.isub, 1) by decide +kernel) q4 ?_
  obtain ⟨q5, h⟩ := h
  obtain ⟨q6, h⟩ := h
  obtain ⟨q7, h⟩ := h
  refine go_iaload (show decode cX10_comes 33 = .ok (.iaload, 1) by decide +kernel) q5 q6 q7 ?_
  refine go_iload_n (show decode cX10_comes 34 = .ok (.iload_n 2, 1) by decide +kernel) (by rfl) ?_
  obtain ⟨ht, hf⟩ := h
  refine go_icmple (tgt := 44) (show decode cX10_comes 35 = .ok (.if_icmp .le 9, 3) by decide +kernel) (by decide) (fun hc => ?_) (fun hc => ?_)
  · have h := ht hc
    refine go_aload_n (show decode cX10_comes 44 = .ok (.aload_n 0, 1) by decide +kernel) (by rfl) ?_
    refine go_getR (show decode cX10_comes 45 = .ok (.getfield 35, 3) by decide +kernel) fl_X10_35 rfl q1 ?_
    refine go_iconst (show decode cX10_comes 48 = .ok (.iconst 0, 1) by decide +kernel) (by decide) ?_
    refine go_iload_n (show decode cX10_comes 49 = .ok (.iload_n 1, 1) by decide +kernel) (by rfl) ?_
    refine go_iload (show decode cX10_comes 50 = .ok (.iload 4, 2) by decide +kernel) (by rfl) ?_
    refine go_iconst (show decode cX10_comes 52 = .ok (.iconst 1, 1) by decide +kernel) (by decide) ?_
    obtain ⟨q8, h⟩ := h
    refine go_isub (show decode cX10_comes 53 = .ok (.isub, 1) by decide +kernel) q8 ?_
    refine go_iload_n (show decode cX10_comes 54 = .ok (.iload_n 3, 1) by decide +kernel) (by rfl) ?_
    obtain ⟨q9, h⟩ := h
    refine go_callS (d2 := d - 1) (M2 := MX10_parts) (n := 5) (av := [vR (sR S a0 7), vI 0, vI a1, vI (a4 - 1), vI a3]) (st := []) (show decode cX10_comes 55 = .ok (.invokestatic 138, 3) by decide +kernel) ml_X10_138 mt_X10_parts mst_X10_parts rfl (Nat.le_of_ble_eq_true rfl) (by omega) (ok_mono h (fun w10 S11 F12 G13 h => ?_))
    obtain ⟨e9, h⟩ := h
    subst e9
    show Go d MX10_comes 58 [some (vR a0), some (vI a1), some (vI a2), some (vI a3), some (vI a4), none] [] S11 F12 G13 Q
    refine go_iconst (show decode cX10_comes 58 = .ok (.iconst 0, 1) by decide +kernel) (by decide) ?_
    refine go_istore (show decode cX10_comes 59 = .ok (.istore 5, 2) by decide +kernel) (by decide) ?_
    show Go d MX10_comes 61 [some (vR a0), some (vI a1), some (vI a2), some (vI a3), some (vI a4), some (vI 0)] [] S11 F12 G13 Q
    exact h
  · have h := hf hc
    obtain ⟨q14, h⟩ := h
    refine go_iinc (show decode cX10_comes 38 = .ok (.iinc 4 (-1), 3) by decide +kernel) (by rfl) q14 (by decide) ?_
    show Go d MX10_comes 41 [some (vR a0), some (vI a1), some (vI a2), some (vI a3), some (vI (a4 + (-1))), none] [] S F G Q
    refine go_goto (tgt := 20) (show decode cX10_comes 41 = .ok (.goto (-21), 3) by decide +kernel) (by decide) ?_
    exact h
def V_X10_comes_0 (d : Nat) (S : AS) (F : AF) (G : AG) (Q : AQ) (a0 : Nat) (a1 : Int) (a2 : Int) : Prop :=
  (1 ≤ d) ∧
  (sK S a0 = 10) ∧
  Ok (d - 1) MX10_isEdge [vR a0, vI a1, vI a2] S F G (fun w2 S3 F4 G5 =>
  ∃ z7 : Int, w2 = some (vI z7) ∧
  ((z7 = 0) →
    (sK S3 a0 = 10) ∧
    (sK S3 (sR S3 a0 5) = 20) ∧
    ((0 : Int) ≤ a1) ∧
    ((a1 : Int) < (sN S3 (sR S3 a0 5) : Int)) ∧
    ∀ x12 : Int, x12 = G5 (sR S3 a0 5) a1 →
    Go d MX10_comes 20 [some (vR a0), some (vI a1), some (vI a2), some (vI x12), some (vI x12), none] [] S3 F4 G5 Q) ∧
  ((¬ z7 = 0) →
    Q none S3 F4 G5))
theorem R_X10_comes_0 {d : Nat} {S : AS} {F : AF} {G : AG} {Q : AQ} {a0 : Nat} {a1 : Int} {a2 : Int} (h : V_X10_comes_0 d S F G Q a0 a1 a2) : Go d MX10_comes 0 [some (vR a0), some (vI a1), some (vI a2), none, none, none] [] S F G Q := by
  unfold V_X10_comes_0 at h
  refine go_aload_n (show decode cX10_comes 0 = .ok (.aload_n 0, 1) by decide +kernel) (by rfl) ?_
  refine go_iload_n (show decode cX10_comes 1 = .ok (.iload_n 1, 1) by decide +kernel) (by rfl) ?_
  refine go_iload_n (show decode cX10_comes 2 = .ok (.iload_n 2, 1) by decide +kernel) (by rfl) ?_
  obtain ⟨q1, h⟩ := h
  obtain ⟨q6, h⟩ := h
  refine go_callV (d2 := d - 1) (M2 := MX10_isEdge) (n := 2) (ci := 10) (av := [vI a1, vI a2]) (st := []) (show decode cX10_comes 3 = .ok (.invokevirtual 134, 3) by decide +kernel) ml_X10_134 mt_X10_isEdge min_X10_isEdge mse_X10_isEdge (by decide) q6 rfl (Nat.le_of_ble_eq_true rfl) (by omega) (ok_mono h (fun w2 S3 F4 G5 h => ?_))
  obtain ⟨z7, e9, h⟩ := h
  subst e9
  show Go d MX10_comes 6 [some (vR a0), some (vI a1), some (vI a2), none, none, none] [vI z7] S3 F4 G5 Q
  obtain ⟨ht, hf⟩ := h
  refine go_ifeq (tgt := 10) (show decode cX10_comes 6 = .ok (.ifCond .eq 4, 3) by decide +kernel) (by decide) (fun hc => ?_) (fun hc => ?_)
  · have h := ht hc
    refine go_aload_n (show decode cX10_comes 10 = .ok (.aload_n 0, 1) by decide +kernel) (by rfl) ?_
    obtain ⟨q8, h⟩ := h
    refine go_getR (show decode cX10_comes 11 = .ok (.getfield 29, 3) by decide +kernel) fl_X10_29 rfl q8 ?_
    refine go_iload_n (show decode cX10_comes 14 = .ok (.iload_n 1, 1) by decide +kernel) (by rfl) ?_
    obtain ⟨q9, h⟩ := h
    obtain ⟨q10, h⟩ := h
    obtain ⟨q11, h⟩ := h
    refine go_iaload (show decode cX10_comes 15 = .ok (.iaload, 1) by decide +kernel) q9 q10 q11 ?_
    obtain ⟨x12, x12e⟩ : ∃ x12 : Int, x12 = G5 (sR S3 a0 5) a1 := ⟨_, rfl⟩
    have h := h x12 x12e
    rw [← x12e]
    refine go_istore_n (show decode cX10_comes 16 = .ok (.istore_n 3, 1) by decide +kernel) (by decide) ?_
    show Go d MX10_comes 17 [some (vR a0), some (vI a1), some (vI a2), some (vI x12), none, none] [] S3 F4 G5 Q
    refine go_iload_n (show decode cX10_comes 17 = .ok (.iload_n 3, 1) by decide +kernel) (by rfl) ?_
    refine go_istore (show decode cX10_comes 18 = .ok (.istore 4, 2) by decide +kernel) (by decide) ?_
    show Go d MX10_comes 20 [some (vR a0), some (vI a1), some (vI a2), some (vI x12), some (vI x12), none] [] S3 F4 G5 Q
    exact h
  · have h := hf hc
    exact go_vret (show decode cX10_comes 9 = .ok (.return_, 1) by decide +kernel) rfl h
def V_X10_parts_85 (d : Nat) (S : AS) (F : AF) (G : AG) (Q : AQ) (a0 : Nat) (a1 : Int) (a2 : Int) (a3 : Int) (a4 : Int) (a5 : Int) (a6 : Int) (a7 : Int) (a8 : Int) (s0 : Int) : Prop :=
  (r32 (a1 + a8)) ∧
  (r32 (a1 + s0)) ∧
  (sK S a0 = 21) ∧
  ((0 : Int) ≤ a1 + s0) ∧
  ((a1 + s0 : Int) < (sN S a0 : Int)) ∧
  ((0 : Int) ≤ a1 + a8) ∧
  ((a1 + a8 : Int) < (sN S a0 : Int)) ∧
  ∀ G8 : AG, G8 = gu G a0 (a1 + a8) (G a0 (a1 + s0)) →
  (r32 (a7 + 1)) ∧
  Go d MX10_parts 22 [some (vR a0), some (vI a1), some (vI a2), some (vI a3), some (vI a4), some (vI a5), some (vI a6), some (vI (a7 + 1)), none, none] [] S F G8 Q
theorem R_X10_parts_85 {d : Nat} {S : AS} {F : AF} {G : AG} {Q : AQ} {a0 : Nat} {a1 : Int} {a2 : Int} {a3 : Int} {a4 : Int} {a5 : Int} {a6 : Int} {a7 : Int} {a8 : Int} {s0 : Int} (h : V_X10_parts_85 d S F G Q a0 a1 a2 a3 a4 a5 a6 a7 a8 s0) : Go d MX10_parts 85 [some (vR a0), some (vI a1), some (vI a2), some (vI a3), some (vI a4), some (vI a5), some (vI a6), some (vI a7), some (vI a8), none] [vI s0] S F G Q := by
  unfold V_X10_parts_85 at h
  refine go_istore (show decode cX10_parts 85 = .ok (.istore 9, 2) by decide +kernel) (by decide) ?_
  show Go d MX10_parts 87 [some (vR a0), some (vI a1), some (vI a2), some (vI a3), some (vI a4), some (vI a5), some (vI a6), some (vI a7), some (vI a8), some (vI s0)] [] S F G Q
  refine go_aload_n (show decode cX10_parts 87 = .ok (.aload_n 0, 1) by decide +kernel) (by rfl) ?_
  refine go_iload_n (show decode cX10_parts 88 = .ok (.iload_n 1, 1) by decide +kernel) (by rfl) ?_
  refine go_iload (show decode cX10_parts 89 = .ok (.iload 8, 2) by decide +kernel) (by rfl) ?_
  obtain ⟨q1, h⟩ := h
  refine go_iadd (show decode cX10_parts 91 = .ok (.iadd, 1) by decide +kernel) q1 ?_
  refine go_aload_n (show decode cX10_parts 92 = .ok (.aload_n 0, 1) by decide +kernel) (by rfl) ?_
  refine go_iload_n (show decode cX10_parts 93 = .ok (.iload_n 1, 1) by decide +kernel) (by rfl) ?_
  refine go_iload (show decode cX10_parts 94 = .ok (.iload 9, 2) by decide +kernel) (by rfl) ?_
  obtain ⟨q2, h⟩ := h
  refine go_iadd (show decode cX10_parts 96 = .ok (.iadd, 1) by decide +kernel) q2 ?_
  obtain ⟨q3, h⟩ := h
  obtain ⟨q4, h⟩ := h
  obtain ⟨q5, h⟩ := h
  refine go_laload (show decode cX10_parts 97 = .ok (.laload, 1) by decide +kernel) q3 q4 q5 ?_
  obtain ⟨q6, h⟩ := h
  obtain ⟨q7, h⟩ := h
  refine go_lastore (show decode cX10_parts 98 = .ok (.lastore, 1) by decide +kernel) q3 q6 q7  ?_
  obtain ⟨G8, G8e⟩ : ∃ G8 : AG, G8 = gu G a0 (a1 + a8) (G a0 (a1 + s0)) := ⟨_, rfl⟩
  have h := h G8 G8e
  rw [← G8e]
  obtain ⟨q9, h⟩ := h
  refine go_iinc (show decode cX10_parts 99 = .ok (.iinc 7 1, 3) by decide +kernel) (by rfl) q9 (by decide) ?_
  show Go d MX10_parts 102 [some (vR a0), some (vI a1), some (vI a2), some (vI a3), some (vI a4), some (vI a5), some (vI a6), some (vI (a7 + 1)), some (vI a8), some (vI s0)] [] S F G8 Q
  refine go_goto (tgt := 22) (show decode cX10_parts 102 = .ok (.goto (-80), 3) by decide +kernel) (by decide) ?_
  refine go_clr 8 ?_
  refine go_clr 9 ?_
  exact h
def V_X10_parts_54 (d : Nat) (S : AS) (F : AF) (G : AG) (Q : AQ) (a0 : Nat) (a1 : Int) (a2 : Int) (a3 : Int) (a4 : Int) (a5 : Int) (a6 : Int) (a7 : Int) (s0 : Int) : Prop :=
  ((¬ a2 = 0) →
    (r32 (a6 - 1)) ∧
    (1 ≤ d) ∧
    Ok (d - 1) MX10_slot [vI a5, vI a7, vI (a6 - 1)] S F G (fun w3 S4 F5 G6 =>
    ∃ z7 : Int, w3 = some (vI z7) ∧
    V_X10_parts_85 d S4 F5 G6 Q a0 a1 a2 a3 a4 a5 a6 a7 s0 z7)) ∧
  ((a2 = 0) →
    (r32 (a6 - 1)) ∧
    (1 ≤ d) ∧
    Ok (d - 1) MX10_slot [vI a5, vI (a6 - 1), vI a7] S F G (fun w10 S11 F12 G13 =>
    ∃ z14 : Int, w10 = some (vI z14) ∧
    V_X10_parts_85 d S11 F12 G13 Q a0 a1 a2 a3 a4 a5 a6 a7 s0 z14))
theorem R_X10_parts_54 {d : Nat} {S : AS} {F : AF} {G : AG} {Q : AQ} {a0 : Nat} {a1 : Int} {a2 : Int} {a3 : Int} {a4 : Int} {a5 : Int} {a6 : Int} {a7 : Int} {s0 : Int} (h : V_X10_parts_54 d S F G Q a0 a1 a2 a3 a4 a5 a6 a7 s0) : Go d MX10_parts 54 [some (vR a0), some (vI a1), some (vI a2), some (vI a3), some (vI a4), some (vI a5), some (vI a6), some (vI a7), none, none] [vI s0] S F G Q := by
  unfold V_X10_parts_54 at h
  refine go_istore (show decode cX10_parts 54 = .ok (.istore 8, 2) by decide +kernel) (by decide) ?_
  show Go d MX10_parts 56 [some (vR a0), some (vI a1), some (vI a2), some (vI a3), some (vI a4), some (vI a5), some (vI a6), some (vI a7), some (vI s0), none] [] S F G Q
  refine go_iload_n (show decode cX10_parts 56 = .ok (.iload_n 2, 1) by decide +kernel) (by rfl) ?_
  obtain ⟨ht, hf⟩ := h
  refine go_ifne (tgt := 74) (show decode cX10_parts 57 = .ok (.ifCond .ne 17, 3) by decide +kernel) (by decide) (fun hc => ?_) (fun hc => ?_)
  · have h := ht hc
    refine go_iload (show decode cX10_parts 74 = .ok (.iload 5, 2) by decide +kernel) (by rfl) ?_
    refine go_iload (show decode cX10_parts 76 = .ok (.iload 7, 2) by decide +kernel) (by rfl) ?_
    refine go_iload (show decode cX10_parts 78 = .ok (.iload 6, 2) by decide +kernel) (by rfl) ?_
    refine go_iconst (show decode cX10_parts 80 = .ok (.iconst 1, 1) by decide +kernel) (by decide) ?_
    obtain ⟨q1, h⟩ := h
    refine go_isub (show decode cX10_parts 81 = .ok (.isub, 1) by decide +kernel) q1 ?_
    obtain ⟨q2, h⟩ := h
    refine go_callS (d2 := d - 1) (M2 := MX10_slot) (n := 3) (av := [vI a5, vI a7, vI (a6 - 1)]) (st := []) (show decode cX10_parts 82 = .ok (.invokestatic 130, 3) by decide +kernel) ml_X10_130 mt_X10_slot mst_X10_slot rfl (Nat.le_of_ble_eq_true rfl) (by omega) (ok_mono h (fun w3 S4 F5 G6 h => ?_))
    obtain ⟨z7, e9, h⟩ := h
    subst e9
    show Go d MX10_parts 85 [some (vR a0), some (vI a1), some (vI a2), some (vI a3), some (vI a4), some (vI a5), some (vI a6), some (vI a7), some (vI s0), none] [vI z7] S4 F5 G6 Q
    exact R_X10_parts_85 h
  · have h := hf hc
    refine go_iload (show decode cX10_parts 60 = .ok (.iload 5, 2) by decide +kernel) (by rfl) ?_
    refine go_iload (show decode cX10_parts 62 = .ok (.iload 6, 2) by decide +kernel) (by rfl) ?_
    refine go_iconst (show decode cX10_parts 64 = .ok (.iconst 1, 1) by decide +kernel) (by decide) ?_
    obtain ⟨q8, h⟩ := h
    refine go_isub (show decode cX10_parts 65 = .ok (.isub, 1) by decide +kernel) q8 ?_
    refine go_iload (show decode cX10_parts 66 = .ok (.iload 7, 2) by decide +kernel) (by rfl) ?_
    obtain ⟨q9, h⟩ := h
    refine go_callS (d2 := d - 1) (M2 := MX10_slot) (n := 3) (av := [vI a5, vI (a6 - 1), vI a7]) (st := []) (show decode cX10_parts 68 = .ok (.invokestatic 130, 3) by decide +kernel) ml_X10_130 mt_X10_slot mst_X10_slot rfl (Nat.le_of_ble_eq_true rfl) (by omega) (ok_mono h (fun w10 S11 F12 G13 h => ?_))
    obtain ⟨z14, e9, h⟩ := h
    subst e9
    show Go d MX10_parts 71 [some (vR a0), some (vI a1), some (vI a2), some (vI a3), some (vI a4), some (vI a5), some (vI a6), some (vI a7), some (vI s0), none] [vI z14] S11 F12 G13 Q
    refine go_goto (tgt := 85) (show decode cX10_parts 71 = .ok (.goto 14, 3) by decide +kernel) (by decide) ?_
    exact R_X10_parts_85 h
def V_X10_parts_22 (d : Nat) (S : AS) (F : AF) (G : AG) (Q : AQ) (a0 : Nat) (a1 : Int) (a2 : Int) (a3 : Int) (a4 : Int) (a5 : Int) (a6 : Int) (a7 : Int) : Prop :=
  ((48 ≤ a7) →
    (r32 (a6 + (-1))) ∧
    Go d MX10_parts 13 [some (vR a0), some (vI a1), some (vI a2), some (vI a3), some (vI a4), some (vI a5), some (vI (a6 + (-1))), none, none, none] [] S F G Q) ∧
  ((¬ 48 ≤ a7) →
    ((¬ a2 = 0) →
      (1 ≤ d) ∧
      Ok (d - 1) MX10_slot [vI a5, vI a7, vI a6] S F G (fun w3 S4 F5 G6 =>
      ∃ z7 : Int, w3 = some (vI z7) ∧
      V_X10_parts_54 d S4 F5 G6 Q a0 a1 a2 a3 a4 a5 a6 a7 z7)) ∧
    ((a2 = 0) →
      (1 ≤ d) ∧
      Ok (d - 1) MX10_slot [vI a5, vI a6, vI a7] S F G (fun w9 S10 F11 G12 =>
      ∃ z13 : Int, w9 = some (vI z13) ∧
      V_X10_parts_54 d S10 F11 G12 Q a0 a1 a2 a3 a4 a5 a6 a7 z13)))
theorem R_X10_parts_22 {d : Nat} {S : AS} {F : AF} {G : AG} {Q : AQ} {a0 : Nat} {a1 : Int} {a2 : Int} {a3 : Int} {a4 : Int} {a5 : Int} {a6 : Int} {a7 : Int} (h : V_X10_parts_22 d S F G Q a0 a1 a2 a3 a4 a5 a6 a7) : Go d MX10_parts 22 [some (vR a0), some (vI a1), some (vI a2), some (vI a3), some (vI a4), some (vI a5), some (vI a6), some (vI a7), none, none] [] S F G Q := by
  unfold V_X10_parts_22 at h
  refine go_iload (show decode cX10_parts 22 = .ok (.iload 7, 2) by decide +kernel) (by rfl) ?_
  refine go_bipush (show decode cX10_parts 24 = .ok (.bipush 48, 2) by decide +kernel) (by decide) ?_
  obtain ⟨ht, hf⟩ := h
  refine go_icmpge (tgt := 105) (show decode cX10_parts 26 = .ok (.if_icmp .ge 79, 3) by decide +kernel) (by decide) (fun hc => ?_) (fun hc => ?_)
  · have h := ht hc
    obtain ⟨q1, h⟩ := h
    refine go_iinc (show decode cX10_parts 105 = .ok (.iinc 6 (-1), 3) by decide +kernel) (by rfl) q1 (by decide) ?_
    show Go d MX10_parts 108 [some (vR a0), some (vI a1), some (vI a2), some (vI a3), some (vI a4), some (vI a5), some (vI (a6 + (-1))), some (vI a7), none, none] [] S F G Q
    refine go_goto (tgt := 13) (show decode cX10_parts 108 = .ok (.goto (-95), 3) by decide +kernel) (by decide) ?_
    refine go_clr 7 ?_
    exact h
  · have h := hf hc
    refine go_iload_n (show decode cX10_parts 29 = .ok (.iload_n 2, 1) by decide +kernel) (by rfl) ?_
    obtain ⟨ht, hf⟩ := h
    refine go_ifne (tgt := 45) (show decode cX10_parts 30 = .ok (.ifCond .ne 15, 3) by decide +kernel) (by decide) (fun hc => ?_) (fun hc => ?_)
    · have h := ht hc
      refine go_iload (show decode cX10_parts 45 = .ok (.iload 5, 2) by decide +kernel) (by rfl) ?_
      refine go_iload (show decode cX10_parts 47 = .ok (.iload 7, 2) by decide +kernel) (by rfl) ?_
      refine go_iload (show decode cX10_parts 49 = .ok (.iload 6, 2) by decide +kernel) (by rfl) ?_
      obtain ⟨q2, h⟩ := h
      refine go_callS (d2 := d - 1) (M2 := MX10_slot) (n := 3) (av := [vI a5, vI a7, vI a6]) (st := []) (show decode cX10_parts 51 = .ok (.invokestatic 130, 3) by decide +kernel) ml_X10_130 mt_X10_slot mst_X10_slot rfl (Nat.le_of_ble_eq_true rfl) (by omega) (ok_mono h (fun w3 S4 F5 G6 h => ?_))
      obtain ⟨z7, e9, h⟩ := h
      subst e9
      show Go d MX10_parts 54 [some (vR a0), some (vI a1), some (vI a2), some (vI a3), some (vI a4), some (vI a5), some (vI a6), some (vI a7), none, none] [vI z7] S4 F5 G6 Q
      exact R_X10_parts_54 h
    · have h := hf hc
      refine go_iload (show decode cX10_parts 33 = .ok (.iload 5, 2) by decide +kernel) (by rfl) ?_
      refine go_iload (show decode cX10_parts 35 = .ok (.iload 6, 2) by decide +kernel) (by rfl) ?_
      refine go_iload (show decode cX10_parts 37 = .ok (.iload 7, 2) by decide +kernel) (by rfl) ?_
      obtain ⟨q8, h⟩ := h
      refine go_callS (d2 := d - 1) (M2 := MX10_slot) (n := 3) (av := [vI a5, vI a6, vI a7]) (st := []) (show decode cX10_parts 39 = .ok (.invokestatic 130, 3) by decide +kernel) ml_X10_130 mt_X10_slot mst_X10_slot rfl (Nat.le_of_ble_eq_true rfl) (by omega) (ok_mono h (fun w9 S10 F11 G12 h => ?_))
      obtain ⟨z13, e9, h⟩ := h
      subst e9
      show Go d MX10_parts 42 [some (vR a0), some (vI a1), some (vI a2), some (vI a3), some (vI a4), some (vI a5), some (vI a6), some (vI a7), none, none] [vI z13] S10 F11 G12 Q
      refine go_goto (tgt := 54) (show decode cX10_parts 42 = .ok (.goto 12, 3) by decide +kernel) (by decide) ?_
      exact R_X10_parts_54 h
def V_X10_parts_13 (d : Nat) (S : AS) (F : AF) (G : AG) (Q : AQ) (a0 : Nat) (a1 : Int) (a2 : Int) (a3 : Int) (a4 : Int) (a5 : Int) (a6 : Int) : Prop :=
  ((a6 ≤ a3) →
    (r32 (a5 + 1)) ∧
    Go d MX10_parts 3 [some (vR a0), some (vI a1), some (vI a2), some (vI a3), some (vI a4), some (vI (a5 + 1)), none, none, none, none] [] S F G Q) ∧
  ((¬ a6 ≤ a3) →
    Go d MX10_parts 22 [some (vR a0), some (vI a1), some (vI a2), some (vI a3), some (vI a4), some (vI a5), some (vI a6), some (vI 0), none, none] [] S F G Q)
theorem R_X10_parts_13 {d : Nat} {S : AS} {F : AF} {G : AG} {Q : AQ} {a0 : Nat} {a1 : Int} {a2 : Int} {a3 : Int} {a4 : Int} {a5 : Int} {a6 : Int} (h : V_X10_parts_13 d S F G Q a0 a1 a2 a3 a4 a5 a6) : Go d MX10_parts 13 [some (vR a0), some (vI a1), some (vI a2), some (vI a3), some (vI a4), some (vI a5), some (vI a6), none, none, none] [] S F G Q := by
  unfold V_X10_parts_13 at h
  refine go_iload (show decode cX10_parts 13 = .ok (.iload 6, 2) by decide +kernel) (by rfl) ?_
  refine go_iload_n (show decode cX10_parts 15 = .ok (.iload_n 3, 1) by decide +kernel) (by rfl) ?_
  obtain ⟨ht, hf⟩ := h
  refine go_icmple (tgt := 111) (show decode cX10_parts 16 = .ok (.if_icmp .le 95, 3) by decide +kernel) (by decide) (fun hc => ?_) (fun hc => ?_)
  · have h := ht hc
    obtain ⟨q1, h⟩ := h
    refine go_iinc (show decode cX10_parts 111 = .ok (.iinc 5 1, 3) by decide +kernel) (by rfl) q1 (by decide) ?_
    show Go d MX10_parts 114 [some (vR a0), some (vI a1), some (vI a2), some (vI a3), some (vI a4), some (vI (a5 + 1)), some (vI a6), none, none, none] [] S F G Q
    refine go_goto (tgt := 3) (show decode cX10_parts 114 = .ok (.goto (-111), 3) by decide +kernel) (by decide) ?_
    refine go_clr 6 ?_
    exact h
  · have h := hf hc
    refine go_iconst (show decode cX10_parts 19 = .ok (.iconst 0, 1) by decide +kernel) (by decide) ?_
    refine go_istore (show decode cX10_parts 20 = .ok (.istore 7, 2) by decide +kernel) (by decide) ?_
    show Go d MX10_parts 22 [some (vR a0), some (vI a1), some (vI a2), some (vI a3), some (vI a4), some (vI a5), some (vI a6), some (vI 0), none, none] [] S F G Q
    exact h
def V_X10_parts_3 (d : Nat) (S : AS) (F : AF) (G : AG) (Q : AQ) (a0 : Nat) (a1 : Int) (a2 : Int) (a3 : Int) (a4 : Int) (a5 : Int) : Prop :=
  ((3 ≤ a5) →
    Q none S F G) ∧
  ((¬ 3 ≤ a5) →
    Go d MX10_parts 13 [some (vR a0), some (vI a1), some (vI a2), some (vI a3), some (vI a4), some (vI a5), some (vI a4), none, none, none] [] S F G Q)
theorem R_X10_parts_3 {d : Nat} {S : AS} {F : AF} {G : AG} {Q : AQ} {a0 : Nat} {a1 : Int} {a2 : Int} {a3 : Int} {a4 : Int} {a5 : Int} (h : V_X10_parts_3 d S F G Q a0 a1 a2 a3 a4 a5) : Go d MX10_parts 3 [some (vR a0), some (vI a1), some (vI a2), some (vI a3), some (vI a4), some (vI a5), none, none, none, none] [] S F G Q := by
  unfold V_X10_parts_3 at h
  refine go_iload (show decode cX10_parts 3 = .ok (.iload 5, 2) by decide +kernel) (by rfl) ?_
  refine go_iconst (show decode cX10_parts 5 = .ok (.iconst 3, 1) by decide +kernel) (by decide) ?_
  obtain ⟨ht, hf⟩ := h
  refine go_icmpge (tgt := 117) (show decode cX10_parts 6 = .ok (.if_icmp .ge 111, 3) by decide +kernel) (by decide) (fun hc => ?_) (fun hc => ?_)
  · have h := ht hc
    exact go_vret (show decode cX10_parts 117 = .ok (.return_, 1) by decide +kernel) rfl h
  · have h := hf hc
    refine go_iload (show decode cX10_parts 9 = .ok (.iload 4, 2) by decide +kernel) (by rfl) ?_
    refine go_istore (show decode cX10_parts 11 = .ok (.istore 6, 2) by decide +kernel) (by decide) ?_
    show Go d MX10_parts 13 [some (vR a0), some (vI a1), some (vI a2), some (vI a3), some (vI a4), some (vI a5), some (vI a4), none, none, none] [] S F G Q
    exact h
def V_X10_parts_0 (d : Nat) (S : AS) (F : AF) (G : AG) (Q : AQ) (a0 : Nat) (a1 : Int) (a2 : Int) (a3 : Int) (a4 : Int) : Prop :=
  Go d MX10_parts 3 [some (vR a0), some (vI a1), some (vI a2), some (vI a3), some (vI a4), some (vI 0), none, none, none, none] [] S F G Q
theorem R_X10_parts_0 {d : Nat} {S : AS} {F : AF} {G : AG} {Q : AQ} {a0 : Nat} {a1 : Int} {a2 : Int} {a3 : Int} {a4 : Int} (h : V_X10_parts_0 d S F G Q a0 a1 a2 a3 a4) : Go d MX10_parts 0 [some (vR a0), some (vI a1), some (vI a2), some (vI a3), some (vI a4), none, none, none, none, none] [] S F G Q := by
  unfold V_X10_parts_0 at h
  refine go_iconst (show decode cX10_parts 0 = .ok (.iconst 0, 1) by decide +kernel) (by decide) ?_
  refine go_istore (show decode cX10_parts 1 = .ok (.istore 5, 2) by decide +kernel) (by decide) ?_
  show Go d MX10_parts 3 [some (vR a0), some (vI a1), some (vI a2), some (vI a3), some (vI a4), some (vI 0), none, none, none, none] [] S F G Q
  exact h
def V_X10_tells_53 (d : Nat) (S : AS) (F : AF) (G : AG) (Q : AQ) (a0 : Nat) (a1 : Int) (a2 : Int) (a3 : Int) (a4 : Int) (a5 : Int) (a6 : Int) (a7 : Int) : Prop :=
  (sK S a0 = 10) ∧
  (r32 (7 * (F a0 14))) ∧
  ∀ x3 : Int, x3 = 7 * (F a0 14) →
  (sK S (sR S a0 13) = 21) ∧
  ((0 : Int) ≤ x3) ∧
  ((x3 : Int) < (sN S (sR S a0 13) : Int)) ∧
  ∀ G7 : AG, G7 = gu G (sR S a0 13) x3 a1 →
  (r32 (x3 + 1)) ∧
  ((0 : Int) ≤ x3 + 1) ∧
  ((x3 + 1 : Int) < (sN S (sR S a0 13) : Int)) ∧
  ∀ G11 : AG, G11 = gu G7 (sR S a0 13) (x3 + 1) a2 →
  (r32 (x3 + 2)) ∧
  ((0 : Int) ≤ x3 + 2) ∧
  ((x3 + 2 : Int) < (sN S (sR S a0 13) : Int)) ∧
  ∀ G15 : AG, G15 = gu G11 (sR S a0 13) (x3 + 2) a3 →
  (r32 (x3 + 3)) ∧
  ((0 : Int) ≤ x3 + 3) ∧
  ((x3 + 3 : Int) < (sN S (sR S a0 13) : Int)) ∧
  ∀ G19 : AG, G19 = gu G15 (sR S a0 13) (x3 + 3) a4 →
  (r32 (x3 + 4)) ∧
  ((0 : Int) ≤ x3 + 4) ∧
  ((x3 + 4 : Int) < (sN S (sR S a0 13) : Int)) ∧
  ∀ G23 : AG, G23 = gu G19 (sR S a0 13) (x3 + 4) a5 →
  (r32 (x3 + 5)) ∧
  ((0 : Int) ≤ x3 + 5) ∧
  ((x3 + 5 : Int) < (sN S (sR S a0 13) : Int)) ∧
  ∀ G27 : AG, G27 = gu G23 (sR S a0 13) (x3 + 5) a6 →
  (r32 (x3 + 6)) ∧
  ((0 : Int) ≤ x3 + 6) ∧
  ((x3 + 6 : Int) < (sN S (sR S a0 13) : Int)) ∧
  ∀ G31 : AG, G31 = gu G27 (sR S a0 13) (x3 + 6) a7 →
  (r32 ((F a0 14) + 1)) ∧
  ∀ F33 : AF, F33 = fu F a0 14 ((F a0 14) + 1) →
  ((F33 a0 11 ≤ 0) →
    Q none S F33 G31) ∧
  ((¬ F33 a0 11 ≤ 0) →
    (r32 ((F33 a0 11) - 1)) ∧
    (sK S (sR S a0 12) = 20) ∧
    ((0 : Int) ≤ (F33 a0 11) - 1) ∧
    (((F33 a0 11) - 1 : Int) < (sN S (sR S a0 12) : Int)) ∧
    (r32 ((G31 (sR S a0 12) ((F33 a0 11) - 1)) + 1)) ∧
    ∀ G39 : AG, G39 = gu G31 (sR S a0 12) ((F33 a0 11) - 1) ((G31 (sR S a0 12) ((F33 a0 11) - 1)) + 1) →
    Q none S F33 G39)
theorem R_X10_tells_53 {d : Nat} {S : AS} {F : AF} {G : AG} {Q : AQ} {a0 : Nat} {a1 : Int} {a2 : Int} {a3 : Int} {a4 : Int} {a5 : Int} {a6 : Int} {a7 : Int} (h : V_X10_tells_53 d S F G Q a0 a1 a2 a3 a4 a5 a6 a7) : Go d MX10_tells 53 [some (vR a0), some (vI a1), some (vI a2), some (vI a3), some (vI a4), some (vI a5), some (vI a6), some (vJ a7), none, none] [] S F G Q := by
  unfold V_X10_tells_53 at h
  refine go_bipush (show decode cX10_tells 53 = .ok (.bipush 7, 2) by decide +kernel) (by decide) ?_
  refine go_aload_n (show decode cX10_tells 55 = .ok (.aload_n 0, 1) by decide +kernel) (by rfl) ?_
  obtain ⟨q1, h⟩ := h
  refine go_getI (show decode cX10_tells 56 = .ok (.getfield 111, 3) by decide +kernel) fl_X10_111 (Or.inl rfl) q1 ?_
  obtain ⟨q2, h⟩ := h
  refine go_imul (show decode cX10_tells 59 = .ok (.imul, 1) by decide +kernel) q2 ?_
  obtain ⟨x3, x3e⟩ : ∃ x3 : Int, x3 = 7 * (F a0 14) := ⟨_, rfl⟩
  have h := h x3 x3e
  rw [← x3e]
  refine go_istore (show decode cX10_tells 60 = .ok (.istore 9, 2) by decide +kernel) (by decide) ?_
  show Go d MX10_tells 62 [some (vR a0), some (vI a1), some (vI a2), some (vI a3), some (vI a4), some (vI a5), some (vI a6), some (vJ a7), none, some (vI x3)] [] S F G Q
  refine go_aload_n (show decode cX10_tells 62 = .ok (.aload_n 0, 1) by decide +kernel) (by rfl) ?_
  refine go_getR (show decode cX10_tells 63 = .ok (.getfield 52, 3) by decide +kernel) fl_X10_52 rfl q1 ?_
  refine go_iload (show decode cX10_tells 66 = .ok (.iload 9, 2) by decide +kernel) (by rfl) ?_
  refine go_iload_n (show decode cX10_tells 68 = .ok (.iload_n 1, 1) by decide +kernel) (by rfl) ?_
  refine go_i2l (show decode cX10_tells 69 = .ok (.i2l, 1) by decide +kernel) ?_
  obtain ⟨q4, h⟩ := h
  obtain ⟨q5, h⟩ := h
  obtain ⟨q6, h⟩ := h
  refine go_lastore (show decode cX10_tells 70 = .ok (.lastore, 1) by decide +kernel) q4 q5 q6  ?_
  obtain ⟨G7, G7e⟩ : ∃ G7 : AG, G7 = gu G (sR S a0 13) x3 a1 := ⟨_, rfl⟩
  have h := h G7 G7e
  rw [← G7e]
  refine go_aload_n (show decode cX10_tells 71 = .ok (.aload_n 0, 1) by decide +kernel) (by rfl) ?_
  refine go_getR (show decode cX10_tells 72 = .ok (.getfield 52, 3) by decide +kernel) fl_X10_52 rfl q1 ?_
  refine go_iload (show decode cX10_tells 75 = .ok (.iload 9, 2) by decide +kernel) (by rfl) ?_
  refine go_iconst (show decode cX10_tells 77 = .ok (.iconst 1, 1) by decide +kernel) (by decide) ?_
  obtain ⟨q8, h⟩ := h
  refine go_iadd (show decode cX10_tells 78 = .ok (.iadd, 1) by decide +kernel) q8 ?_
  refine go_iload_n (show decode cX10_tells 79 = .ok (.iload_n 2, 1) by decide +kernel) (by rfl) ?_
  refine go_i2l (show decode cX10_tells 80 = .ok (.i2l, 1) by decide +kernel) ?_
  obtain ⟨q9, h⟩ := h
  obtain ⟨q10, h⟩ := h
  refine go_lastore (show decode cX10_tells 81 = .ok (.lastore, 1) by decide +kernel) q4 q9 q10  ?_
  obtain ⟨G11, G11e⟩ : ∃ G11 : AG, G11 = gu G7 (sR S a0 13) (x3 + 1) a2 := ⟨_, rfl⟩
  have h := h G11 G11e
  rw [← G11e]
  refine go_aload_n (show decode cX10_tells 82 = .ok (.aload_n 0, 1) by decide +kernel) (by rfl) ?_
  refine go_getR (show decode cX10_tells 83 = .ok (.getfield 52, 3) by decide +kernel) fl_X10_52 rfl q1 ?_
  refine go_iload (show decode cX10_tells 86 = .ok (.iload 9, 2) by decide +kernel) (by rfl) ?_
  refine go_iconst (show decode cX10_tells 88 = .ok (.iconst 2, 1) by decide +kernel) (by decide) ?_
  obtain ⟨q12, h⟩ := h
  refine go_iadd (show decode cX10_tells 89 = .ok (.iadd, 1) by decide +kernel) q12 ?_
  refine go_iload_n (show decode cX10_tells 90 = .ok (.iload_n 3, 1) by decide +kernel) (by rfl) ?_
  refine go_i2l (show decode cX10_tells 91 = .ok (.i2l, 1) by decide +kernel) ?_
  obtain ⟨q13, h⟩ := h
  obtain ⟨q14, h⟩ := h
  refine go_lastore (show decode cX10_tells 92 = .ok (.lastore, 1) by decide +kernel) q4 q13 q14  ?_
  obtain ⟨G15, G15e⟩ : ∃ G15 : AG, G15 = gu G11 (sR S a0 13) (x3 + 2) a3 := ⟨_, rfl⟩
  have h := h G15 G15e
  rw [← G15e]
  refine go_aload_n (show decode cX10_tells 93 = .ok (.aload_n 0, 1) by decide +kernel) (by rfl) ?_
  refine go_getR (show decode cX10_tells 94 = .ok (.getfield 52, 3) by decide +kernel) fl_X10_52 rfl q1 ?_
  refine go_iload (show decode cX10_tells 97 = .ok (.iload 9, 2) by decide +kernel) (by rfl) ?_
  refine go_iconst (show decode cX10_tells 99 = .ok (.iconst 3, 1) by decide +kernel) (by decide) ?_
  obtain ⟨q16, h⟩ := h
  refine go_iadd (show decode cX10_tells 100 = .ok (.iadd, 1) by decide +kernel) q16 ?_
  refine go_iload (show decode cX10_tells 101 = .ok (.iload 4, 2) by decide +kernel) (by rfl) ?_
  refine go_i2l (show decode cX10_tells 103 = .ok (.i2l, 1) by decide +kernel) ?_
  obtain ⟨q17, h⟩ := h
  obtain ⟨q18, h⟩ := h
  refine go_lastore (show decode cX10_tells 104 = .ok (.lastore, 1) by decide +kernel) q4 q17 q18  ?_
  obtain ⟨G19, G19e⟩ : ∃ G19 : AG, G19 = gu G15 (sR S a0 13) (x3 + 3) a4 := ⟨_, rfl⟩
  have h := h G19 G19e
  rw [← G19e]
  refine go_aload_n (show decode cX10_tells 105 = .ok (.aload_n 0, 1) by decide +kernel) (by rfl) ?_
  refine go_getR (show decode cX10_tells 106 = .ok (.getfield 52, 3) by decide +kernel) fl_X10_52 rfl q1 ?_
  refine go_iload (show decode cX10_tells 109 = .ok (.iload 9, 2) by decide +kernel) (by rfl) ?_
  refine go_iconst (show decode cX10_tells 111 = .ok (.iconst 4, 1) by decide +kernel) (by decide) ?_
  obtain ⟨q20, h⟩ := h
  refine go_iadd (show decode cX10_tells 112 = .ok (.iadd, 1) by decide +kernel) q20 ?_
  refine go_iload (show decode cX10_tells 113 = .ok (.iload 5, 2) by decide +kernel) (by rfl) ?_
  refine go_i2l (show decode cX10_tells 115 = .ok (.i2l, 1) by decide +kernel) ?_
  obtain ⟨q21, h⟩ := h
  obtain ⟨q22, h⟩ := h
  refine go_lastore (show decode cX10_tells 116 = .ok (.lastore, 1) by decide +kernel) q4 q21 q22  ?_
  obtain ⟨G23, G23e⟩ : ∃ G23 : AG, G23 = gu G19 (sR S a0 13) (x3 + 4) a5 := ⟨_, rfl⟩
  have h := h G23 G23e
  rw [← G23e]
  refine go_aload_n (show decode cX10_tells 117 = .ok (.aload_n 0, 1) by decide +kernel) (by rfl) ?_
  refine go_getR (show decode cX10_tells 118 = .ok (.getfield 52, 3) by decide +kernel) fl_X10_52 rfl q1 ?_
  refine go_iload (show decode cX10_tells 121 = .ok (.iload 9, 2) by decide +kernel) (by rfl) ?_
  refine go_iconst (show decode cX10_tells 123 = .ok (.iconst 5, 1) by decide +kernel) (by decide) ?_
  obtain ⟨q24, h⟩ := h
  refine go_iadd (show decode cX10_tells 124 = .ok (.iadd, 1) by decide +kernel) q24 ?_
  refine go_iload (show decode cX10_tells 125 = .ok (.iload 6, 2) by decide +kernel) (by rfl) ?_
  refine go_i2l (show decode cX10_tells 127 = .ok (.i2l, 1) by decide +kernel) ?_
  obtain ⟨q25, h⟩ := h
  obtain ⟨q26, h⟩ := h
  refine go_lastore (show decode cX10_tells 128 = .ok (.lastore, 1) by decide +kernel) q4 q25 q26  ?_
  obtain ⟨G27, G27e⟩ : ∃ G27 : AG, G27 = gu G23 (sR S a0 13) (x3 + 5) a6 := ⟨_, rfl⟩
  have h := h G27 G27e
  rw [← G27e]
  refine go_aload_n (show decode cX10_tells 129 = .ok (.aload_n 0, 1) by decide +kernel) (by rfl) ?_
  refine go_getR (show decode cX10_tells 130 = .ok (.getfield 52, 3) by decide +kernel) fl_X10_52 rfl q1 ?_
  refine go_iload (show decode cX10_tells 133 = .ok (.iload 9, 2) by decide +kernel) (by rfl) ?_
  refine go_bipush (show decode cX10_tells 135 = .ok (.bipush 6, 2) by decide +kernel) (by decide) ?_
  obtain ⟨q28, h⟩ := h
  refine go_iadd (show decode cX10_tells 137 = .ok (.iadd, 1) by decide +kernel) q28 ?_
  refine go_lload (show decode cX10_tells 138 = .ok (.lload 7, 2) by decide +kernel) (by rfl) ?_
  obtain ⟨q29, h⟩ := h
  obtain ⟨q30, h⟩ := h
  refine go_lastore (show decode cX10_tells 140 = .ok (.lastore, 1) by decide +kernel) q4 q29 q30  ?_
  obtain ⟨G31, G31e⟩ : ∃ G31 : AG, G31 = gu G27 (sR S a0 13) (x3 + 6) a7 := ⟨_, rfl⟩
  have h := h G31 G31e
  rw [← G31e]
  refine go_aload_n (show decode cX10_tells 141 = .ok (.aload_n 0, 1) by decide +kernel) (by rfl) ?_
  refine go_dup (show decode cX10_tells 142 = .ok (.dup, 1) by decide +kernel) ?_
  refine go_getI (show decode cX10_tells 143 = .ok (.getfield 111, 3) by decide +kernel) fl_X10_111 (Or.inl rfl) q1 ?_
  refine go_iconst (show decode cX10_tells 146 = .ok (.iconst 1, 1) by decide +kernel) (by decide) ?_
  obtain ⟨q32, h⟩ := h
  refine go_iadd (show decode cX10_tells 147 = .ok (.iadd, 1) by decide +kernel) q32 ?_
  refine go_putI (show decode cX10_tells 148 = .ok (.putfield 111, 3) by decide +kernel) fl_X10_111 rfl (Or.inl rfl) q1 ?_
  obtain ⟨F33, F33e⟩ : ∃ F33 : AF, F33 = fu F a0 14 ((F a0 14) + 1) := ⟨_, rfl⟩
  have h := h F33 F33e
  rw [← F33e]
  refine go_aload_n (show decode cX10_tells 151 = .ok (.aload_n 0, 1) by decide +kernel) (by rfl) ?_
  refine go_getI (show decode cX10_tells 152 = .ok (.getfield 108, 3) by decide +kernel) fl_X10_108 (Or.inl rfl) q1 ?_
  obtain ⟨ht, hf⟩ := h
  refine go_ifle (tgt := 173) (show decode cX10_tells 155 = .ok (.ifCond .le 18, 3) by decide +kernel) (by decide) (fun hc => ?_) (fun hc => ?_)
  · have h := ht hc
    exact go_vret (show decode cX10_tells 173 = .ok (.return_, 1) by decide +kernel) rfl h
  · have h := hf hc
    refine go_aload_n (show decode cX10_tells 158 = .ok (.aload_n 0, 1) by decide +kernel) (by rfl) ?_
    refine go_getR (show decode cX10_tells 159 = .ok (.getfield 49, 3) by decide +kernel) fl_X10_49 rfl q1 ?_
    refine go_aload_n (show decode cX10_tells 162 = .ok (.aload_n 0, 1) by decide +kernel) (by rfl) ?_
    refine go_getI (show decode cX10_tells 163 = .ok (.getfield 108, 3) by decide +kernel) fl_X10_108 (Or.inl rfl) q1 ?_
    refine go_iconst (show decode cX10_tells 166 = .ok (.iconst 1, 1) by decide +kernel) (by decide) ?_
    obtain ⟨q34, h⟩ := h
    refine go_isub (show decode cX10_tells 167 = .ok (.isub, 1) by decide +kernel) q34 ?_
    refine go_dup2 (show decode cX10_tells 168 = .ok (.dup2, 1) by decide +kernel) ?_
    obtain ⟨q35, h⟩ := h
    obtain ⟨q36, h⟩ := h
    obtain ⟨q37, h⟩ := h
    refine go_iaload (show decode cX10_tells 169 = .ok (.iaload, 1) by decide +kernel) q35 q36 q37 ?_
    refine go_iconst (show decode cX10_tells 170 = .ok (.iconst 1, 1) by decide +kernel) (by decide) ?_
    obtain ⟨q38, h⟩ := h
    refine go_iadd (show decode cX10_tells 171 = .ok (.iadd, 1) by decide +kernel) q38 ?_
    refine go_iastore (show decode cX10_tells 172 = .ok (.iastore, 1) by decide +kernel) q35 q36 q37  ?_
    obtain ⟨G39, G39e⟩ : ∃ G39 : AG, G39 = gu G31 (sR S a0 12) ((F33 a0 11) - 1) ((G31 (sR S a0 12) ((F33 a0 11) - 1)) + 1) := ⟨_, rfl⟩
    have h := h G39 G39e
    rw [← G39e]
    exact go_vret (show decode cX10_tells 173 = .ok (.return_, 1) by decide +kernel) rfl h
def V_X10_tells_12 (d : Nat) (S : AS) (F : AF) (G : AG) (Q : AQ) (a0 : Nat) (a1 : Int) (a2 : Int) (a3 : Int) (a4 : Int) (a5 : Int) (a6 : Int) (a7 : Int) (a9 : Int) : Prop :=
  ((273 ≤ a9) →
    (sK S a0 = 10) ∧
    (r32 ((F a0 14) - 1)) ∧
    ∀ F3 : AF, F3 = fu F a0 14 ((F a0 14) - 1) →
    V_X10_tells_53 d S F3 G Q a0 a1 a2 a3 a4 a5 a6 a7) ∧
  ((¬ 273 ≤ a9) →
    (sK S a0 = 10) ∧
    (r32 (a9 + 7)) ∧
    (sK S (sR S a0 13) = 21) ∧
    ((0 : Int) ≤ a9 + 7) ∧
    ((a9 + 7 : Int) < (sN S (sR S a0 13) : Int)) ∧
    ((0 : Int) ≤ a9) ∧
    ((a9 : Int) < (sN S (sR S a0 13) : Int)) ∧
    ∀ G11 : AG, G11 = gu G (sR S a0 13) a9 (G (sR S a0 13) (a9 + 7)) →
    (r32 (a9 + 1)) ∧
    Go d MX10_tells 12 [some (vR a0), some (vI a1), some (vI a2), some (vI a3), some (vI a4), some (vI a5), some (vI a6), some (vJ a7), none, some (vI (a9 + 1))] [] S F G11 Q)
theorem R_X10_tells_12 {d : Nat} {S : AS} {F : AF} {G : AG} {Q : AQ} {a0 : Nat} {a1 : Int} {a2 : Int} {a3 : Int} {a4 : Int} {a5 : Int} {a6 : Int} {a7 : Int} {a9 : Int} (h : V_X10_tells_12 d S F G Q a0 a1 a2 a3 a4 a5 a6 a7 a9) : Go d MX10_tells 12 [some (vR a0), some (vI a1), some (vI a2), some (vI a3), some (vI a4), some (vI a5), some (vI a6), some (vJ a7), none, some (vI a9)] [] S F G Q := by
  unfold V_X10_tells_12 at h
  refine go_iload (show decode cX10_tells 12 = .ok (.iload 9, 2) by decide +kernel) (by rfl) ?_
  refine go_sipush (show decode cX10_tells 14 = .ok (.sipush 273, 3) by decide +kernel) (by decide) ?_
  obtain ⟨ht, hf⟩ := h
  refine go_icmpge (tgt := 43) (show decode cX10_tells 17 = .ok (.if_icmp .ge 26, 3) by decide +kernel) (by decide) (fun hc => ?_) (fun hc => ?_)
  · have h := ht hc
    refine go_aload_n (show decode cX10_tells 43 = .ok (.aload_n 0, 1) by decide +kernel) (by rfl) ?_
    refine go_dup (show decode cX10_tells 44 = .ok (.dup, 1) by decide +kernel) ?_
    obtain ⟨q1, h⟩ := h
    refine go_getI (show decode cX10_tells 45 = .ok (.getfield 111, 3) by decide +kernel) fl_X10_111 (Or.inl rfl) q1 ?_
    refine go_iconst (show decode cX10_tells 48 = .ok (.iconst 1, 1) by decide +kernel) (by decide) ?_
    obtain ⟨q2, h⟩ := h
    refine go_isub (show decode cX10_tells 49 = .ok (.isub, 1) by decide +kernel) q2 ?_
    refine go_putI (show decode cX10_tells 50 = .ok (.putfield 111, 3) by decide +kernel) fl_X10_111 rfl (Or.inl rfl) q1 ?_
    obtain ⟨F3, F3e⟩ : ∃ F3 : AF, F3 = fu F a0 14 ((F a0 14) - 1) := ⟨_, rfl⟩
    have h := h F3 F3e
    rw [← F3e]
    refine go_clr 9 ?_
    exact R_X10_tells_53 h
  · have h := hf hc
    refine go_aload_n (show decode cX10_tells 20 = .ok (.aload_n 0, 1) by decide +kernel) (by rfl) ?_
    obtain ⟨q4, h⟩ := h
    refine go_getR (show decode cX10_tells 21 = .ok (.getfield 52, 3) by decide +kernel) fl_X10_52 rfl q4 ?_
    refine go_iload (show decode cX10_tells 24 = .ok (.iload 9, 2) by decide +kernel) (by rfl) ?_
    refine go_aload_n (show decode cX10_tells 26 = .ok (.aload_n 0, 1) by decide +kernel) (by rfl) ?_
    refine go_getR (show decode cX10_tells 27 = .ok (.getfield 52, 3) by decide +kernel) fl_X10_52 rfl q4 ?_
    refine go_iload (show decode cX10_tells 30 = .ok (.iload 9, 2) by decide +kernel) (by rfl) ?_
    refine go_bipush (show decode cX10_tells 32 = .ok (.bipush 7, 2) by decide +kernel) (by decide) ?_
    obtain ⟨q5, h⟩ := h
    refine go_iadd (show decode cX10_tells 34 = .ok (.iadd, 1) by decide +kernel) q5 ?_
    obtain ⟨q6, h⟩ := h
    obtain ⟨q7, h⟩ := h
    obtain ⟨q8, h⟩ := h
    refine go_laload (show decode cX10_tells 35 = .ok (.laload, 1) by decide +kernel) q6 q7 q8 ?_
    obtain ⟨q9, h⟩ := h
    obtain ⟨q10, h⟩ := h
    refine go_lastore (show decode cX10_tells 36 = .ok (.lastore, 1) by decide +kernel) q6 q9 q10  ?_
    obtain ⟨G11, G11e⟩ : ∃ G11 : AG, G11 = gu G (sR S a0 13) a9 (G (sR S a0 13) (a9 + 7)) := ⟨_, rfl⟩
    have h := h G11 G11e
    rw [← G11e]
    obtain ⟨q12, h⟩ := h
    refine go_iinc (show decode cX10_tells 37 = .ok (.iinc 9 1, 3) by decide +kernel) (by rfl) q12 (by decide) ?_
    show Go d MX10_tells 40 [some (vR a0), some (vI a1), some (vI a2), some (vI a3), some (vI a4), some (vI a5), some (vI a6), some (vJ a7), none, some (vI (a9 + 1))] [] S F G11 Q
    refine go_goto (tgt := 12) (show decode cX10_tells 40 = .ok (.goto (-28), 3) by decide +kernel) (by decide) ?_
    exact h
def V_X10_tells_0 (d : Nat) (S : AS) (F : AF) (G : AG) (Q : AQ) (a0 : Nat) (a1 : Int) (a2 : Int) (a3 : Int) (a4 : Int) (a5 : Int) (a6 : Int) (a7 : Int) : Prop :=
  (sK S a0 = 10) ∧
  ((¬ F a0 14 = 40) →
    V_X10_tells_53 d S F G Q a0 a1 a2 a3 a4 a5 a6 a7) ∧
  ((F a0 14 = 40) →
    Go d MX10_tells 12 [some (vR a0), some (vI a1), some (vI a2), some (vI a3), some (vI a4), some (vI a5), some (vI a6), some (vJ a7), none, some (vI 0)] [] S F G Q)
theorem R_X10_tells_0 {d : Nat} {S : AS} {F : AF} {G : AG} {Q : AQ} {a0 : Nat} {a1 : Int} {a2 : Int} {a3 : Int} {a4 : Int} {a5 : Int} {a6 : Int} {a7 : Int} (h : V_X10_tells_0 d S F G Q a0 a1 a2 a3 a4 a5 a6 a7) : Go d MX10_tells 0 [some (vR a0), some (vI a1), some (vI a2), some (vI a3), some (vI a4), some (vI a5), some (vI a6), some (vJ a7), none, none] [] S F G Q := by
  unfold V_X10_tells_0 at h
  refine go_aload_n (show decode cX10_tells 0 = .ok (.aload_n 0, 1) by decide +kernel) (by rfl) ?_
  obtain ⟨q1, h⟩ := h
  refine go_getI (show decode cX10_tells 1 = .ok (.getfield 111, 3) by decide +kernel) fl_X10_111 (Or.inl rfl) q1 ?_
  refine go_bipush (show decode cX10_tells 4 = .ok (.bipush 40, 2) by decide +kernel) (by decide) ?_
  obtain ⟨ht, hf⟩ := h
  refine go_icmpne (tgt := 53) (show decode cX10_tells 6 = .ok (.if_icmp .ne 47, 3) by decide +kernel) (by decide) (fun hc => ?_) (fun hc => ?_)
  · have h := ht hc
    exact R_X10_tells_53 h
  · have h := hf hc
    refine go_iconst (show decode cX10_tells 9 = .ok (.iconst 0, 1) by decide +kernel) (by decide) ?_
    refine go_istore (show decode cX10_tells 10 = .ok (.istore 9, 2) by decide +kernel) (by decide) ?_
    show Go d MX10_tells 12 [some (vR a0), some (vI a1), some (vI a2), some (vI a3), some (vI a4), some (vI a5), some (vI a6), some (vJ a7), none, some (vI 0)] [] S F G Q
    exact h
def V_X10_pick_218 (d : Nat) (S : AS) (F : AF) (G : AG) (Q : AQ) (a0 : Nat) (a1 : Int) (a2 : Int) (a3 : Int) (a4 : Int) (a5 : Int) (a6 : Int) (a8 : Int) (a9 : Int) (a10 : Int) : Prop :=
  (sK S a0 = 10) ∧
  (1 ≤ d) ∧
  Ok (d - 1) MX10_blockAt [vR a0, vI 0, vI a8] S F G (fun w3 S4 F5 G6 =>
  ∃ z7 : Int, w3 = some (vI z7) ∧
  (sK S4 a0 = 10) ∧
  Ok (d - 1) MX10_blockAt [vR a0, vI 1, vI a9] S4 F5 G6 (fun w8 S9 F10 G11 =>
  ∃ z13 : Int, w8 = some (vI z13) ∧
  Ok (d - 1) MX10_slot [vI a1, vI z7, vI z13] S9 F10 G11 (fun w14 S15 F16 G17 =>
  ∃ z18 : Int, w14 = some (vI z18) ∧
  (sK S15 (sR S a0 7) = 21) ∧
  ((0 : Int) ≤ z18) ∧
  ((z18 : Int) < (sN S15 (sR S a0 7) : Int)) ∧
  (r64 ((G17 (sR S a0 7) z18) - a10)) ∧
  ∀ G23 : AG, G23 = gu G17 (sR S a0 7) z18 ((G17 (sR S a0 7) z18) - a10) →
  (sK S15 a0 = 10) ∧
  (sK S15 (sR S15 a0 9) = 21) ∧
  ((0 : Int) ≤ a1) ∧
  ((a1 : Int) < (sN S15 (sR S15 a0 9) : Int)) ∧
  (r64 ((G23 (sR S15 a0 9) a1) - a6)) ∧
  ∀ G29 : AG, G29 = gu G23 (sR S15 a0 9) a1 ((G23 (sR S15 a0 9) a1) - a6) →
  Ok (d - 1) MX10_tells [vR a0, vI 1, vI a1, vI a2, vI a3, vI a4, vI a5, vJ a6] S15 F16 G29 (fun w30 S31 F32 G33 =>
  w30 = none ∧
  (sK S31 a0 = 10) ∧
  Ok (d - 1) MX10_number [vR a0, vI a8, vI a9] S31 F32 G33 (fun w34 S35 F36 G37 =>
  ∃ z39 : Int, w34 = some (vJ z39) ∧
  Q (some (vJ z39)) S35 F36 G37)))))
theorem R_X10_pick_218 {d : Nat} {S : AS} {F : AF} {G : AG} {Q : AQ} {a0 : Nat} {a1 : Int} {a2 : Int} {a3 : Int} {a4 : Int} {a5 : Int} {a6 : Int} {a8 : Int} {a9 : Int} {a10 : Int} (h : V_X10_pick_218 d S F G Q a0 a1 a2 a3 a4 a5 a6 a8 a9 a10) : Go d MX10_pick 218 [some (vR a0), some (vI a1), some (vI a2), some (vI a3), some (vI a4), some (vI a5), some (vJ a6), none, some (vI a8), some (vI a9), some (vJ a10), none] [] S F G Q := by
  unfold V_X10_pick_218 at h
  refine go_aload_n (show decode cX10_pick 218 = .ok (.aload_n 0, 1) by decide +kernel) (by rfl) ?_
  obtain ⟨q1, h⟩ := h
  refine go_getR (show decode cX10_pick 219 = .ok (.getfield 35, 3) by decide +kernel) fl_X10_35 rfl q1 ?_
  refine go_iload_n (show decode cX10_pick 222 = .ok (.iload_n 1, 1) by decide +kernel) (by rfl) ?_
  refine go_aload_n (show decode cX10_pick 223 = .ok (.aload_n 0, 1) by decide +kernel) (by rfl) ?_
  refine go_iconst (show decode cX10_pick 224 = .ok (.iconst 0, 1) by decide +kernel) (by decide) ?_
  refine go_iload (show decode cX10_pick 225 = .ok (.iload 8, 2) by decide +kernel) (by rfl) ?_
  obtain ⟨q2, h⟩ := h
  refine go_callV (d2 := d - 1) (M2 := MX10_blockAt) (n := 2) (ci := 10) (av := [vI 0, vI a8]) (st := [vI a1, vR (sR S a0 7)]) (show decode cX10_pick 227 = .ok (.invokevirtual 265, 3) by decide +kernel) ml_X10_265 mt_X10_blockAt min_X10_blockAt mse_X10_blockAt (by decide) q1 rfl (Nat.le_of_ble_eq_true rfl) (by omega) (ok_mono h (fun w3 S4 F5 G6 h => ?_))
  obtain ⟨z7, e9, h⟩ := h
  subst e9
  show Go d MX10_pick 230 [some (vR a0), some (vI a1), some (vI a2), some (vI a3), some (vI a4), some (vI a5), some (vJ a6), none, some (vI a8), some (vI a9), some (vJ a10), none] [vI z7, vI a1, vR (sR S a0 7)] S4 F5 G6 Q
  refine go_aload_n (show decode cX10_pick 230 = .ok (.aload_n 0, 1) by decide +kernel) (by rfl) ?_
  refine go_iconst (show decode cX10_pick 231 = .ok (.iconst 1, 1) by decide +kernel) (by decide) ?_
  refine go_iload (show decode cX10_pick 232 = .ok (.iload 9, 2) by decide +kernel) (by rfl) ?_
  obtain ⟨q12, h⟩ := h
  refine go_callV (d2 := d - 1) (M2 := MX10_blockAt) (n := 2) (ci := 10) (av := [vI 1, vI a9]) (st := [vI z7, vI a1, vR (sR S a0 7)]) (show decode cX10_pick 234 = .ok (.invokevirtual 265, 3) by decide +kernel) ml_X10_265 mt_X10_blockAt min_X10_blockAt mse_X10_blockAt (by decide) q12 rfl (Nat.le_of_ble_eq_true rfl) (by omega) (ok_mono h (fun w8 S9 F10 G11 h => ?_))
  obtain ⟨z13, e9, h⟩ := h
  subst e9
  show Go d MX10_pick 237 [some (vR a0), some (vI a1), some (vI a2), some (vI a3), some (vI a4), some (vI a5), some (vJ a6), none, some (vI a8), some (vI a9), some (vJ a10), none] [vI z13, vI z7, vI a1, vR (sR S a0 7)] S9 F10 G11 Q
  refine go_callS (d2 := d - 1) (M2 := MX10_slot) (n := 3) (av := [vI a1, vI z7, vI z13]) (st := [vR (sR S a0 7)]) (show decode cX10_pick 237 = .ok (.invokestatic 130, 3) by decide +kernel) ml_X10_130 mt_X10_slot mst_X10_slot rfl (Nat.le_of_ble_eq_true rfl) (by omega) (ok_mono h (fun w14 S15 F16 G17 h => ?_))
  obtain ⟨z18, e9, h⟩ := h
  subst e9
  show Go d MX10_pick 240 [some (vR a0), some (vI a1), some (vI a2), some (vI a3), some (vI a4), some (vI a5), some (vJ a6), none, some (vI a8), some (vI a9), some (vJ a10), none] [vI z18, vR (sR S a0 7)] S15 F16 G17 Q
  refine go_dup2 (show decode cX10_pick 240 = .ok (.dup2, 1) by decide +kernel) ?_
  obtain ⟨q19, h⟩ := h
  obtain ⟨q20, h⟩ := h
  obtain ⟨q21, h⟩ := h
  refine go_laload (show decode cX10_pick 241 = .ok (.laload, 1) by decide +kernel) q19 q20 q21 ?_
  refine go_lload (show decode cX10_pick 242 = .ok (.lload 10, 2) by decide +kernel) (by rfl) ?_
  obtain ⟨q22, h⟩ := h
  refine go_lsub (show decode cX10_pick 244 = .ok (.lsub, 1) by decide +kernel) q22 ?_
  refine go_lastore (show decode cX10_pick 245 = .ok (.lastore, 1) by decide +kernel) q19 q20 q21  ?_
  obtain ⟨G23, G23e⟩ : ∃ G23 : AG, G23 = gu G17 (sR S a0 7) z18 ((G17 (sR S a0 7) z18) - a10) := ⟨_, rfl⟩
  have h := h G23 G23e
  rw [← G23e]
  refine go_aload_n (show decode cX10_pick 246 = .ok (.aload_n 0, 1) by decide +kernel) (by rfl) ?_
  obtain ⟨q24, h⟩ := h
  refine go_getR (show decode cX10_pick 247 = .ok (.getfield 43, 3) by decide +kernel) fl_X10_43 rfl q24 ?_
  refine go_iload_n (show decode cX10_pick 250 = .ok (.iload_n 1, 1) by decide +kernel) (by rfl) ?_
  refine go_dup2 (show decode cX10_pick 251 = .ok (.dup2, 1) by decide +kernel) ?_
  obtain ⟨q25, h⟩ := h
  obtain ⟨q26, h⟩ := h
  obtain ⟨q27, h⟩ := h
  refine go_laload (show decode cX10_pick 252 = .ok (.laload, 1) by decide +kernel) q25 q26 q27 ?_
  refine go_lload (show decode cX10_pick 253 = .ok (.lload 6, 2) by decide +kernel) (by rfl) ?_
  obtain ⟨q28, h⟩ := h
  refine go_lsub (show decode cX10_pick 255 = .ok (.lsub, 1) by decide +kernel) q28 ?_
  refine go_lastore (show decode cX10_pick 256 = .ok (.lastore, 1) by decide +kernel) q25 q26 q27  ?_
  obtain ⟨G29, G29e⟩ : ∃ G29 : AG, G29 = gu G23 (sR S15 a0 9) a1 ((G23 (sR S15 a0 9) a1) - a6) := ⟨_, rfl⟩
  have h := h G29 G29e
  rw [← G29e]
  refine go_aload_n (show decode cX10_pick 257 = .ok (.aload_n 0, 1) by decide +kernel) (by rfl) ?_
  refine go_iconst (show decode cX10_pick 258 = .ok (.iconst 1, 1) by decide +kernel) (by decide) ?_
  refine go_iload_n (show decode cX10_pick 259 = .ok (.iload_n 1, 1) by decide +kernel) (by rfl) ?_
  refine go_iload_n (show decode cX10_pick 260 = .ok (.iload_n 2, 1) by decide +kernel) (by rfl) ?_
  refine go_iload_n (show decode cX10_pick 261 = .ok (.iload_n 3, 1) by decide +kernel) (by rfl) ?_
  refine go_iload (show decode cX10_pick 262 = .ok (.iload 4, 2) by decide +kernel) (by rfl) ?_
  refine go_iload (show decode cX10_pick 264 = .ok (.iload 5, 2) by decide +kernel) (by rfl) ?_
  refine go_lload (show decode cX10_pick 266 = .ok (.lload 6, 2) by decide +kernel) (by rfl) ?_
  refine go_callV (d2 := d - 1) (M2 := MX10_tells) (n := 7) (ci := 10) (av := [vI 1, vI a1, vI a2, vI a3, vI a4, vI a5, vJ a6]) (st := []) (show decode cX10_pick 268 = .ok (.invokevirtual 213, 3) by decide +kernel) ml_X10_213 mt_X10_tells min_X10_tells mse_X10_tells (by decide) q24 rfl (Nat.le_of_ble_eq_true rfl) (by omega) (ok_mono h (fun w30 S31 F32 G33 h => ?_))
  obtain ⟨e9, h⟩ := h
  subst e9
  show Go d MX10_pick 271 [some (vR a0), some (vI a1), some (vI a2), some (vI a3), some (vI a4), some (vI a5), some (vJ a6), none, some (vI a8), some (vI a9), some (vJ a10), none] [] S31 F32 G33 Q
  refine go_aload_n (show decode cX10_pick 271 = .ok (.aload_n 0, 1) by decide +kernel) (by rfl) ?_
  refine go_iload (show decode cX10_pick 272 = .ok (.iload 8, 2) by decide +kernel) (by rfl) ?_
  refine go_iload (show decode cX10_pick 274 = .ok (.iload 9, 2) by decide +kernel) (by rfl) ?_
  obtain ⟨q38, h⟩ := h
  refine go_callV (d2 := d - 1) (M2 := MX10_number) (n := 2) (ci := 10) (av := [vI a8, vI a9]) (st := []) (show decode cX10_pick 276 = .ok (.invokevirtual 268, 3) by decide +kernel) ml_X10_268 mt_X10_number min_X10_number mse_X10_number (by decide) q38 rfl (Nat.le_of_ble_eq_true rfl) (by omega) (ok_mono h (fun w34 S35 F36 G37 h => ?_))
  obtain ⟨z39, e9, h⟩ := h
  subst e9
  show Go d MX10_pick 279 [some (vR a0), some (vI a1), some (vI a2), some (vI a3), some (vI a4), some (vI a5), some (vJ a6), none, some (vI a8), some (vI a9), some (vJ a10), none] [vJ z39] S35 F36 G37 Q
  exact go_lret (show decode cX10_pick 279 = .ok (.lreturn, 1) by decide +kernel) rfl h
def V_X10_pick_198 (d : Nat) (S : AS) (F : AF) (G : AG) (Q : AQ) (a0 : Nat) (a1 : Int) (a2 : Int) (a3 : Int) (a4 : Int) (a5 : Int) (a6 : Int) (a8 : Int) (a9 : Int) (a10 : Int) : Prop :=
  ((a8 ≤ a2) →
    V_X10_pick_218 d S F G Q a0 a1 a2 a3 a4 a5 a6 a8 a9 a10) ∧
  ((¬ a8 ≤ a2) →
    (r32 (a8 - 1)) ∧
    (1 ≤ d) ∧
    (sK S a0 = 10) ∧
    Ok (d - 1) MX10_empties [vR a0, vI a1, vI a2, vI a9, vI (a8 - 1), vI a9] S F G (fun w3 S4 F5 G6 =>
    w3 = none ∧
    V_X10_pick_218 d S4 F5 G6 Q a0 a1 a2 a3 a4 a5 a6 a8 a9 a10))
theorem R_X10_pick_198 {d : Nat} {S : AS} {F : AF} {G : AG} {Q : AQ} {a0 : Nat} {a1 : Int} {a2 : Int} {a3 : Int} {a4 : Int} {a5 : Int} {a6 : Int} {a8 : Int} {a9 : Int} {a10 : Int} (h : V_X10_pick_198 d S F G Q a0 a1 a2 a3 a4 a5 a6 a8 a9 a10) : Go d MX10_pick 198 [some (vR a0), some (vI a1), some (vI a2), some (vI a3), some (vI a4), some (vI a5), some (vJ a6), none, some (vI a8), some (vI a9), some (vJ a10), none] [] S F G Q := by
  unfold V_X10_pick_198 at h
  refine go_iload (show decode cX10_pick 198 = .ok (.iload 8, 2) by decide +kernel) (by rfl) ?_
  refine go_iload_n (show decode cX10_pick 200 = .ok (.iload_n 2, 1) by decide +kernel) (by rfl) ?_
  obtain ⟨ht, hf⟩ := h
  refine go_icmple (tgt := 218) (show decode cX10_pick 201 = .ok (.if_icmp .le 17, 3) by decide +kernel) (by decide) (fun hc => ?_) (fun hc => ?_)
  · have h := ht hc
    exact R_X10_pick_218 h
  · have h := hf hc
    refine go_aload_n (show decode cX10_pick 204 = .ok (.aload_n 0, 1) by decide +kernel) (by rfl) ?_
    refine go_iload_n (show decode cX10_pick 205 = .ok (.iload_n 1, 1) by decide +kernel) (by rfl) ?_
    refine go_iload_n (show decode cX10_pick 206 = .ok (.iload_n 2, 1) by decide +kernel) (by rfl) ?_
    refine go_iload (show decode cX10_pick 207 = .ok (.iload 9, 2) by decide +kernel) (by rfl) ?_
    refine go_iload (show decode cX10_pick 209 = .ok (.iload 8, 2) by decide +kernel) (by rfl) ?_
    refine go_iconst (show decode cX10_pick 211 = .ok (.iconst 1, 1) by decide +kernel) (by decide) ?_
    obtain ⟨q1, h⟩ := h
    refine go_isub (show decode cX10_pick 212 = .ok (.isub, 1) by decide +kernel) q1 ?_
    refine go_iload (show decode cX10_pick 213 = .ok (.iload 9, 2) by decide +kernel) (by rfl) ?_
    obtain ⟨q2, h⟩ := h
    obtain ⟨q7, h⟩ := h
    refine go_callV (d2 := d - 1) (M2 := MX10_empties) (n := 5) (ci := 10) (av := [vI a1, vI a2, vI a9, vI (a8 - 1), vI a9]) (st := []) (show decode cX10_pick 215 = .ok (.invokevirtual 261, 3) by decide +kernel) ml_X10_261 mt_X10_empties min_X10_empties mse_X10_empties (by decide) q7 rfl (Nat.le_of_ble_eq_true rfl) (by omega) (ok_mono h (fun w3 S4 F5 G6 h => ?_))
    obtain ⟨e9, h⟩ := h
    subst e9
    show Go d MX10_pick 218 [some (vR a0), some (vI a1), some (vI a2), some (vI a3), some (vI a4), some (vI a5), some (vJ a6), none, some (vI a8), some (vI a9), some (vJ a10), none] [] S4 F5 G6 Q
    exact R_X10_pick_218 h
def V_X10_pick_0 (d : Nat) (S : AS) (F : AF) (G : AG) (Q : AQ) (a0 : Nat) (a1 : Int) (a2 : Int) (a3 : Int) (a4 : Int) (a5 : Int) (a6 : Int) : Prop :=
  (sK S a0 = 10) ∧
  ∀ F2 : AF, F2 = fu F a0 0 0 →
  (1 ≤ d) ∧
  Ok (d - 1) MX10_isGood [vI a1] S F2 G (fun w4 S5 F6 G7 =>
  ∃ z8 : Int, w4 = some (vI z8) ∧
  ((z8 = 0) →
    Q (some (vJ (-2))) S5 F6 G7) ∧
  ((¬ z8 = 0) →
    (sK S5 a0 = 10) ∧
    Ok (d - 1) MX10_isRectangle [vR a0, vI a2, vI a3, vI a4, vI a5] S5 F6 G7 (fun w9 S10 F11 G12 =>
    ∃ z14 : Int, w9 = some (vI z14) ∧
    ((¬ z14 = 0) →
      Ok (d - 1) MX10_isIn [vJ a6, vJ 1, vJ 3000000000000000000] S10 F11 G12 (fun w15 S16 F17 G18 =>
      ∃ z19 : Int, w15 = some (vI z19) ∧
      ((¬ z19 = 0) →
        (sK S16 a0 = 10) ∧
        Ok (d - 1) MX10_finds [vR a0, vI a1, vI a2, vI a3, vI a4, vI a5, vJ a6] S16 F17 G18 (fun w20 S21 F22 G23 =>
        ∃ z25 : Int, w20 = some (vI z25) ∧
        ((¬ z25 = 0) →
          (sK S21 a0 = 10) ∧
          ∀ x27 : Int, x27 = F22 a0 21 →
          ∀ x28 : Int, x28 = F22 a0 22 →
          ∀ x29 : Int, x29 = F22 a0 23 →
          Ok (d - 1) MX10_hasRoom [vR a0, vI 0, vI a2, vI a4, vI x27] S21 F22 G23 (fun w30 S31 F32 G33 =>
          ∃ z34 : Int, w30 = some (vI z34) ∧
          ((z34 = 0) →
            Q (some (vJ (-4))) S31 F32 G33) ∧
          ((¬ z34 = 0) →
            (sK S31 a0 = 10) ∧
            Ok (d - 1) MX10_hasRoom [vR a0, vI 1, vI a3, vI a5, vI x28] S31 F32 G33 (fun w35 S36 F37 G38 =>
            ∃ z40 : Int, w35 = some (vI z40) ∧
            ((¬ z40 = 0) →
              (sK S36 a0 = 10) ∧
              Ok (d - 1) MX10_acts [vR a0] S36 F37 G38 (fun w41 S42 F43 G44 =>
              w41 = none ∧
              (sK S42 a0 = 10) ∧
              Ok (d - 1) MX10_comes [vR a0, vI 0, vI a2] S42 F43 G44 (fun w46 S47 F48 G49 =>
              w46 = none ∧
              (r32 (a4 + 1)) ∧
              (sK S47 a0 = 10) ∧
              Ok (d - 1) MX10_comes [vR a0, vI 0, vI (a4 + 1)] S47 F48 G49 (fun w52 S53 F54 G55 =>
              w52 = none ∧
              (sK S53 a0 = 10) ∧
              Ok (d - 1) MX10_comes [vR a0, vI 0, vI x27] S53 F54 G55 (fun w57 S58 F59 G60 =>
              w57 = none ∧
              (r32 (x27 + 1)) ∧
              (sK S58 a0 = 10) ∧
              Ok (d - 1) MX10_comes [vR a0, vI 0, vI (x27 + 1)] S58 F59 G60 (fun w63 S64 F65 G66 =>
              w63 = none ∧
              (sK S64 a0 = 10) ∧
              Ok (d - 1) MX10_comes [vR a0, vI 1, vI a3] S64 F65 G66 (fun w68 S69 F70 G71 =>
              w68 = none ∧
              (r32 (a5 + 1)) ∧
              (sK S69 a0 = 10) ∧
              Ok (d - 1) MX10_comes [vR a0, vI 1, vI (a5 + 1)] S69 F70 G71 (fun w74 S75 F76 G77 =>
              w74 = none ∧
              (sK S75 a0 = 10) ∧
              Ok (d - 1) MX10_comes [vR a0, vI 1, vI x28] S75 F76 G77 (fun w79 S80 F81 G82 =>
              w79 = none ∧
              (r32 (x28 + 1)) ∧
              (sK S80 a0 = 10) ∧
              Ok (d - 1) MX10_comes [vR a0, vI 1, vI (x28 + 1)] S80 F81 G82 (fun w85 S86 F87 G88 =>
              w85 = none ∧
              ((x28 ≤ a3) →
                V_X10_pick_198 d S86 F87 G88 Q a0 a1 a2 a3 a4 a5 a6 x27 x28 x29) ∧
              ((¬ x28 ≤ a3) →
                (r32 (x28 - 1)) ∧
                (sK S86 a0 = 10) ∧
                Ok (d - 1) MX10_empties [vR a0, vI a1, vI a2, vI a3, vI a4, vI (x28 - 1)] S86 F87 G88 (fun w91 S92 F93 G94 =>
                w91 = none ∧
                V_X10_pick_198 d S92 F93 G94 Q a0 a1 a2 a3 a4 a5 a6 x27 x28 x29)))))))))))) ∧
            ((z40 = 0) →
              Q (some (vJ (-4))) S36 F37 G38))))) ∧
        ((z25 = 0) →
          Q (some (vJ (-5))) S21 F22 G23))) ∧
      ((z19 = 0) →
        Q (some (vJ (-3))) S16 F17 G18))) ∧
    ((z14 = 0) →
      Q (some (vJ (-2))) S10 F11 G12))))
theorem R_X10_pick_0 {d : Nat} {S : AS} {F : AF} {G : AG} {Q : AQ} {a0 : Nat} {a1 : Int} {a2 : Int} {a3 : Int} {a4 : Int} {a5 : Int} {a6 : Int} (h : V_X10_pick_0 d S F G Q a0 a1 a2 a3 a4 a5 a6) : Go d MX10_pick 0 [some (vR a0), some (vI a1), some (vI a2), some (vI a3), some (vI a4), some (vI a5), some (vJ a6), none, none, none, none, none] [] S F G Q := by
  unfold V_X10_pick_0 at h
  refine go_aload_n (show decode cX10_pick 0 = .ok (.aload_n 0, 1) by decide +kernel) (by rfl) ?_
  refine go_iconst (show decode cX10_pick 1 = .ok (.iconst 0, 1) by decide +kernel) (by decide) ?_
  obtain ⟨q1, h⟩ := h
  refine go_putI (show decode cX10_pick 2 = .ok (.putfield 1, 3) by decide +kernel) fl_X10_1 rfl (Or.inl rfl) q1 ?_
  obtain ⟨F2, F2e⟩ : ∃ F2 : AF, F2 = fu F a0 0 0 := ⟨_, rfl⟩
  have h := h F2 F2e
  rw [← F2e]
  refine go_iload_n (show decode cX10_pick 5 = .ok (.iload_n 1, 1) by decide +kernel) (by rfl) ?_
  obtain ⟨q3, h⟩ := h
  refine go_callS (d2 := d - 1) (M2 := MX10_isGood) (n := 1) (av := [vI a1]) (st := []) (show decode cX10_pick 6 = .ok (.invokestatic 167, 3) by decide +kernel) ml_X10_167 mt_X10_isGood mst_X10_isGood rfl (Nat.le_of_ble_eq_true rfl) (by omega) (ok_mono h (fun w4 S5 F6 G7 h => ?_))
  obtain ⟨z8, e9, h⟩ := h
  subst e9
  show Go d MX10_pick 9 [some (vR a0), some (vI a1), some (vI a2), some (vI a3), some (vI a4), some (vI a5), some (vJ a6), none, none, none, none, none] [vI z8] S5 F6 G7 Q
  obtain ⟨ht, hf⟩ := h
  refine go_ifeq (tgt := 25) (show decode cX10_pick 9 = .ok (.ifCond .eq 16, 3) by decide +kernel) (by decide) (fun hc => ?_) (fun hc => ?_)
  · have h := ht hc
    refine go_ldc2 (show decode cX10_pick 25 = .ok (.ldc2_w 174, 3) by decide +kernel) lc_X10_174 (by decide) ?_
    exact go_lret (show decode cX10_pick 28 = .ok (.lreturn, 1) by decide +kernel) rfl h
  · have h := hf hc
    refine go_aload_n (show decode cX10_pick 12 = .ok (.aload_n 0, 1) by decide +kernel) (by rfl) ?_
    refine go_iload_n (show decode cX10_pick 13 = .ok (.iload_n 2, 1) by decide +kernel) (by rfl) ?_
    refine go_iload_n (show decode cX10_pick 14 = .ok (.iload_n 3, 1) by decide +kernel) (by rfl) ?_
    refine go_iload (show decode cX10_pick 15 = .ok (.iload 4, 2) by decide +kernel) (by rfl) ?_
    refine go_iload (show decode cX10_pick 17 = .ok (.iload 5, 2) by decide +kernel) (by rfl) ?_
    obtain ⟨q13, h⟩ := h
    refine go_callV (d2 := d - 1) (M2 := MX10_isRectangle) (n := 4) (ci := 10) (av := [vI a2, vI a3, vI a4, vI a5]) (st := []) (show decode cX10_pick 19 = .ok (.invokevirtual 170, 3) by decide +kernel) ml_X10_170 mt_X10_isRectangle min_X10_isRectangle mse_X10_isRectangle (by decide) q13 rfl (Nat.le_of_ble_eq_true rfl) (by omega) (ok_mono h (fun w9 S10 F11 G12 h => ?_))
    obtain ⟨z14, e9, h⟩ := h
    subst e9
    show Go d MX10_pick 22 [some (vR a0), some (vI a1), some (vI a2), some (vI a3), some (vI a4), some (vI a5), some (vJ a6), none, none, none, none, none] [vI z14] S10 F11 G12 Q
    obtain ⟨ht, hf⟩ := h
    refine go_ifne (tgt := 29) (show decode cX10_pick 22 = .ok (.ifCond .ne 7, 3) by decide +kernel) (by decide) (fun hc => ?_) (fun hc => ?_)
    · have h := ht hc
      refine go_lload (show decode cX10_pick 29 = .ok (.lload 6, 2) by decide +kernel) (by rfl) ?_
      refine go_lconst (n := 1) (show decode cX10_pick 31 = .ok (.lconst 1, 1) by decide +kernel) ?_
      show Go d MX10_pick 32 [some (vR a0), some (vI a1), some (vI a2), some (vI a3), some (vI a4), some (vI a5), some (vJ a6), none, none, none, none, none] [vJ 1, vJ a6] S10 F11 G12 Q
      refine go_ldc2 (show decode cX10_pick 32 = .ok (.ldc2_w 198, 3) by decide +kernel) lc_X10_198 (by decide) ?_
      refine go_callS (d2 := d - 1) (M2 := MX10_isIn) (n := 3) (av := [vJ a6, vJ 1, vJ 3000000000000000000]) (st := []) (show decode cX10_pick 35 = .ok (.invokestatic 116, 3) by decide +kernel) ml_X10_116 mt_X10_isIn mst_X10_isIn rfl (Nat.le_of_ble_eq_true rfl) (by omega) (ok_mono h (fun w15 S16 F17 G18 h => ?_))
      obtain ⟨z19, e9, h⟩ := h
      subst e9
      show Go d MX10_pick 38 [some (vR a0), some (vI a1), some (vI a2), some (vI a3), some (vI a4), some (vI a5), some (vJ a6), none, none, none, none, none] [vI z19] S16 F17 G18 Q
      obtain ⟨ht, hf⟩ := h
      refine go_ifne (tgt := 45) (show decode cX10_pick 38 = .ok (.ifCond .ne 7, 3) by decide +kernel) (by decide) (fun hc => ?_) (fun hc => ?_)
      · have h := ht hc
        refine go_aload_n (show decode cX10_pick 45 = .ok (.aload_n 0, 1) by decide +kernel) (by rfl) ?_
        refine go_iload_n (show decode cX10_pick 46 = .ok (.iload_n 1, 1) by decide +kernel) (by rfl) ?_
        refine go_iload_n (show decode cX10_pick 47 = .ok (.iload_n 2, 1) by decide +kernel) (by rfl) ?_
        refine go_iload_n (show decode cX10_pick 48 = .ok (.iload_n 3, 1) by decide +kernel) (by rfl) ?_
        refine go_iload (show decode cX10_pick 49 = .ok (.iload 4, 2) by decide +kernel) (by rfl) ?_
        refine go_iload (show decode cX10_pick 51 = .ok (.iload 5, 2) by decide +kernel) (by rfl) ?_
        refine go_lload (show decode cX10_pick 53 = .ok (.lload 6, 2) by decide +kernel) (by rfl) ?_
        obtain ⟨q24, h⟩ := h
        refine go_callV (d2 := d - 1) (M2 := MX10_finds) (n := 6) (ci := 10) (av := [vI a1, vI a2, vI a3, vI a4, vI a5, vJ a6]) (st := []) (show decode cX10_pick 55 = .ok (.invokevirtual 255, 3) by decide +kernel) ml_X10_255 mt_X10_finds min_X10_finds mse_X10_finds (by decide) q24 rfl (Nat.le_of_ble_eq_true rfl) (by omega) (ok_mono h (fun w20 S21 F22 G23 h => ?_))
        obtain ⟨z25, e9, h⟩ := h
        subst e9
        show Go d MX10_pick 58 [some (vR a0), some (vI a1), some (vI a2), some (vI a3), some (vI a4), some (vI a5), some (vJ a6), none, none, none, none, none] [vI z25] S21 F22 G23 Q
        obtain ⟨ht, hf⟩ := h
        refine go_ifne (tgt := 65) (show decode cX10_pick 58 = .ok (.ifCond .ne 7, 3) by decide +kernel) (by decide) (fun hc => ?_) (fun hc => ?_)
        · have h := ht hc
          refine go_aload_n (show decode cX10_pick 65 = .ok (.aload_n 0, 1) by decide +kernel) (by rfl) ?_
          obtain ⟨q26, h⟩ := h
          refine go_getI (show decode cX10_pick 66 = .ok (.getfield 224, 3) by decide +kernel) fl_X10_224 (Or.inl rfl) q26 ?_
          obtain ⟨x27, x27e⟩ : ∃ x27 : Int, x27 = F22 a0 21 := ⟨_, rfl⟩
          have h := h x27 x27e
          rw [← x27e]
          refine go_istore (show decode cX10_pick 69 = .ok (.istore 8, 2) by decide +kernel) (by decide) ?_
          show Go d MX10_pick 71 [some (vR a0), some (vI a1), some (vI a2), some (vI a3), some (vI a4), some (vI a5), some (vJ a6), none, some (vI x27), none, none, none] [] S21 F22 G23 Q
          refine go_aload_n (show decode cX10_pick 71 = .ok (.aload_n 0, 1) by decide +kernel) (by rfl) ?_
          refine go_getI (show decode cX10_pick 72 = .ok (.getfield 221, 3) by decide +kernel) fl_X10_221 (Or.inl rfl) q26 ?_
          obtain ⟨x28, x28e⟩ : ∃ x28 : Int, x28 = F22 a0 22 := ⟨_, rfl⟩
          have h := h x28 x28e
          rw [← x28e]
          refine go_istore (show decode cX10_pick 75 = .ok (.istore 9, 2) by decide +kernel) (by decide) ?_
          show Go d MX10_pick 77 [some (vR a0), some (vI a1), some (vI a2), some (vI a3), some (vI a4), some (vI a5), some (vJ a6), none, some (vI x27), some (vI x28), none, none] [] S21 F22 G23 Q
          refine go_aload_n (show decode cX10_pick 77 = .ok (.aload_n 0, 1) by decide +kernel) (by rfl) ?_
          refine go_getJ (show decode cX10_pick 78 = .ok (.getfield 227, 3) by decide +kernel) fl_X10_227 rfl q26 ?_
          obtain ⟨x29, x29e⟩ : ∃ x29 : Int, x29 = F22 a0 23 := ⟨_, rfl⟩
          have h := h x29 x29e
          rw [← x29e]
          refine go_lstore (show decode cX10_pick 81 = .ok (.lstore 10, 2) by decide +kernel) (by decide) ?_
          show Go d MX10_pick 83 [some (vR a0), some (vI a1), some (vI a2), some (vI a3), some (vI a4), some (vI a5), some (vJ a6), none, some (vI x27), some (vI x28), some (vJ x29), none] [] S21 F22 G23 Q
          refine go_aload_n (show decode cX10_pick 83 = .ok (.aload_n 0, 1) by decide +kernel) (by rfl) ?_
          refine go_iconst (show decode cX10_pick 84 = .ok (.iconst 0, 1) by decide +kernel) (by decide) ?_
          refine go_iload_n (show decode cX10_pick 85 = .ok (.iload_n 2, 1) by decide +kernel) (by rfl) ?_
          refine go_iload (show decode cX10_pick 86 = .ok (.iload 4, 2) by decide +kernel) (by rfl) ?_
          refine go_iload (show decode cX10_pick 88 = .ok (.iload 8, 2) by decide +kernel) (by rfl) ?_
          refine go_callV (d2 := d - 1) (M2 := MX10_hasRoom) (n := 4) (ci := 10) (av := [vI 0, vI a2, vI a4, vI x27]) (st := []) (show decode cX10_pick 90 = .ok (.invokevirtual 202, 3) by decide +kernel) ml_X10_202 mt_X10_hasRoom min_X10_hasRoom mse_X10_hasRoom (by decide) q26 rfl (Nat.le_of_ble_eq_true rfl) (by omega) (ok_mono h (fun w30 S31 F32 G33 h => ?_))
          obtain ⟨z34, e9, h⟩ := h
          subst e9
          show Go d MX10_pick 93 [some (vR a0), some (vI a1), some (vI a2), some (vI a3), some (vI a4), some (vI a5), some (vJ a6), none, some (vI x27), some (vI x28), some (vJ x29), none] [vI z34] S31 F32 G33 Q
          obtain ⟨ht, hf⟩ := h
          refine go_ifeq (tgt := 109) (show decode cX10_pick 93 = .ok (.ifCond .eq 16, 3) by decide +kernel) (by decide) (fun hc => ?_) (fun hc => ?_)
          · have h := ht hc
            refine go_ldc2 (show decode cX10_pick 109 = .ok (.ldc2_w 205, 3) by decide +kernel) lc_X10_205 (by decide) ?_
            exact go_lret (show decode cX10_pick 112 = .ok (.lreturn, 1) by decide +kernel) rfl h
          · have h := hf hc
            refine go_aload_n (show decode cX10_pick 96 = .ok (.aload_n 0, 1) by decide +kernel) (by rfl) ?_
            refine go_iconst (show decode cX10_pick 97 = .ok (.iconst 1, 1) by decide +kernel) (by decide) ?_
            refine go_iload_n (show decode cX10_pick 98 = .ok (.iload_n 3, 1) by decide +kernel) (by rfl) ?_
            refine go_iload (show decode cX10_pick 99 = .ok (.iload 5, 2) by decide +kernel) (by rfl) ?_
            refine go_iload (show decode cX10_pick 101 = .ok (.iload 9, 2) by decide +kernel) (by rfl) ?_
            obtain ⟨q39, h⟩ := h
            refine go_callV (d2 := d - 1) (M2 := MX10_hasRoom) (n := 4) (ci := 10) (av := [vI 1, vI a3, vI a5, vI x28]) (st := []) (show decode cX10_pick 103 = .ok (.invokevirtual 202, 3) by decide +kernel) ml_X10_202 mt_X10_hasRoom min_X10_hasRoom mse_X10_hasRoom (by decide) q39 rfl (Nat.le_of_ble_eq_true rfl) (by omega) (ok_mono h (fun w35 S36 F37 G38 h => ?_))
            obtain ⟨z40, e9, h⟩ := h
            subst e9
            show Go d MX10_pick 106 [some (vR a0), some (vI a1), some (vI a2), some (vI a3), some (vI a4), some (vI a5), some (vJ a6), none, some (vI x27), some (vI x28), some (vJ x29), none] [vI z40] S36 F37 G38 Q
            obtain ⟨ht, hf⟩ := h
            refine go_ifne (tgt := 113) (show decode cX10_pick 106 = .ok (.ifCond .ne 7, 3) by decide +kernel) (by decide) (fun hc => ?_) (fun hc => ?_)
            · have h := ht hc
              refine go_aload_n (show decode cX10_pick 113 = .ok (.aload_n 0, 1) by decide +kernel) (by rfl) ?_
              obtain ⟨q45, h⟩ := h
              refine go_callV (d2 := d - 1) (M2 := MX10_acts) (n := 0) (ci := 10) (av := []) (st := []) (show decode cX10_pick 114 = .ok (.invokevirtual 207, 3) by decide +kernel) ml_X10_207 mt_X10_acts min_X10_acts mse_X10_acts (by decide) q45 rfl (Nat.le_of_ble_eq_true rfl) (by omega) (ok_mono h (fun w41 S42 F43 G44 h => ?_))
              obtain ⟨e9, h⟩ := h
              subst e9
              show Go d MX10_pick 117 [some (vR a0), some (vI a1), some (vI a2), some (vI a3), some (vI a4), some (vI a5), some (vJ a6), none, some (vI x27), some (vI x28), some (vJ x29), none] [] S42 F43 G44 Q
              refine go_aload_n (show decode cX10_pick 117 = .ok (.aload_n 0, 1) by decide +kernel) (by rfl) ?_
              refine go_iconst (show decode cX10_pick 118 = .ok (.iconst 0, 1) by decide +kernel) (by decide) ?_
              refine go_iload_n (show decode cX10_pick 119 = .ok (.iload_n 2, 1) by decide +kernel) (by rfl) ?_
              obtain ⟨q50, h⟩ := h
              refine go_callV (d2 := d - 1) (M2 := MX10_comes) (n := 2) (ci := 10) (av := [vI 0, vI a2]) (st := []) (show decode cX10_pick 120 = .ok (.invokevirtual 210, 3) by decide +kernel) ml_X10_210 mt_X10_comes min_X10_comes mse_X10_comes (by decide) q50 rfl (Nat.le_of_ble_eq_true rfl) (by omega) (ok_mono h (fun w46 S47 F48 G49 h => ?_))
              obtain ⟨e9, h⟩ := h
              subst e9
              show Go d MX10_pick 123 [some (vR a0), some (vI a1), some (vI a2), some (vI a3), some (vI a4), some (vI a5), some (vJ a6), none, some (vI x27), some (vI x28), some (vJ x29), none] [] S47 F48 G49 Q
              refine go_aload_n (show decode cX10_pick 123 = .ok (.aload_n 0, 1) by decide +kernel) (by rfl) ?_
              refine go_iconst (show decode cX10_pick 124 = .ok (.iconst 0, 1) by decide +kernel) (by decide) ?_
              refine go_iload (show decode cX10_pick 125 = .ok (.iload 4, 2) by decide +kernel) (by rfl) ?_
              refine go_iconst (show decode cX10_pick 127 = .ok (.iconst 1, 1) by decide +kernel) (by decide) ?_
              obtain ⟨q51, h⟩ := h
              refine go_iadd (show decode cX10_pick 128 = .ok (.iadd, 1) by decide +kernel) q51 ?_
              obtain ⟨q56, h⟩ := h
              refine go_callV (d2 := d - 1) (M2 := MX10_comes) (n := 2) (ci := 10) (av := [vI 0, vI (a4 + 1)]) (st := []) (show decode cX10_pick 129 = .ok (.invokevirtual 210, 3) by decide +kernel) ml_X10_210 mt_X10_comes min_X10_comes mse_X10_comes (by decide) q56 rfl (Nat.le_of_ble_eq_true rfl) (by omega) (ok_mono h (fun w52 S53 F54 G55 h => ?_))
              obtain ⟨e9, h⟩ := h
              subst e9
              show Go d MX10_pick 132 [some (vR a0), some (vI a1), some (vI a2), some (vI a3), some (vI a4), some (vI a5), some (vJ a6), none, some (vI x27), some (vI x28), some (vJ x29), none] [] S53 F54 G55 Q
              refine go_aload_n (show decode cX10_pick 132 = .ok (.aload_n 0, 1) by decide +kernel) (by rfl) ?_
              refine go_iconst (show decode cX10_pick 133 = .ok (.iconst 0, 1) by decide +kernel) (by decide) ?_
              refine go_iload (show decode cX10_pick 134 = .ok (.iload 8, 2) by decide +kernel) (by rfl) ?_
              obtain ⟨q61, h⟩ := h
              refine go_callV (d2 := d - 1) (M2 := MX10_comes) (n := 2) (ci := 10) (av := [vI 0, vI x27]) (st := []) (show decode cX10_pick 136 = .ok (.invokevirtual 210, 3) by decide +kernel) ml_X10_210 mt_X10_comes min_X10_comes mse_X10_comes (by decide) q61 rfl (Nat.le_of_ble_eq_true rfl) (by omega) (ok_mono h (fun w57 S58 F59 G60 h => ?_))
              obtain ⟨e9, h⟩ := h
              subst e9
              show Go d MX10_pick 139 [some (vR a0), some (vI a1), some (vI a2), some (vI a3), some (vI a4), some (vI a5), some (vJ a6), none, some (vI x27), some (vI x28), some (vJ x29), none] [] S58 F59 G60 Q
              refine go_aload_n (show decode cX10_pick 139 = .ok (.aload_n 0, 1) by decide +kernel) (by rfl) ?_
              refine go_iconst (show decode cX10_pick 140 = .ok (.iconst 0, 1) by decide +kernel) (by decide) ?_
              refine go_iload (show decode cX10_pick 141 = .ok (.iload 8, 2) by decide +kernel) (by rfl) ?_
              refine go_iconst (show decode cX10_pick 143 = .ok (.iconst 1, 1) by decide +kernel) (by decide) ?_
              obtain ⟨q62, h⟩ := h
              refine go_iadd (show decode cX10_pick 144 = .ok (.iadd, 1) by decide +kernel) q62 ?_
              obtain ⟨q67, h⟩ := h
              refine go_callV (d2 := d - 1) (M2 := MX10_comes) (n := 2) (ci := 10) (av := [vI 0, vI (x27 + 1)]) (st := []) (show decode cX10_pick 145 = .ok (.invokevirtual 210, 3) by decide +kernel) ml_X10_210 mt_X10_comes min_X10_comes mse_X10_comes (by decide) q67 rfl (Nat.le_of_ble_eq_true rfl) (by omega) (ok_mono h (fun w63 S64 F65 G66 h => ?_))
              obtain ⟨e9, h⟩ := h
              subst e9
              show Go d MX10_pick 148 [some (vR a0), some (vI a1), some (vI a2), some (vI a3), some (vI a4), some (vI a5), some (vJ a6), none, some (vI x27), some (vI x28), some (vJ x29), none] [] S64 F65 G66 Q
              refine go_aload_n (show decode cX10_pick 148 = .ok (.aload_n 0, 1) by decide +kernel) (by rfl) ?_
              refine go_iconst (show decode cX10_pick 149 = .ok (.iconst 1, 1) by decide +kernel) (by decide) ?_
              refine go_iload_n (show decode cX10_pick 150 = .ok (.iload_n 3, 1) by decide +kernel) (by rfl) ?_
              obtain ⟨q72, h⟩ := h
              refine go_callV (d2 := d - 1) (M2 := MX10_comes) (n := 2) (ci := 10) (av := [vI 1, vI a3]) (st := []) (show decode cX10_pick 151 = .ok (.invokevirtual 210, 3) by decide +kernel) ml_X10_210 mt_X10_comes min_X10_comes mse_X10_comes (by decide) q72 rfl (Nat.le_of_ble_eq_true rfl) (by omega) (ok_mono h (fun w68 S69 F70 G71 h => ?_))
              obtain ⟨e9, h⟩ := h
              subst e9
              show Go d MX10_pick 154 [some (vR a0), some (vI a1), some (vI a2), some (vI a3), some (vI a4), some (vI a5), some (vJ a6), none, some (vI x27), some (vI x28), some (vJ x29), none] [] S69 F70 G71 Q
              refine go_aload_n (show decode cX10_pick 154 = .ok (.aload_n 0, 1) by decide +kernel) (by rfl) ?_
              refine go_iconst (show decode cX10_pick 155 = .ok (.iconst 1, 1) by decide +kernel) (by decide) ?_
              refine go_iload (show decode cX10_pick 156 = .ok (.iload 5, 2) by decide +kernel) (by rfl) ?_
              refine go_iconst (show decode cX10_pick 158 = .ok (.iconst 1, 1) by decide +kernel) (by decide) ?_
              obtain ⟨q73, h⟩ := h
              refine go_iadd (show decode cX10_pick 159 = .ok (.iadd, 1) by decide +kernel) q73 ?_
              obtain ⟨q78, h⟩ := h
              refine go_callV (d2 := d - 1) (M2 := MX10_comes) (n := 2) (ci := 10) (av := [vI 1, vI (a5 + 1)]) (st := []) (show decode cX10_pick 160 = .ok (.invokevirtual 210, 3) by decide +kernel) ml_X10_210 mt_X10_comes min_X10_comes mse_X10_comes (by decide) q78 rfl (Nat.le_of_ble_eq_true rfl) (by omega) (ok_mono h (fun w74 S75 F76 G77 h => ?_))
              obtain ⟨e9, h⟩ := h
              subst e9
              show Go d MX10_pick 163 [some (vR a0), some (vI a1), some (vI a2), some (vI a3), some (vI a4), some (vI a5), some (vJ a6), none, some (vI x27), some (vI x28), some (vJ x29), none] [] S75 F76 G77 Q
              refine go_aload_n (show decode cX10_pick 163 = .ok (.aload_n 0, 1) by decide +kernel) (by rfl) ?_
              refine go_iconst (show decode cX10_pick 164 = .ok (.iconst 1, 1) by decide +kernel) (by decide) ?_
              refine go_iload (show decode cX10_pick 165 = .ok (.iload 9, 2) by decide +kernel) (by rfl) ?_
              obtain ⟨q83, h⟩ := h
              refine go_callV (d2 := d - 1) (M2 := MX10_comes) (n := 2) (ci := 10) (av := [vI 1, vI x28]) (st := []) (show decode cX10_pick 167 = .ok (.invokevirtual 210, 3) by decide +kernel) ml_X10_210 mt_X10_comes min_X10_comes mse_X10_comes (by decide) q83 rfl (Nat.le_of_ble_eq_true rfl) (by omega) (ok_mono h (fun w79 S80 F81 G82 h => ?_))
              obtain ⟨e9, h⟩ := h
              subst e9
              show Go d MX10_pick 170 [some (vR a0), some (vI a1), some (vI a2), some (vI a3), some (vI a4), some (vI a5), some (vJ a6), none, some (vI x27), some (vI x28), some (vJ x29), none] [] S80 F81 G82 Q
              refine go_aload_n (show decode cX10_pick 170 = .ok (.aload_n 0, 1) by decide +kernel) (by rfl) ?_
              refine go_iconst (show decode cX10_pick 171 = .ok (.iconst 1, 1) by decide +kernel) (by decide) ?_
              refine go_iload (show decode cX10_pick 172 = .ok (.iload 9, 2) by decide +kernel) (by rfl) ?_
              refine go_iconst (show decode cX10_pick 174 = .ok (.iconst 1, 1) by decide +kernel) (by decide) ?_
              obtain ⟨q84, h⟩ := h
              refine go_iadd (show decode cX10_pick 175 = .ok (.iadd, 1) by decide +kernel) q84 ?_
              obtain ⟨q89, h⟩ := h
              refine go_callV (d2 := d - 1) (M2 := MX10_comes) (n := 2) (ci := 10) (av := [vI 1, vI (x28 + 1)]) (st := []) (show decode cX10_pick 176 = .ok (.invokevirtual 210, 3) by decide +kernel) ml_X10_210 mt_X10_comes min_X10_comes mse_X10_comes (by decide) q89 rfl (Nat.le_of_ble_eq_true rfl) (by omega) (ok_mono h (fun w85 S86 F87 G88 h => ?_))
              obtain ⟨e9, h⟩ := h
              subst e9
              show Go d MX10_pick 179 [some (vR a0), some (vI a1), some (vI a2), some (vI a3), some (vI a4), some (vI a5), some (vJ a6), none, some (vI x27), some (vI x28), some (vJ x29), none] [] S86 F87 G88 Q
              refine go_iload (show decode cX10_pick 179 = .ok (.iload 9, 2) by decide +kernel) (by rfl) ?_
              refine go_iload_n (show decode cX10_pick 181 = .ok (.iload_n 3, 1) by decide +kernel) (by rfl) ?_
              obtain ⟨ht, hf⟩ := h
              refine go_icmple (tgt := 198) (show decode cX10_pick 182 = .ok (.if_icmp .le 16, 3) by decide +kernel) (by decide) (fun hc => ?_) (fun hc => ?_)
              · have h := ht hc
                exact R_X10_pick_198 h
              · have h := hf hc
                refine go_aload_n (show decode cX10_pick 185 = .ok (.aload_n 0, 1) by decide +kernel) (by rfl) ?_
                refine go_iload_n (show decode cX10_pick 186 = .ok (.iload_n 1, 1) by decide +kernel) (by rfl) ?_
                refine go_iload_n (show decode cX10_pick 187 = .ok (.iload_n 2, 1) by decide +kernel) (by rfl) ?_
                refine go_iload_n (show decode cX10_pick 188 = .ok (.iload_n 3, 1) by decide +kernel) (by rfl) ?_
                refine go_iload (show decode cX10_pick 189 = .ok (.iload 4, 2) by decide +kernel) (by rfl) ?_
                refine go_iload (show decode cX10_pick 191 = .ok (.iload 9, 2) by decide +kernel) (by rfl) ?_
                refine go_iconst (show decode cX10_pick 193 = .ok (.iconst 1, 1) by decide +kernel) (by decide) ?_
                obtain ⟨q90, h⟩ := h
                refine go_isub (show decode cX10_pick 194 = .ok (.isub, 1) by decide +kernel) q90 ?_
                obtain ⟨q95, h⟩ := h
                refine go_callV (d2 := d - 1) (M2 := MX10_empties) (n := 5) (ci := 10) (av := [vI a1, vI a2, vI a3, vI a4, vI (x28 - 1)]) (st := []) (show decode cX10_pick 195 = .ok (.invokevirtual 261, 3) by decide +kernel) ml_X10_261 mt_X10_empties min_X10_empties mse_X10_empties (by decide) q95 rfl (Nat.le_of_ble_eq_true rfl) (by omega) (ok_mono h (fun w91 S92 F93 G94 h => ?_))
                obtain ⟨e9, h⟩ := h
                subst e9
                show Go d MX10_pick 198 [some (vR a0), some (vI a1), some (vI a2), some (vI a3), some (vI a4), some (vI a5), some (vJ a6), none, some (vI x27), some (vI x28), some (vJ x29), none] [] S92 F93 G94 Q
                exact R_X10_pick_198 h
            · have h := hf hc
              refine go_ldc2 (show decode cX10_pick 109 = .ok (.ldc2_w 205, 3) by decide +kernel) lc_X10_205 (by decide) ?_
              exact go_lret (show decode cX10_pick 112 = .ok (.lreturn, 1) by decide +kernel) rfl h
        · have h := hf hc
          refine go_ldc2 (show decode cX10_pick 61 = .ok (.ldc2_w 259, 3) by decide +kernel) lc_X10_259 (by decide) ?_
          exact go_lret (show decode cX10_pick 64 = .ok (.lreturn, 1) by decide +kernel) rfl h
      · have h := hf hc
        refine go_ldc2 (show decode cX10_pick 41 = .ok (.ldc2_w 120, 3) by decide +kernel) lc_X10_120 (by decide) ?_
        exact go_lret (show decode cX10_pick 44 = .ok (.lreturn, 1) by decide +kernel) rfl h
    · have h := hf hc
      refine go_ldc2 (show decode cX10_pick 25 = .ok (.ldc2_w 174, 3) by decide +kernel) lc_X10_174 (by decide) ?_
      exact go_lret (show decode cX10_pick 28 = .ok (.lreturn, 1) by decide +kernel) rfl h
def V_X10_finds_230 (d : Nat) (S : AS) (F : AF) (G : AG) (Q : AQ) (a0 : Nat) (a1 : Int) (a2 : Int) (a3 : Int) (a4 : Int) (a5 : Int) (a6 : Int) (a8 : Int) (a10 : Int) (a11 : Int) (a12 : Int) (a14 : Int) (a16 : Int) (a17 : Int) (s0 : Int) (s1 : Int) (s2 : Nat) : Prop :=
  (r32 (s1 + s0)) ∧
  (sK S s2 = 10) ∧
  ∀ F3 : AF, F3 = fu F s2 21 (s1 + s0) →
  (r64 (a8 - 1)) ∧
  (¬ a17 = 0) ∧
  (r64 (Int.tdiv (a8 - 1) a17)) ∧
  (r64 (Int.tmod (a8 - 1) a17)) ∧
  (r64 ((Int.tmod (a8 - 1) a17) + 1)) ∧
  (sK S a0 = 10) ∧
  ∀ F10 : AF, F10 = fu F3 a0 23 ((Int.tmod (a8 - 1) a17) + 1) →
  Q (some (vI 1)) S F10 G
theorem R_X10_finds_230 {d : Nat} {S : AS} {F : AF} {G : AG} {Q : AQ} {a0 : Nat} {a1 : Int} {a2 : Int} {a3 : Int} {a4 : Int} {a5 : Int} {a6 : Int} {a8 : Int} {a10 : Int} {a11 : Int} {a12 : Int} {a14 : Int} {a16 : Int} {a17 : Int} {s0 : Int} {s1 : Int} {s2 : Nat} (h : V_X10_finds_230 d S F G Q a0 a1 a2 a3 a4 a5 a6 a8 a10 a11 a12 a14 a16 a17 s0 s1 s2) : Go d MX10_finds 230 [some (vR a0), some (vI a1), some (vI a2), some (vI a3), some (vI a4), some (vI a5), some (vJ a6), none, some (vJ a8), none, some (vI a10), some (vI a11), some (vJ a12), none, some (vJ a14), none, some (vI a16), some (vJ a17), none] [vI s0, vI s1, vR s2] S F G Q := by
  unfold V_X10_finds_230 at h
  obtain ⟨q1, h⟩ := h
  refine go_iadd (show decode cX10_finds 230 = .ok (.iadd, 1) by decide +kernel) q1 ?_
  obtain ⟨q2, h⟩ := h
  refine go_putI (show decode cX10_finds 231 = .ok (.putfield 224, 3) by decide +kernel) fl_X10_224 rfl (Or.inl rfl) q2 ?_
  obtain ⟨F3, F3e⟩ : ∃ F3 : AF, F3 = fu F s2 21 (s1 + s0) := ⟨_, rfl⟩
  have h := h F3 F3e
  rw [← F3e]
  refine go_aload_n (show decode cX10_finds 234 = .ok (.aload_n 0, 1) by decide +kernel) (by rfl) ?_
  refine go_lload (show decode cX10_finds 235 = .ok (.lload 8, 2) by decide +kernel) (by rfl) ?_
  refine go_lconst (n := 1) (show decode cX10_finds 237 = .ok (.lconst 1, 1) by decide +kernel) ?_
  show Go d MX10_finds 238 [some (vR a0), some (vI a1), some (vI a2), some (vI a3), some (vI a4), some (vI a5), some (vJ a6), none, some (vJ a8), none, some (vI a10), some (vI a11), some (vJ a12), none, some (vJ a14), none, some (vI a16), some (vJ a17), none] [vJ 1, vJ a8, vR a0] S F3 G Q
  obtain ⟨q4, h⟩ := h
  refine go_lsub (show decode cX10_finds 238 = .ok (.lsub, 1) by decide +kernel) q4 ?_
  refine go_lload (show decode cX10_finds 239 = .ok (.lload 17, 2) by decide +kernel) (by rfl) ?_
  obtain ⟨q5, h⟩ := h
  obtain ⟨q6, h⟩ := h
  obtain ⟨q7, h⟩ := h
  refine go_lrem (show decode cX10_finds 241 = .ok (.lrem, 1) by decide +kernel) q5 q6 q7 ?_
  refine go_lconst (n := 1) (show decode cX10_finds 242 = .ok (.lconst 1, 1) by decide +kernel) ?_
  show Go d MX10_finds 243 [some (vR a0), some (vI a1), some (vI a2), some (vI a3), some (vI a4), some (vI a5), some (vJ a6), none, some (vJ a8), none, some (vI a10), some (vI a11), some (vJ a12), none, some (vJ a14), none, some (vI a16), some (vJ a17), none] [vJ 1, vJ (Int.tmod (a8 - 1) a17), vR a0] S F3 G Q
  obtain ⟨q8, h⟩ := h
  refine go_ladd (show decode cX10_finds 243 = .ok (.ladd, 1) by decide +kernel) q8 ?_
  obtain ⟨q9, h⟩ := h
  refine go_putJ (show decode cX10_finds 244 = .ok (.putfield 227, 3) by decide +kernel) fl_X10_227 rfl (Or.inl rfl) q9 ?_
  obtain ⟨F10, F10e⟩ : ∃ F10 : AF, F10 = fu F3 a0 23 ((Int.tmod (a8 - 1) a17) + 1) := ⟨_, rfl⟩
  have h := h F10 F10e
  rw [← F10e]
  refine go_iconst (show decode cX10_finds 247 = .ok (.iconst 1, 1) by decide +kernel) (by decide) ?_
  exact go_zret (show decode cX10_finds 248 = .ok (.ireturn, 1) by decide +kernel) rfl (by decide) h
def V_X10_finds_129 (d : Nat) (S : AS) (F : AF) (G : AG) (Q : AQ) (a0 : Nat) (a1 : Int) (a2 : Int) (a3 : Int) (a4 : Int) (a5 : Int) (a6 : Int) (a8 : Int) (a10 : Int) (a11 : Int) (a12 : Int) (a14 : Int) (a16 : Int) : Prop :=
  (1 ≤ d) ∧
  (sK S a0 = 10) ∧
  Ok (d - 1) MX10_in [vR a0, vI a1, vI a16, vI a10] S F G (fun w2 S3 F4 G5 =>
  ∃ z7 : Int, w2 = some (vJ z7) ∧
  (sK S3 a0 = 10) ∧
  Ok (d - 1) MX10_part [vR a0, vI 0, vI a16, vI a2, vI a4] S3 F4 G5 (fun w8 S9 F10 G11 =>
  ∃ z13 : Int, w8 = some (vI z13) ∧
  (r64 (z7 * z13)) ∧
  ((a8 ≤ z7 * z13) →
    (sK S9 a0 = 10) ∧
    Ok (d - 1) MX10_in [vR a0, vI a1, vI a16, vI a10] S9 F10 G11 (fun w15 S16 F17 G18 =>
    ∃ z20 : Int, w15 = some (vJ z20) ∧
    (r64 (a8 - 1)) ∧
    (¬ z20 = 0) ∧
    (r64 (Int.tdiv (a8 - 1) z20)) ∧
    (r32 (Int.tdiv (a8 - 1) z20)) ∧
    (sK S16 a0 = 10) ∧
    Ok (d - 1) MX10_edgeAt [vR a0, vI 0, vI a16] S16 F17 G18 (fun w25 S26 F27 G28 =>
    ∃ z30 : Int, w25 = some (vI z30) ∧
    ((z30 ≤ a2) →
      V_X10_finds_230 d S26 F27 G28 Q a0 a1 a2 a3 a4 a5 a6 a8 a10 a11 a12 a14 a16 z20 a2 (Int.tdiv (a8 - 1) z20) a0) ∧
    ((¬ z30 ≤ a2) →
      (sK S26 a0 = 10) ∧
      Ok (d - 1) MX10_edgeAt [vR a0, vI 0, vI a16] S26 F27 G28 (fun w31 S32 F33 G34 =>
      ∃ z36 : Int, w31 = some (vI z36) ∧
      V_X10_finds_230 d S32 F33 G34 Q a0 a1 a2 a3 a4 a5 a6 a8 a10 a11 a12 a14 a16 z20 z36 (Int.tdiv (a8 - 1) z20) a0))))) ∧
  ((¬ a8 ≤ z7 * z13) →
    (sK S9 a0 = 10) ∧
    Ok (d - 1) MX10_in [vR a0, vI a1, vI a16, vI a10] S9 F10 G11 (fun w37 S38 F39 G40 =>
    ∃ z42 : Int, w37 = some (vJ z42) ∧
    (sK S38 a0 = 10) ∧
    Ok (d - 1) MX10_part [vR a0, vI 0, vI a16, vI a2, vI a4] S38 F39 G40 (fun w43 S44 F45 G46 =>
    ∃ z48 : Int, w43 = some (vI z48) ∧
    (r64 (z42 * z48)) ∧
    (r64 (a8 - (z42 * z48))) ∧
    ∀ x51 : Int, x51 = a8 - (z42 * z48) →
    (r32 (a16 + 1)) ∧
    Go d MX10_finds 129 [some (vR a0), some (vI a1), some (vI a2), some (vI a3), some (vI a4), some (vI a5), some (vJ a6), none, some (vJ x51), none, some (vI a10), some (vI a11), some (vJ a12), none, some (vJ a14), none, some (vI (a16 + 1)), none, none] [] S44 F45 G46 Q)))))
theorem R_X10_finds_129 {d : Nat} {S : AS} {F : AF} {G : AG} {Q : AQ} {a0 : Nat} {a1 : Int} {a2 : Int} {a3 : Int} {a4 : Int} {a5 : Int} {a6 : Int} {a8 : Int} {a10 : Int} {a11 : Int} {a12 : Int} {a14 : Int} {a16 : Int} (h : V_X10_finds_129 d S F G Q a0 a1 a2 a3 a4 a5 a6 a8 a10 a11 a12 a14 a16) : Go d MX10_finds 129 [some (vR a0), some (vI a1), some (vI a2), some (vI a3), some (vI a4), some (vI a5), some (vJ a6), none, some (vJ a8), none, some (vI a10), some (vI a11), some (vJ a12), none, some (vJ a14), none, some (vI a16), none, none] [] S F G Q := by
  unfold V_X10_finds_129 at h
  refine go_aload_n (show decode cX10_finds 129 = .ok (.aload_n 0, 1) by decide +kernel) (by rfl) ?_
  refine go_iload_n (show decode cX10_finds 130 = .ok (.iload_n 1, 1) by decide +kernel) (by rfl) ?_
  refine go_iload (show decode cX10_finds 131 = .ok (.iload 16, 2) by decide +kernel) (by rfl) ?_
  refine go_iload (show decode cX10_finds 133 = .ok (.iload 10, 2) by decide +kernel) (by rfl) ?_
  obtain ⟨q1, h⟩ := h
  obtain ⟨q6, h⟩ := h
  refine go_callV (d2 := d - 1) (M2 := MX10_in) (n := 3) (ci := 10) (av := [vI a1, vI a16, vI a10]) (st := []) (show decode cX10_finds 135 = .ok (.invokevirtual 163, 3) by decide +kernel) ml_X10_163 mt_X10_in min_X10_in mse_X10_in (by decide) q6 rfl (Nat.le_of_ble_eq_true rfl) (by omega) (ok_mono h (fun w2 S3 F4 G5 h => ?_))
  obtain ⟨z7, e9, h⟩ := h
  subst e9
  show Go d MX10_finds 138 [some (vR a0), some (vI a1), some (vI a2), some (vI a3), some (vI a4), some (vI a5), some (vJ a6), none, some (vJ a8), none, some (vI a10), some (vI a11), some (vJ a12), none, some (vJ a14), none, some (vI a16), none, none] [vJ z7] S3 F4 G5 Q
  refine go_aload_n (show decode cX10_finds 138 = .ok (.aload_n 0, 1) by decide +kernel) (by rfl) ?_
  refine go_iconst (show decode cX10_finds 139 = .ok (.iconst 0, 1) by decide +kernel) (by decide) ?_
  refine go_iload (show decode cX10_finds 140 = .ok (.iload 16, 2) by decide +kernel) (by rfl) ?_
  refine go_iload_n (show decode cX10_finds 142 = .ok (.iload_n 2, 1) by decide +kernel) (by rfl) ?_
  refine go_iload (show decode cX10_finds 143 = .ok (.iload 4, 2) by decide +kernel) (by rfl) ?_
  obtain ⟨q12, h⟩ := h
  refine go_callV (d2 := d - 1) (M2 := MX10_part) (n := 4) (ci := 10) (av := [vI 0, vI a16, vI a2, vI a4]) (st := [vJ z7]) (show decode cX10_finds 145 = .ok (.invokevirtual 159, 3) by decide +kernel) ml_X10_159 mt_X10_part min_X10_part mse_X10_part (by decide) q12 rfl (Nat.le_of_ble_eq_true rfl) (by omega) (ok_mono h (fun w8 S9 F10 G11 h => ?_))
  obtain ⟨z13, e9, h⟩ := h
  subst e9
  show Go d MX10_finds 148 [some (vR a0), some (vI a1), some (vI a2), some (vI a3), some (vI a4), some (vI a5), some (vJ a6), none, some (vJ a8), none, some (vI a10), some (vI a11), some (vJ a12), none, some (vJ a14), none, some (vI a16), none, none] [vI z13, vJ z7] S9 F10 G11 Q
  refine go_i2l (show decode cX10_finds 148 = .ok (.i2l, 1) by decide +kernel) ?_
  obtain ⟨q14, h⟩ := h
  refine go_lmul (show decode cX10_finds 149 = .ok (.lmul, 1) by decide +kernel) q14 ?_
  refine go_lload (show decode cX10_finds 150 = .ok (.lload 8, 2) by decide +kernel) (by rfl) ?_
  obtain ⟨ht, hf⟩ := h
  refine go_jge (tgt := 188) (show decode cX10_finds 152 = .ok (.lcmp, 1) by decide +kernel) (show decode cX10_finds 153 = .ok (.ifCond .ge 35, 3) by decide +kernel) (by decide) (fun hc => ?_) (fun hc => ?_)
  · have h := ht hc
    refine go_aload_n (show decode cX10_finds 188 = .ok (.aload_n 0, 1) by decide +kernel) (by rfl) ?_
    refine go_iload_n (show decode cX10_finds 189 = .ok (.iload_n 1, 1) by decide +kernel) (by rfl) ?_
    refine go_iload (show decode cX10_finds 190 = .ok (.iload 16, 2) by decide +kernel) (by rfl) ?_
    refine go_iload (show decode cX10_finds 192 = .ok (.iload 10, 2) by decide +kernel) (by rfl) ?_
    obtain ⟨q19, h⟩ := h
    refine go_callV (d2 := d - 1) (M2 := MX10_in) (n := 3) (ci := 10) (av := [vI a1, vI a16, vI a10]) (st := []) (show decode cX10_finds 194 = .ok (.invokevirtual 163, 3) by decide +kernel) ml_X10_163 mt_X10_in min_X10_in mse_X10_in (by decide) q19 rfl (Nat.le_of_ble_eq_true rfl) (by omega) (ok_mono h (fun w15 S16 F17 G18 h => ?_))
    obtain ⟨z20, e9, h⟩ := h
    subst e9
    show Go d MX10_finds 197 [some (vR a0), some (vI a1), some (vI a2), some (vI a3), some (vI a4), some (vI a5), some (vJ a6), none, some (vJ a8), none, some (vI a10), some (vI a11), some (vJ a12), none, some (vJ a14), none, some (vI a16), none, none] [vJ z20] S16 F17 G18 Q
    refine go_lstore (show decode cX10_finds 197 = .ok (.lstore 17, 2) by decide +kernel) (by decide) ?_
    show Go d MX10_finds 199 [some (vR a0), some (vI a1), some (vI a2), some (vI a3), some (vI a4), some (vI a5), some (vJ a6), none, some (vJ a8), none, some (vI a10), some (vI a11), some (vJ a12), none, some (vJ a14), none, some (vI a16), some (vJ z20), none] [] S16 F17 G18 Q
    refine go_aload_n (show decode cX10_finds 199 = .ok (.aload_n 0, 1) by decide +kernel) (by rfl) ?_
    refine go_lload (show decode cX10_finds 200 = .ok (.lload 8, 2) by decide +kernel) (by rfl) ?_
    refine go_lconst (n := 1) (show decode cX10_finds 202 = .ok (.lconst 1, 1) by decide +kernel) ?_
    show Go d MX10_finds 203 [some (vR a0), some (vI a1), some (vI a2), some (vI a3), some (vI a4), some (vI a5), some (vJ a6), none, some (vJ a8), none, some (vI a10), some (vI a11), some (vJ a12), none, some (vJ a14), none, some (vI a16), some (vJ z20), none] [vJ 1, vJ a8, vR a0] S16 F17 G18 Q
    obtain ⟨q21, h⟩ := h
    refine go_lsub (show decode cX10_finds 203 = .ok (.lsub, 1) by decide +kernel) q21 ?_
    refine go_lload (show decode cX10_finds 204 = .ok (.lload 17, 2) by decide +kernel) (by rfl) ?_
    obtain ⟨q22, h⟩ := h
    obtain ⟨q23, h⟩ := h
    refine go_ldiv (show decode cX10_finds 206 = .ok (.ldiv, 1) by decide +kernel) q22 q23 ?_
    obtain ⟨q24, h⟩ := h
    refine go_l2i (show decode cX10_finds 207 = .ok (.l2i, 1) by decide +kernel) q24 ?_
    refine go_aload_n (show decode cX10_finds 208 = .ok (.aload_n 0, 1) by decide +kernel) (by rfl) ?_
    refine go_iconst (show decode cX10_finds 209 = .ok (.iconst 0, 1) by decide +kernel) (by decide) ?_
    refine go_iload (show decode cX10_finds 210 = .ok (.iload 16, 2) by decide +kernel) (by rfl) ?_
    obtain ⟨q29, h⟩ := h
    refine go_callV (d2 := d - 1) (M2 := MX10_edgeAt) (n := 2) (ci := 10) (av := [vI 0, vI a16]) (st := [vI (Int.tdiv (a8 - 1) z20), vR a0]) (show decode cX10_finds 212 = .ok (.invokevirtual 126, 3) by decide +kernel) ml_X10_126 mt_X10_edgeAt min_X10_edgeAt mse_X10_edgeAt (by decide) q29 rfl (Nat.le_of_ble_eq_true rfl) (by omega) (ok_mono h (fun w25 S26 F27 G28 h => ?_))
    obtain ⟨z30, e9, h⟩ := h
    subst e9
    show Go d MX10_finds 215 [some (vR a0), some (vI a1), some (vI a2), some (vI a3), some (vI a4), some (vI a5), some (vJ a6), none, some (vJ a8), none, some (vI a10), some (vI a11), some (vJ a12), none, some (vJ a14), none, some (vI a16), some (vJ z20), none] [vI z30, vI (Int.tdiv (a8 - 1) z20), vR a0] S26 F27 G28 Q
    refine go_iload_n (show decode cX10_finds 215 = .ok (.iload_n 2, 1) by decide +kernel) (by rfl) ?_
    obtain ⟨ht, hf⟩ := h
    refine go_icmple (tgt := 229) (show decode cX10_finds 216 = .ok (.if_icmp .le 13, 3) by decide +kernel) (by decide) (fun hc => ?_) (fun hc => ?_)
    · have h := ht hc
      refine go_iload_n (show decode cX10_finds 229 = .ok (.iload_n 2, 1) by decide +kernel) (by rfl) ?_
      exact R_X10_finds_230 h
    · have h := hf hc
      refine go_aload_n (show decode cX10_finds 219 = .ok (.aload_n 0, 1) by decide +kernel) (by rfl) ?_
      refine go_iconst (show decode cX10_finds 220 = .ok (.iconst 0, 1) by decide +kernel) (by decide) ?_
      refine go_iload (show decode cX10_finds 221 = .ok (.iload 16, 2) by decide +kernel) (by rfl) ?_
      obtain ⟨q35, h⟩ := h
      refine go_callV (d2 := d - 1) (M2 := MX10_edgeAt) (n := 2) (ci := 10) (av := [vI 0, vI a16]) (st := [vI (Int.tdiv (a8 - 1) z20), vR a0]) (show decode cX10_finds 223 = .ok (.invokevirtual 126, 3) by decide +kernel) ml_X10_126 mt_X10_edgeAt min_X10_edgeAt mse_X10_edgeAt (by decide) q35 rfl (Nat.le_of_ble_eq_true rfl) (by omega) (ok_mono h (fun w31 S32 F33 G34 h => ?_))
      obtain ⟨z36, e9, h⟩ := h
      subst e9
      show Go d MX10_finds 226 [some (vR a0), some (vI a1), some (vI a2), some (vI a3), some (vI a4), some (vI a5), some (vJ a6), none, some (vJ a8), none, some (vI a10), some (vI a11), some (vJ a12), none, some (vJ a14), none, some (vI a16), some (vJ z20), none] [vI z36, vI (Int.tdiv (a8 - 1) z20), vR a0] S32 F33 G34 Q
      refine go_goto (tgt := 230) (show decode cX10_finds 226 = .ok (.goto 4, 3) by decide +kernel) (by decide) ?_
      exact R_X10_finds_230 h
  · have h := hf hc
    refine go_lload (show decode cX10_finds 156 = .ok (.lload 8, 2) by decide +kernel) (by rfl) ?_
    refine go_aload_n (show decode cX10_finds 158 = .ok (.aload_n 0, 1) by decide +kernel) (by rfl) ?_
    refine go_iload_n (show decode cX10_finds 159 = .ok (.iload_n 1, 1) by decide +kernel) (by rfl) ?_
    refine go_iload (show decode cX10_finds 160 = .ok (.iload 16, 2) by decide +kernel) (by rfl) ?_
    refine go_iload (show decode cX10_finds 162 = .ok (.iload 10, 2) by decide +kernel) (by rfl) ?_
    obtain ⟨q41, h⟩ := h
    refine go_callV (d2 := d - 1) (M2 := MX10_in) (n := 3) (ci := 10) (av := [vI a1, vI a16, vI a10]) (st := [vJ a8]) (show decode cX10_finds 164 = .ok (.invokevirtual 163, 3) by decide +kernel) ml_X10_163 mt_X10_in min_X10_in mse_X10_in (by decide) q41 rfl (Nat.le_of_ble_eq_true rfl) (by omega) (ok_mono h (fun w37 S38 F39 G40 h => ?_))
    obtain ⟨z42, e9, h⟩ := h
    subst e9
    show Go d MX10_finds 167 [some (vR a0), some (vI a1), some (vI a2), some (vI a3), some (vI a4), some (vI a5), some (vJ a6), none, some (vJ a8), none, some (vI a10), some (vI a11), some (vJ a12), none, some (vJ a14), none, some (vI a16), none, none] [vJ z42, vJ a8] S38 F39 G40 Q
    refine go_aload_n (show decode cX10_finds 167 = .ok (.aload_n 0, 1) by decide +kernel) (by rfl) ?_
    refine go_iconst (show decode cX10_finds 168 = .ok (.iconst 0, 1) by decide +kernel) (by decide) ?_
    refine go_iload (show decode cX10_finds 169 = .ok (.iload 16, 2) by decide +kernel) (by rfl) ?_
    refine go_iload_n (show decode cX10_finds 171 = .ok (.iload_n 2, 1) by decide +kernel) (by rfl) ?_
    refine go_iload (show decode cX10_finds 172 = .ok (.iload 4, 2) by decide +kernel) (by rfl) ?_
    obtain ⟨q47, h⟩ := h
    refine go_callV (d2 := d - 1) (M2 := MX10_part) (n := 4) (ci := 10) (av := [vI 0, vI a16, vI a2, vI a4]) (st := [vJ z42, vJ a8]) (show decode cX10_finds 174 = .ok (.invokevirtual 159, 3) by decide +kernel) ml_X10_159 mt_X10_part min_X10_part mse_X10_part (by decide) q47 rfl (Nat.le_of_ble_eq_true rfl) (by omega) (ok_mono h (fun w43 S44 F45 G46 h => ?_))
    obtain ⟨z48, e9, h⟩ := h
    subst e9
    show Go d MX10_finds 177 [some (vR a0), some (vI a1), some (vI a2), some (vI a3), some (vI a4), some (vI a5), some (vJ a6), none, some (vJ a8), none, some (vI a10), some (vI a11), some (vJ a12), none, some (vJ a14), none, some (vI a16), none, none] [vI z48, vJ z42, vJ a8] S44 F45 G46 Q
    refine go_i2l (show decode cX10_finds 177 = .ok (.i2l, 1) by decide +kernel) ?_
    obtain ⟨q49, h⟩ := h
    refine go_lmul (show decode cX10_finds 178 = .ok (.lmul, 1) by decide +kernel) q49 ?_
    obtain ⟨q50, h⟩ := h
    refine go_lsub (show decode cX10_finds 179 = .ok (.lsub, 1) by decide +kernel) q50 ?_
    obtain ⟨x51, x51e⟩ : ∃ x51 : Int, x51 = a8 - (z42 * z48) := ⟨_, rfl⟩
    have h := h x51 x51e
    rw [← x51e]
    refine go_lstore (show decode cX10_finds 180 = .ok (.lstore 8, 2) by decide +kernel) (by decide) ?_
    show Go d MX10_finds 182 [some (vR a0), some (vI a1), some (vI a2), some (vI a3), some (vI a4), some (vI a5), some (vJ a6), none, some (vJ x51), none, some (vI a10), some (vI a11), some (vJ a12), none, some (vJ a14), none, some (vI a16), none, none] [] S44 F45 G46 Q
    obtain ⟨q52, h⟩ := h
    refine go_iinc (show decode cX10_finds 182 = .ok (.iinc 16 1, 3) by decide +kernel) (by rfl) q52 (by decide) ?_
    show Go d MX10_finds 185 [some (vR a0), some (vI a1), some (vI a2), some (vI a3), some (vI a4), some (vI a5), some (vJ a6), none, some (vJ x51), none, some (vI a10), some (vI a11), some (vJ a12), none, some (vJ a14), none, some (vI (a16 + 1)), none, none] [] S44 F45 G46 Q
    refine go_goto (tgt := 129) (show decode cX10_finds 185 = .ok (.goto (-56), 3) by decide +kernel) (by decide) ?_
    exact h
def V_X10_finds_122 (d : Nat) (S : AS) (F : AF) (G : AG) (Q : AQ) (a0 : Nat) (a1 : Int) (a2 : Int) (a3 : Int) (a4 : Int) (a5 : Int) (a6 : Int) (a8 : Int) (a10 : Int) (a11 : Int) (a12 : Int) (a14 : Int) (s0 : Int) (s1 : Int) (s2 : Nat) : Prop :=
  (r32 (s1 + s0)) ∧
  (sK S s2 = 10) ∧
  ∀ F3 : AF, F3 = fu F s2 22 (s1 + s0) →
  Go d MX10_finds 129 [some (vR a0), some (vI a1), some (vI a2), some (vI a3), some (vI a4), some (vI a5), some (vJ a6), none, some (vJ a8), none, some (vI a10), some (vI a11), some (vJ a12), none, some (vJ a14), none, some (vI 0), none, none] [] S F3 G Q
theorem R_X10_finds_122 {d : Nat} {S : AS} {F : AF} {G : AG} {Q : AQ} {a0 : Nat} {a1 : Int} {a2 : Int} {a3 : Int} {a4 : Int} {a5 : Int} {a6 : Int} {a8 : Int} {a10 : Int} {a11 : Int} {a12 : Int} {a14 : Int} {s0 : Int} {s1 : Int} {s2 : Nat} (h : V_X10_finds_122 d S F G Q a0 a1 a2 a3 a4 a5 a6 a8 a10 a11 a12 a14 s0 s1 s2) : Go d MX10_finds 122 [some (vR a0), some (vI a1), some (vI a2), some (vI a3), some (vI a4), some (vI a5), some (vJ a6), none, some (vJ a8), none, some (vI a10), some (vI a11), some (vJ a12), none, some (vJ a14), none, none, none, none] [vI s0, vI s1, vR s2] S F G Q := by
  unfold V_X10_finds_122 at h
  obtain ⟨q1, h⟩ := h
  refine go_iadd (show decode cX10_finds 122 = .ok (.iadd, 1) by decide +kernel) q1 ?_
  obtain ⟨q2, h⟩ := h
  refine go_putI (show decode cX10_finds 123 = .ok (.putfield 221, 3) by decide +kernel) fl_X10_221 rfl (Or.inl rfl) q2 ?_
  obtain ⟨F3, F3e⟩ : ∃ F3 : AF, F3 = fu F s2 22 (s1 + s0) := ⟨_, rfl⟩
  have h := h F3 F3e
  rw [← F3e]
  refine go_iconst (show decode cX10_finds 126 = .ok (.iconst 0, 1) by decide +kernel) (by decide) ?_
  refine go_istore (show decode cX10_finds 127 = .ok (.istore 16, 2) by decide +kernel) (by decide) ?_
  show Go d MX10_finds 129 [some (vR a0), some (vI a1), some (vI a2), some (vI a3), some (vI a4), some (vI a5), some (vJ a6), none, some (vJ a8), none, some (vI a10), some (vI a11), some (vJ a12), none, some (vJ a14), none, some (vI 0), none, none] [] S F3 G Q
  exact h
def V_X10_finds_49 (d : Nat) (S : AS) (F : AF) (G : AG) (Q : AQ) (a0 : Nat) (a1 : Int) (a2 : Int) (a3 : Int) (a4 : Int) (a5 : Int) (a6 : Int) (a8 : Int) (a10 : Int) (a11 : Int) (s0 : Int) : Prop :=
  (r64 (s0 * a11)) ∧
  ((a8 ≤ s0 * a11) →
    (r64 (a8 - 1)) ∧
    (¬ s0 = 0) ∧
    (r64 (Int.tdiv (a8 - 1) s0)) ∧
    ∀ x5 : Int, x5 = Int.tdiv (a8 - 1) s0 →
    (r64 (x5 * s0)) ∧
    (r64 (a8 - (x5 * s0))) ∧
    ∀ x8 : Int, x8 = a8 - (x5 * s0) →
    (r32 (x5)) ∧
    (1 ≤ d) ∧
    (sK S a0 = 10) ∧
    Ok (d - 1) MX10_edgeAt [vR a0, vI 1, vI a10] S F G (fun w11 S12 F13 G14 =>
    ∃ z16 : Int, w11 = some (vI z16) ∧
    ((z16 ≤ a3) →
      V_X10_finds_122 d S12 F13 G14 Q a0 a1 a2 a3 a4 a5 a6 x8 a10 a11 s0 x5 a3 x5 a0) ∧
    ((¬ z16 ≤ a3) →
      (sK S12 a0 = 10) ∧
      Ok (d - 1) MX10_edgeAt [vR a0, vI 1, vI a10] S12 F13 G14 (fun w17 S18 F19 G20 =>
      ∃ z22 : Int, w17 = some (vI z22) ∧
      V_X10_finds_122 d S18 F19 G20 Q a0 a1 a2 a3 a4 a5 a6 x8 a10 a11 s0 x5 z22 x5 a0)))) ∧
  ((¬ a8 ≤ s0 * a11) →
    (r64 (a8 - (s0 * a11))) ∧
    ∀ x24 : Int, x24 = a8 - (s0 * a11) →
    (r32 (a10 + 1)) ∧
    Go d MX10_finds 7 [some (vR a0), some (vI a1), some (vI a2), some (vI a3), some (vI a4), some (vI a5), some (vJ a6), none, some (vJ x24), none, some (vI (a10 + 1)), none, none, none, none, none, none, none, none] [] S F G Q)
theorem R_X10_finds_49 {d : Nat} {S : AS} {F : AF} {G : AG} {Q : AQ} {a0 : Nat} {a1 : Int} {a2 : Int} {a3 : Int} {a4 : Int} {a5 : Int} {a6 : Int} {a8 : Int} {a10 : Int} {a11 : Int} {s0 : Int} (h : V_X10_finds_49 d S F G Q a0 a1 a2 a3 a4 a5 a6 a8 a10 a11 s0) : Go d MX10_finds 49 [some (vR a0), some (vI a1), some (vI a2), some (vI a3), some (vI a4), some (vI a5), some (vJ a6), none, some (vJ a8), none, some (vI a10), some (vI a11), none, none, none, none, none, none, none] [vJ s0] S F G Q := by
  unfold V_X10_finds_49 at h
  refine go_lstore (show decode cX10_finds 49 = .ok (.lstore 12, 2) by decide +kernel) (by decide) ?_
  show Go d MX10_finds 51 [some (vR a0), some (vI a1), some (vI a2), some (vI a3), some (vI a4), some (vI a5), some (vJ a6), none, some (vJ a8), none, some (vI a10), some (vI a11), some (vJ s0), none, none, none, none, none, none] [] S F G Q
  refine go_lload (show decode cX10_finds 51 = .ok (.lload 12, 2) by decide +kernel) (by rfl) ?_
  refine go_iload (show decode cX10_finds 53 = .ok (.iload 11, 2) by decide +kernel) (by rfl) ?_
  refine go_i2l (show decode cX10_finds 55 = .ok (.i2l, 1) by decide +kernel) ?_
  obtain ⟨q1, h⟩ := h
  refine go_lmul (show decode cX10_finds 56 = .ok (.lmul, 1) by decide +kernel) q1 ?_
  refine go_lload (show decode cX10_finds 57 = .ok (.lload 8, 2) by decide +kernel) (by rfl) ?_
  obtain ⟨ht, hf⟩ := h
  refine go_jge (tgt := 77) (show decode cX10_finds 59 = .ok (.lcmp, 1) by decide +kernel) (show decode cX10_finds 60 = .ok (.ifCond .ge 17, 3) by decide +kernel) (by decide) (fun hc => ?_) (fun hc => ?_)
  · have h := ht hc
    refine go_lload (show decode cX10_finds 77 = .ok (.lload 8, 2) by decide +kernel) (by rfl) ?_
    refine go_lconst (n := 1) (show decode cX10_finds 79 = .ok (.lconst 1, 1) by decide +kernel) ?_
    show Go d MX10_finds 80 [some (vR a0), some (vI a1), some (vI a2), some (vI a3), some (vI a4), some (vI a5), some (vJ a6), none, some (vJ a8), none, some (vI a10), some (vI a11), some (vJ s0), none, none, none, none, none, none] [vJ 1, vJ a8] S F G Q
    obtain ⟨q2, h⟩ := h
    refine go_lsub (show decode cX10_finds 80 = .ok (.lsub, 1) by decide +kernel) q2 ?_
    refine go_lload (show decode cX10_finds 81 = .ok (.lload 12, 2) by decide +kernel) (by rfl) ?_
    obtain ⟨q3, h⟩ := h
    obtain ⟨q4, h⟩ := h
    refine go_ldiv (show decode cX10_finds 83 = .ok (.ldiv, 1) by decide +kernel) q3 q4 ?_
    obtain ⟨x5, x5e⟩ : ∃ x5 : Int, x5 = Int.tdiv (a8 - 1) s0 := ⟨_, rfl⟩
    have h := h x5 x5e
    rw [← x5e]
    refine go_lstore (show decode cX10_finds 84 = .ok (.lstore 14, 2) by decide +kernel) (by decide) ?_
    show Go d MX10_finds 86 [some (vR a0), some (vI a1), some (vI a2), some (vI a3), some (vI a4), some (vI a5), some (vJ a6), none, some (vJ a8), none, some (vI a10), some (vI a11), some (vJ s0), none, some (vJ x5), none, none, none, none] [] S F G Q
    refine go_lload (show decode cX10_finds 86 = .ok (.lload 8, 2) by decide +kernel) (by rfl) ?_
    refine go_lload (show decode cX10_finds 88 = .ok (.lload 14, 2) by decide +kernel) (by rfl) ?_
    refine go_lload (show decode cX10_finds 90 = .ok (.lload 12, 2) by decide +kernel) (by rfl) ?_
    obtain ⟨q6, h⟩ := h
    refine go_lmul (show decode cX10_finds 92 = .ok (.lmul, 1) by decide +kernel) q6 ?_
    obtain ⟨q7, h⟩ := h
    refine go_lsub (show decode cX10_finds 93 = .ok (.lsub, 1) by decide +kernel) q7 ?_
    obtain ⟨x8, x8e⟩ : ∃ x8 : Int, x8 = a8 - (x5 * s0) := ⟨_, rfl⟩
    have h := h x8 x8e
    rw [← x8e]
    refine go_lstore (show decode cX10_finds 94 = .ok (.lstore 8, 2) by decide +kernel) (by decide) ?_
    show Go d MX10_finds 96 [some (vR a0), some (vI a1), some (vI a2), some (vI a3), some (vI a4), some (vI a5), some (vJ a6), none, some (vJ x8), none, some (vI a10), some (vI a11), some (vJ s0), none, some (vJ x5), none, none, none, none] [] S F G Q
    refine go_aload_n (show decode cX10_finds 96 = .ok (.aload_n 0, 1) by decide +kernel) (by rfl) ?_
    refine go_lload (show decode cX10_finds 97 = .ok (.lload 14, 2) by decide +kernel) (by rfl) ?_
    obtain ⟨q9, h⟩ := h
    refine go_l2i (show decode cX10_finds 99 = .ok (.l2i, 1) by decide +kernel) q9 ?_
    refine go_aload_n (show decode cX10_finds 100 = .ok (.aload_n 0, 1) by decide +kernel) (by rfl) ?_
    refine go_iconst (show decode cX10_finds 101 = .ok (.iconst 1, 1) by decide +kernel) (by decide) ?_
    refine go_iload (show decode cX10_finds 102 = .ok (.iload 10, 2) by decide +kernel) (by rfl) ?_
    obtain ⟨q10, h⟩ := h
    obtain ⟨q15, h⟩ := h
    refine go_callV (d2 := d - 1) (M2 := MX10_edgeAt) (n := 2) (ci := 10) (av := [vI 1, vI a10]) (st := [vI x5, vR a0]) (show decode cX10_finds 104 = .ok (.invokevirtual 126, 3) by decide +kernel) ml_X10_126 mt_X10_edgeAt min_X10_edgeAt mse_X10_edgeAt (by decide) q15 rfl (Nat.le_of_ble_eq_true rfl) (by omega) (ok_mono h (fun w11 S12 F13 G14 h => ?_))
    obtain ⟨z16, e9, h⟩ := h
    subst e9
    show Go d MX10_finds 107 [some (vR a0), some (vI a1), some (vI a2), some (vI a3), some (vI a4), some (vI a5), some (vJ a6), none, some (vJ x8), none, some (vI a10), some (vI a11), some (vJ s0), none, some (vJ x5), none, none, none, none] [vI z16, vI x5, vR a0] S12 F13 G14 Q
    refine go_iload_n (show decode cX10_finds 107 = .ok (.iload_n 3, 1) by decide +kernel) (by rfl) ?_
    obtain ⟨ht, hf⟩ := h
    refine go_icmple (tgt := 121) (show decode cX10_finds 108 = .ok (.if_icmp .le 13, 3) by decide +kernel) (by decide) (fun hc => ?_) (fun hc => ?_)
    · have h := ht hc
      refine go_iload_n (show decode cX10_finds 121 = .ok (.iload_n 3, 1) by decide +kernel) (by rfl) ?_
      exact R_X10_finds_122 h
    · have h := hf hc
      refine go_aload_n (show decode cX10_finds 111 = .ok (.aload_n 0, 1) by decide +kernel) (by rfl) ?_
      refine go_iconst (show decode cX10_finds 112 = .ok (.iconst 1, 1) by decide +kernel) (by decide) ?_
      refine go_iload (show decode cX10_finds 113 = .ok (.iload 10, 2) by decide +kernel) (by rfl) ?_
      obtain ⟨q21, h⟩ := h
      refine go_callV (d2 := d - 1) (M2 := MX10_edgeAt) (n := 2) (ci := 10) (av := [vI 1, vI a10]) (st := [vI x5, vR a0]) (show decode cX10_finds 115 = .ok (.invokevirtual 126, 3) by decide +kernel) ml_X10_126 mt_X10_edgeAt min_X10_edgeAt mse_X10_edgeAt (by decide) q21 rfl (Nat.le_of_ble_eq_true rfl) (by omega) (ok_mono h (fun w17 S18 F19 G20 h => ?_))
      obtain ⟨z22, e9, h⟩ := h
      subst e9
      show Go d MX10_finds 118 [some (vR a0), some (vI a1), some (vI a2), some (vI a3), some (vI a4), some (vI a5), some (vJ a6), none, some (vJ x8), none, some (vI a10), some (vI a11), some (vJ s0), none, some (vJ x5), none, none, none, none] [vI z22, vI x5, vR a0] S18 F19 G20 Q
      refine go_goto (tgt := 122) (show decode cX10_finds 118 = .ok (.goto 4, 3) by decide +kernel) (by decide) ?_
      exact R_X10_finds_122 h
  · have h := hf hc
    refine go_lload (show decode cX10_finds 63 = .ok (.lload 8, 2) by decide +kernel) (by rfl) ?_
    refine go_lload (show decode cX10_finds 65 = .ok (.lload 12, 2) by decide +kernel) (by rfl) ?_
    refine go_iload (show decode cX10_finds 67 = .ok (.iload 11, 2) by decide +kernel) (by rfl) ?_
    refine go_i2l (show decode cX10_finds 69 = .ok (.i2l, 1) by decide +kernel) ?_
    refine go_lmul (show decode cX10_finds 70 = .ok (.lmul, 1) by decide +kernel) q1 ?_
    obtain ⟨q23, h⟩ := h
    refine go_lsub (show decode cX10_finds 71 = .ok (.lsub, 1) by decide +kernel) q23 ?_
    obtain ⟨x24, x24e⟩ : ∃ x24 : Int, x24 = a8 - (s0 * a11) := ⟨_, rfl⟩
    have h := h x24 x24e
    rw [← x24e]
    refine go_lstore (show decode cX10_finds 72 = .ok (.lstore 8, 2) by decide +kernel) (by decide) ?_
    show Go d MX10_finds 74 [some (vR a0), some (vI a1), some (vI a2), some (vI a3), some (vI a4), some (vI a5), some (vJ a6), none, some (vJ x24), none, some (vI a10), some (vI a11), some (vJ s0), none, none, none, none, none, none] [] S F G Q
    refine go_goto (tgt := 249) (show decode cX10_finds 74 = .ok (.goto 175, 3) by decide +kernel) (by decide) ?_
    obtain ⟨q25, h⟩ := h
    refine go_iinc (show decode cX10_finds 249 = .ok (.iinc 10 1, 3) by decide +kernel) (by rfl) q25 (by decide) ?_
    show Go d MX10_finds 252 [some (vR a0), some (vI a1), some (vI a2), some (vI a3), some (vI a4), some (vI a5), some (vJ a6), none, some (vJ x24), none, some (vI (a10 + 1)), some (vI a11), some (vJ s0), none, none, none, none, none, none] [] S F G Q
    refine go_goto (tgt := 7) (show decode cX10_finds 252 = .ok (.goto (-245), 3) by decide +kernel) (by decide) ?_
    refine go_clr 11 ?_
    refine go_clr 12 ?_
    exact h
def V_X10_finds_7 (d : Nat) (S : AS) (F : AF) (G : AG) (Q : AQ) (a0 : Nat) (a1 : Int) (a2 : Int) (a3 : Int) (a4 : Int) (a5 : Int) (a6 : Int) (a8 : Int) (a10 : Int) : Prop :=
  (sK S a0 = 10) ∧
  (sK S (sR S a0 5) = 20) ∧
  ((1 : Int) < (sN S (sR S a0 5) : Int)) ∧
  ((G (sR S a0 5) 1 ≤ a10) →
    Q (some (vI 0)) S F G) ∧
  ((¬ G (sR S a0 5) 1 ≤ a10) →
    (1 ≤ d) ∧
    Ok (d - 1) MX10_part [vR a0, vI 1, vI a10, vI a3, vI a5] S F G (fun w5 S6 F7 G8 =>
    ∃ z9 : Int, w5 = some (vI z9) ∧
    ((¬ z9 = 0) →
      (sK S6 a0 = 10) ∧
      Ok (d - 1) MX10_acrossSum [vR a0, vI a1, vI a10, vI a2, vI a4] S6 F7 G8 (fun w10 S11 F12 G13 =>
      ∃ z15 : Int, w10 = some (vJ z15) ∧
      V_X10_finds_49 d S11 F12 G13 Q a0 a1 a2 a3 a4 a5 a6 a8 a10 z9 z15)) ∧
    ((z9 = 0) →
      V_X10_finds_49 d S6 F7 G8 Q a0 a1 a2 a3 a4 a5 a6 a8 a10 z9 0)))
theorem R_X10_finds_7 {d : Nat} {S : AS} {F : AF} {G : AG} {Q : AQ} {a0 : Nat} {a1 : Int} {a2 : Int} {a3 : Int} {a4 : Int} {a5 : Int} {a6 : Int} {a8 : Int} {a10 : Int} (h : V_X10_finds_7 d S F G Q a0 a1 a2 a3 a4 a5 a6 a8 a10) : Go d MX10_finds 7 [some (vR a0), some (vI a1), some (vI a2), some (vI a3), some (vI a4), some (vI a5), some (vJ a6), none, some (vJ a8), none, some (vI a10), none, none, none, none, none, none, none, none] [] S F G Q := by
  unfold V_X10_finds_7 at h
  refine go_iload (show decode cX10_finds 7 = .ok (.iload 10, 2) by decide +kernel) (by rfl) ?_
  refine go_aload_n (show decode cX10_finds 9 = .ok (.aload_n 0, 1) by decide +kernel) (by rfl) ?_
  obtain ⟨q1, h⟩ := h
  refine go_getR (show decode cX10_finds 10 = .ok (.getfield 29, 3) by decide +kernel) fl_X10_29 rfl q1 ?_
  refine go_iconst (show decode cX10_finds 13 = .ok (.iconst 1, 1) by decide +kernel) (by decide) ?_
  obtain ⟨q2, h⟩ := h
  obtain ⟨q3, h⟩ := h
  refine go_iaload (show decode cX10_finds 14 = .ok (.iaload, 1) by decide +kernel) q2 (by decide) q3 ?_
  obtain ⟨ht, hf⟩ := h
  refine go_icmpge (tgt := 255) (show decode cX10_finds 15 = .ok (.if_icmp .ge 240, 3) by decide +kernel) (by decide) (fun hc => ?_) (fun hc => ?_)
  · have h := ht hc
    refine go_iconst (show decode cX10_finds 255 = .ok (.iconst 0, 1) by decide +kernel) (by decide) ?_
    exact go_zret (show decode cX10_finds 256 = .ok (.ireturn, 1) by decide +kernel) rfl (by decide) h
  · have h := hf hc
    refine go_aload_n (show decode cX10_finds 18 = .ok (.aload_n 0, 1) by decide +kernel) (by rfl) ?_
    refine go_iconst (show decode cX10_finds 19 = .ok (.iconst 1, 1) by decide +kernel) (by decide) ?_
    refine go_iload (show decode cX10_finds 20 = .ok (.iload 10, 2) by decide +kernel) (by rfl) ?_
    refine go_iload_n (show decode cX10_finds 22 = .ok (.iload_n 3, 1) by decide +kernel) (by rfl) ?_
    refine go_iload (show decode cX10_finds 23 = .ok (.iload 5, 2) by decide +kernel) (by rfl) ?_
    obtain ⟨q4, h⟩ := h
    refine go_callV (d2 := d - 1) (M2 := MX10_part) (n := 4) (ci := 10) (av := [vI 1, vI a10, vI a3, vI a5]) (st := []) (show decode cX10_finds 25 = .ok (.invokevirtual 159, 3) by decide +kernel) ml_X10_159 mt_X10_part min_X10_part mse_X10_part (by decide) q1 rfl (Nat.le_of_ble_eq_true rfl) (by omega) (ok_mono h (fun w5 S6 F7 G8 h => ?_))
    obtain ⟨z9, e9, h⟩ := h
    subst e9
    show Go d MX10_finds 28 [some (vR a0), some (vI a1), some (vI a2), some (vI a3), some (vI a4), some (vI a5), some (vJ a6), none, some (vJ a8), none, some (vI a10), none, none, none, none, none, none, none, none] [vI z9] S6 F7 G8 Q
    refine go_istore (show decode cX10_finds 28 = .ok (.istore 11, 2) by decide +kernel) (by decide) ?_
    show Go d MX10_finds 30 [some (vR a0), some (vI a1), some (vI a2), some (vI a3), some (vI a4), some (vI a5), some (vJ a6), none, some (vJ a8), none, some (vI a10), some (vI z9), none, none, none, none, none, none, none] [] S6 F7 G8 Q
    refine go_iload (show decode cX10_finds 30 = .ok (.iload 11, 2) by decide +kernel) (by rfl) ?_
    obtain ⟨ht, hf⟩ := h
    refine go_ifne (tgt := 39) (show decode cX10_finds 32 = .ok (.ifCond .ne 7, 3) by decide +kernel) (by decide) (fun hc => ?_) (fun hc => ?_)
    · have h := ht hc
      refine go_aload_n (show decode cX10_finds 39 = .ok (.aload_n 0, 1) by decide +kernel) (by rfl) ?_
      refine go_iload_n (show decode cX10_finds 40 = .ok (.iload_n 1, 1) by decide +kernel) (by rfl) ?_
      refine go_iload (show decode cX10_finds 41 = .ok (.iload 10, 2) by decide +kernel) (by rfl) ?_
      refine go_iload_n (show decode cX10_finds 43 = .ok (.iload_n 2, 1) by decide +kernel) (by rfl) ?_
      refine go_iload (show decode cX10_finds 44 = .ok (.iload 4, 2) by decide +kernel) (by rfl) ?_
      obtain ⟨q14, h⟩ := h
      refine go_callV (d2 := d - 1) (M2 := MX10_acrossSum) (n := 4) (ci := 10) (av := [vI a1, vI a10, vI a2, vI a4]) (st := []) (show decode cX10_finds 46 = .ok (.invokevirtual 217, 3) by decide +kernel) ml_X10_217 mt_X10_acrossSum min_X10_acrossSum mse_X10_acrossSum (by decide) q14 rfl (Nat.le_of_ble_eq_true rfl) (by omega) (ok_mono h (fun w10 S11 F12 G13 h => ?_))
      obtain ⟨z15, e9, h⟩ := h
      subst e9
      show Go d MX10_finds 49 [some (vR a0), some (vI a1), some (vI a2), some (vI a3), some (vI a4), some (vI a5), some (vJ a6), none, some (vJ a8), none, some (vI a10), some (vI z9), none, none, none, none, none, none, none] [vJ z15] S11 F12 G13 Q
      exact R_X10_finds_49 h
    · have h := hf hc
      refine go_lconst (n := 0) (show decode cX10_finds 35 = .ok (.lconst 0, 1) by decide +kernel) ?_
      show Go d MX10_finds 36 [some (vR a0), some (vI a1), some (vI a2), some (vI a3), some (vI a4), some (vI a5), some (vJ a6), none, some (vJ a8), none, some (vI a10), some (vI z9), none, none, none, none, none, none, none] [vJ 0] S6 F7 G8 Q
      refine go_goto (tgt := 49) (show decode cX10_finds 36 = .ok (.goto 13, 3) by decide +kernel) (by decide) ?_
      exact R_X10_finds_49 h
def V_X10_finds_0 (d : Nat) (S : AS) (F : AF) (G : AG) (Q : AQ) (a0 : Nat) (a1 : Int) (a2 : Int) (a3 : Int) (a4 : Int) (a5 : Int) (a6 : Int) : Prop :=
  Go d MX10_finds 7 [some (vR a0), some (vI a1), some (vI a2), some (vI a3), some (vI a4), some (vI a5), some (vJ a6), none, some (vJ a6), none, some (vI 0), none, none, none, none, none, none, none, none] [] S F G Q
theorem R_X10_finds_0 {d : Nat} {S : AS} {F : AF} {G : AG} {Q : AQ} {a0 : Nat} {a1 : Int} {a2 : Int} {a3 : Int} {a4 : Int} {a5 : Int} {a6 : Int} (h : V_X10_finds_0 d S F G Q a0 a1 a2 a3 a4 a5 a6) : Go d MX10_finds 0 [some (vR a0), some (vI a1), some (vI a2), some (vI a3), some (vI a4), some (vI a5), some (vJ a6), none, none, none, none, none, none, none, none, none, none, none, none] [] S F G Q := by
  unfold V_X10_finds_0 at h
  refine go_lload (show decode cX10_finds 0 = .ok (.lload 6, 2) by decide +kernel) (by rfl) ?_
  refine go_lstore (show decode cX10_finds 2 = .ok (.lstore 8, 2) by decide +kernel) (by decide) ?_
  show Go d MX10_finds 4 [some (vR a0), some (vI a1), some (vI a2), some (vI a3), some (vI a4), some (vI a5), some (vJ a6), none, some (vJ a6), none, none, none, none, none, none, none, none, none, none] [] S F G Q
  refine go_iconst (show decode cX10_finds 4 = .ok (.iconst 0, 1) by decide +kernel) (by decide) ?_
  refine go_istore (show decode cX10_finds 5 = .ok (.istore 10, 2) by decide +kernel) (by decide) ?_
  show Go d MX10_finds 7 [some (vR a0), some (vI a1), some (vI a2), some (vI a3), some (vI a4), some (vI a5), some (vJ a6), none, some (vJ a6), none, some (vI 0), none, none, none, none, none, none, none, none] [] S F G Q
  exact h
def V_X10_empties_68 (d : Nat) (S : AS) (F : AF) (G : AG) (Q : AQ) (a0 : Nat) (a1 : Int) (a2 : Int) (a3 : Int) (a4 : Int) (a5 : Int) (a6 : Int) (a7 : Int) : Prop :=
  (r32 (a7 + 1)) ∧
  Go d MX10_empties 17 [some (vR a0), some (vI a1), some (vI a2), some (vI a3), some (vI a4), some (vI a5), some (vI a6), some (vI (a7 + 1))] [] S F G Q
theorem R_X10_empties_68 {d : Nat} {S : AS} {F : AF} {G : AG} {Q : AQ} {a0 : Nat} {a1 : Int} {a2 : Int} {a3 : Int} {a4 : Int} {a5 : Int} {a6 : Int} {a7 : Int} (h : V_X10_empties_68 d S F G Q a0 a1 a2 a3 a4 a5 a6 a7) : Go d MX10_empties 68 [some (vR a0), some (vI a1), some (vI a2), some (vI a3), some (vI a4), some (vI a5), some (vI a6), some (vI a7)] [] S F G Q := by
  unfold V_X10_empties_68 at h
  obtain ⟨q1, h⟩ := h
  refine go_iinc (show decode cX10_empties 68 = .ok (.iinc 7 1, 3) by decide +kernel) (by rfl) q1 (by decide) ?_
  show Go d MX10_empties 71 [some (vR a0), some (vI a1), some (vI a2), some (vI a3), some (vI a4), some (vI a5), some (vI a6), some (vI (a7 + 1))] [] S F G Q
  refine go_goto (tgt := 17) (show decode cX10_empties 71 = .ok (.goto (-54), 3) by decide +kernel) (by decide) ?_
  exact h
def V_X10_empties_17 (d : Nat) (S : AS) (F : AF) (G : AG) (Q : AQ) (a0 : Nat) (a1 : Int) (a2 : Int) (a3 : Int) (a4 : Int) (a5 : Int) (a6 : Int) (a7 : Int) : Prop :=
  (sK S a0 = 10) ∧
  (sK S (sR S a0 5) = 20) ∧
  ((1 : Int) < (sN S (sR S a0 5) : Int)) ∧
  ((G (sR S a0 5) 1 ≤ a7) →
    (r32 (a6 + 1)) ∧
    Go d MX10_empties 3 [some (vR a0), some (vI a1), some (vI a2), some (vI a3), some (vI a4), some (vI a5), some (vI (a6 + 1)), none] [] S F G Q) ∧
  ((¬ G (sR S a0 5) 1 ≤ a7) →
    (1 ≤ d) ∧
    Ok (d - 1) MX10_part [vR a0, vI 0, vI a6, vI a2, vI a4] S F G (fun w6 S7 F8 G9 =>
    ∃ z10 : Int, w6 = some (vI z10) ∧
    ((z10 ≤ 0) →
      V_X10_empties_68 d S7 F8 G9 Q a0 a1 a2 a3 a4 a5 a6 a7) ∧
    ((¬ z10 ≤ 0) →
      (sK S7 a0 = 10) ∧
      Ok (d - 1) MX10_part [vR a0, vI 1, vI a7, vI a3, vI a5] S7 F8 G9 (fun w11 S12 F13 G14 =>
      ∃ z16 : Int, w11 = some (vI z16) ∧
      ((z16 ≤ 0) →
        V_X10_empties_68 d S12 F13 G14 Q a0 a1 a2 a3 a4 a5 a6 a7) ∧
      ((¬ z16 ≤ 0) →
        (sK S12 a0 = 10) ∧
        Ok (d - 1) MX10_slot [vI a1, vI a6, vI a7] S12 F13 G14 (fun w18 S19 F20 G21 =>
        ∃ z22 : Int, w18 = some (vI z22) ∧
        (sK S19 (sR S12 a0 7) = 21) ∧
        ((0 : Int) ≤ z22) ∧
        ((z22 : Int) < (sN S19 (sR S12 a0 7) : Int)) ∧
        ∀ G26 : AG, G26 = gu G21 (sR S12 a0 7) z22 0 →
        V_X10_empties_68 d S19 F20 G26 Q a0 a1 a2 a3 a4 a5 a6 a7))))))
theorem R_X10_empties_17 {d : Nat} {S : AS} {F : AF} {G : AG} {Q : AQ} {a0 : Nat} {a1 : Int} {a2 : Int} {a3 : Int} {a4 : Int} {a5 : Int} {a6 : Int} {a7 : Int} (h : V_X10_empties_17 d S F G Q a0 a1 a2 a3 a4 a5 a6 a7) : Go d MX10_empties 17 [some (vR a0), some (vI a1), some (vI a2), some (vI a3), some (vI a4), some (vI a5), some (vI a6), some (vI a7)] [] S F G Q := by
  unfold V_X10_empties_17 at h
  refine go_iload (show decode cX10_empties 17 = .ok (.iload 7, 2) by decide +kernel) (by rfl) ?_
  refine go_aload_n (show decode cX10_empties 19 = .ok (.aload_n 0, 1) by decide +kernel) (by rfl) ?_
  obtain ⟨q1, h⟩ := h
  refine go_getR (show decode cX10_empties 20 = .ok (.getfield 29, 3) by decide +kernel) fl_X10_29 rfl q1 ?_
  refine go_iconst (show decode cX10_empties 23 = .ok (.iconst 1, 1) by decide +kernel) (by decide) ?_
  obtain ⟨q2, h⟩ := h
  obtain ⟨q3, h⟩ := h
  refine go_iaload (show decode cX10_empties 24 = .ok (.iaload, 1) by decide +kernel) q2 (by decide) q3 ?_
  obtain ⟨ht, hf⟩ := h
  refine go_icmpge (tgt := 74) (show decode cX10_empties 25 = .ok (.if_icmp .ge 49, 3) by decide +kernel) (by decide) (fun hc => ?_) (fun hc => ?_)
  · have h := ht hc
    obtain ⟨q4, h⟩ := h
    refine go_iinc (show decode cX10_empties 74 = .ok (.iinc 6 1, 3) by decide +kernel) (by rfl) q4 (by decide) ?_
    show Go d MX10_empties 77 [some (vR a0), some (vI a1), some (vI a2), some (vI a3), some (vI a4), some (vI a5), some (vI (a6 + 1)), some (vI a7)] [] S F G Q
    refine go_goto (tgt := 3) (show decode cX10_empties 77 = .ok (.goto (-74), 3) by decide +kernel) (by decide) ?_
    refine go_clr 7 ?_
    exact h
  · have h := hf hc
    refine go_aload_n (show decode cX10_empties 28 = .ok (.aload_n 0, 1) by decide +kernel) (by rfl) ?_
    refine go_iconst (show decode cX10_empties 29 = .ok (.iconst 0, 1) by decide +kernel) (by decide) ?_
    refine go_iload (show decode cX10_empties 30 = .ok (.iload 6, 2) by decide +kernel) (by rfl) ?_
    refine go_iload_n (show decode cX10_empties 32 = .ok (.iload_n 2, 1) by decide +kernel) (by rfl) ?_
    refine go_iload (show decode cX10_empties 33 = .ok (.iload 4, 2) by decide +kernel) (by rfl) ?_
    obtain ⟨q5, h⟩ := h
    refine go_callV (d2 := d - 1) (M2 := MX10_part) (n := 4) (ci := 10) (av := [vI 0, vI a6, vI a2, vI a4]) (st := []) (show decode cX10_empties 35 = .ok (.invokevirtual 159, 3) by decide +kernel) ml_X10_159 mt_X10_part min_X10_part mse_X10_part (by decide) q1 rfl (Nat.le_of_ble_eq_true rfl) (by omega) (ok_mono h (fun w6 S7 F8 G9 h => ?_))
    obtain ⟨z10, e9, h⟩ := h
    subst e9
    show Go d MX10_empties 38 [some (vR a0), some (vI a1), some (vI a2), some (vI a3), some (vI a4), some (vI a5), some (vI a6), some (vI a7)] [vI z10] S7 F8 G9 Q
    obtain ⟨ht, hf⟩ := h
    refine go_ifle (tgt := 68) (show decode cX10_empties 38 = .ok (.ifCond .le 30, 3) by decide +kernel) (by decide) (fun hc => ?_) (fun hc => ?_)
    · have h := ht hc
      exact R_X10_empties_68 h
    · have h := hf hc
      refine go_aload_n (show decode cX10_empties 41 = .ok (.aload_n 0, 1) by decide +kernel) (by rfl) ?_
      refine go_iconst (show decode cX10_empties 42 = .ok (.iconst 1, 1) by decide +kernel) (by decide) ?_
      refine go_iload (show decode cX10_empties 43 = .ok (.iload 7, 2) by decide +kernel) (by rfl) ?_
      refine go_iload_n (show decode cX10_empties 45 = .ok (.iload_n 3, 1) by decide +kernel) (by rfl) ?_
      refine go_iload (show decode cX10_empties 46 = .ok (.iload 5, 2) by decide +kernel) (by rfl) ?_
      obtain ⟨q15, h⟩ := h
      refine go_callV (d2 := d - 1) (M2 := MX10_part) (n := 4) (ci := 10) (av := [vI 1, vI a7, vI a3, vI a5]) (st := []) (show decode cX10_empties 48 = .ok (.invokevirtual 159, 3) by decide +kernel) ml_X10_159 mt_X10_part min_X10_part mse_X10_part (by decide) q15 rfl (Nat.le_of_ble_eq_true rfl) (by omega) (ok_mono h (fun w11 S12 F13 G14 h => ?_))
      obtain ⟨z16, e9, h⟩ := h
      subst e9
      show Go d MX10_empties 51 [some (vR a0), some (vI a1), some (vI a2), some (vI a3), some (vI a4), some (vI a5), some (vI a6), some (vI a7)] [vI z16] S12 F13 G14 Q
      obtain ⟨ht, hf⟩ := h
      refine go_ifle (tgt := 68) (show decode cX10_empties 51 = .ok (.ifCond .le 17, 3) by decide +kernel) (by decide) (fun hc => ?_) (fun hc => ?_)
      · have h := ht hc
        exact R_X10_empties_68 h
      · have h := hf hc
        refine go_aload_n (show decode cX10_empties 54 = .ok (.aload_n 0, 1) by decide +kernel) (by rfl) ?_
        obtain ⟨q17, h⟩ := h
        refine go_getR (show decode cX10_empties 55 = .ok (.getfield 35, 3) by decide +kernel) fl_X10_35 rfl q17 ?_
        refine go_iload_n (show decode cX10_empties 58 = .ok (.iload_n 1, 1) by decide +kernel) (by rfl) ?_
        refine go_iload (show decode cX10_empties 59 = .ok (.iload 6, 2) by decide +kernel) (by rfl) ?_
        refine go_iload (show decode cX10_empties 61 = .ok (.iload 7, 2) by decide +kernel) (by rfl) ?_
        refine go_callS (d2 := d - 1) (M2 := MX10_slot) (n := 3) (av := [vI a1, vI a6, vI a7]) (st := [vR (sR S12 a0 7)]) (show decode cX10_empties 63 = .ok (.invokestatic 130, 3) by decide +kernel) ml_X10_130 mt_X10_slot mst_X10_slot rfl (Nat.le_of_ble_eq_true rfl) (by omega) (ok_mono h (fun w18 S19 F20 G21 h => ?_))
        obtain ⟨z22, e9, h⟩ := h
        subst e9
        show Go d MX10_empties 66 [some (vR a0), some (vI a1), some (vI a2), some (vI a3), some (vI a4), some (vI a5), some (vI a6), some (vI a7)] [vI z22, vR (sR S12 a0 7)] S19 F20 G21 Q
        refine go_lconst (n := 0) (show decode cX10_empties 66 = .ok (.lconst 0, 1) by decide +kernel) ?_
        show Go d MX10_empties 67 [some (vR a0), some (vI a1), some (vI a2), some (vI a3), some (vI a4), some (vI a5), some (vI a6), some (vI a7)] [vJ 0, vI z22, vR (sR S12 a0 7)] S19 F20 G21 Q
        obtain ⟨q23, h⟩ := h
        obtain ⟨q24, h⟩ := h
        obtain ⟨q25, h⟩ := h
        refine go_lastore (show decode cX10_empties 67 = .ok (.lastore, 1) by decide +kernel) q23 q24 q25  ?_
        obtain ⟨G26, G26e⟩ : ∃ G26 : AG, G26 = gu G21 (sR S12 a0 7) z22 0 := ⟨_, rfl⟩
        have h := h G26 G26e
        rw [← G26e]
        exact R_X10_empties_68 h
def V_X10_empties_3 (d : Nat) (S : AS) (F : AF) (G : AG) (Q : AQ) (a0 : Nat) (a1 : Int) (a2 : Int) (a3 : Int) (a4 : Int) (a5 : Int) (a6 : Int) : Prop :=
  (sK S a0 = 10) ∧
  (sK S (sR S a0 5) = 20) ∧
  ((0 : Int) < (sN S (sR S a0 5) : Int)) ∧
  ((G (sR S a0 5) 0 ≤ a6) →
    Q none S F G) ∧
  ((¬ G (sR S a0 5) 0 ≤ a6) →
    Go d MX10_empties 17 [some (vR a0), some (vI a1), some (vI a2), some (vI a3), some (vI a4), some (vI a5), some (vI a6), some (vI 0)] [] S F G Q)
theorem R_X10_empties_3 {d : Nat} {S : AS} {F : AF} {G : AG} {Q : AQ} {a0 : Nat} {a1 : Int} {a2 : Int} {a3 : Int} {a4 : Int} {a5 : Int} {a6 : Int} (h : V_X10_empties_3 d S F G Q a0 a1 a2 a3 a4 a5 a6) : Go d MX10_empties 3 [some (vR a0), some (vI a1), some (vI a2), some (vI a3), some (vI a4), some (vI a5), some (vI a6), none] [] S F G Q := by
  unfold V_X10_empties_3 at h
  refine go_iload (show decode cX10_empties 3 = .ok (.iload 6, 2) by decide +kernel) (by rfl) ?_
  refine go_aload_n (show decode cX10_empties 5 = .ok (.aload_n 0, 1) by decide +kernel) (by rfl) ?_
  obtain ⟨q1, h⟩ := h
  refine go_getR (show decode cX10_empties 6 = .ok (.getfield 29, 3) by decide +kernel) fl_X10_29 rfl q1 ?_
  refine go_iconst (show decode cX10_empties 9 = .ok (.iconst 0, 1) by decide +kernel) (by decide) ?_
  obtain ⟨q2, h⟩ := h
  obtain ⟨q3, h⟩ := h
  refine go_iaload (show decode cX10_empties 10 = .ok (.iaload, 1) by decide +kernel) q2 (by decide) q3 ?_
  obtain ⟨ht, hf⟩ := h
  refine go_icmpge (tgt := 80) (show decode cX10_empties 11 = .ok (.if_icmp .ge 69, 3) by decide +kernel) (by decide) (fun hc => ?_) (fun hc => ?_)
  · have h := ht hc
    exact go_vret (show decode cX10_empties 80 = .ok (.return_, 1) by decide +kernel) rfl h
  · have h := hf hc
    refine go_iconst (show decode cX10_empties 14 = .ok (.iconst 0, 1) by decide +kernel) (by decide) ?_
    refine go_istore (show decode cX10_empties 15 = .ok (.istore 7, 2) by decide +kernel) (by decide) ?_
    show Go d MX10_empties 17 [some (vR a0), some (vI a1), some (vI a2), some (vI a3), some (vI a4), some (vI a5), some (vI a6), some (vI 0)] [] S F G Q
    exact h
def V_X10_empties_0 (d : Nat) (S : AS) (F : AF) (G : AG) (Q : AQ) (a0 : Nat) (a1 : Int) (a2 : Int) (a3 : Int) (a4 : Int) (a5 : Int) : Prop :=
  Go d MX10_empties 3 [some (vR a0), some (vI a1), some (vI a2), some (vI a3), some (vI a4), some (vI a5), some (vI 0), none] [] S F G Q
theorem R_X10_empties_0 {d : Nat} {S : AS} {F : AF} {G : AG} {Q : AQ} {a0 : Nat} {a1 : Int} {a2 : Int} {a3 : Int} {a4 : Int} {a5 : Int} (h : V_X10_empties_0 d S F G Q a0 a1 a2 a3 a4 a5) : Go d MX10_empties 0 [some (vR a0), some (vI a1), some (vI a2), some (vI a3), some (vI a4), some (vI a5), none, none] [] S F G Q := by
  unfold V_X10_empties_0 at h
  refine go_iconst (show decode cX10_empties 0 = .ok (.iconst 0, 1) by decide +kernel) (by decide) ?_
  refine go_istore (show decode cX10_empties 1 = .ok (.istore 6, 2) by decide +kernel) (by decide) ?_
  show Go d MX10_empties 3 [some (vR a0), some (vI a1), some (vI a2), some (vI a3), some (vI a4), some (vI a5), some (vI 0), none] [] S F G Q
  exact h
def V_X10_blockAt_2 (d : Nat) (S : AS) (F : AF) (G : AG) (Q : AQ) (a0 : Nat) (a1 : Int) (a2 : Int) (a3 : Int) : Prop :=
  (r32 (a3 + 1)) ∧
  (1 ≤ d) ∧
  (sK S a0 = 10) ∧
  Ok (d - 1) MX10_edgeAt [vR a0, vI a1, vI (a3 + 1)] S F G (fun w3 S4 F5 G6 =>
  ∃ z8 : Int, w3 = some (vI z8) ∧
  ((a2 < z8) →
    Q (some (vI a3)) S4 F5 G6) ∧
  ((¬ a2 < z8) →
    (r32 (a3 + 1)) ∧
    Go d MX10_blockAt 2 [some (vR a0), some (vI a1), some (vI a2), some (vI (a3 + 1))] [] S4 F5 G6 Q))
theorem R_X10_blockAt_2 {d : Nat} {S : AS} {F : AF} {G : AG} {Q : AQ} {a0 : Nat} {a1 : Int} {a2 : Int} {a3 : Int} (h : V_X10_blockAt_2 d S F G Q a0 a1 a2 a3) : Go d MX10_blockAt 2 [some (vR a0), some (vI a1), some (vI a2), some (vI a3)] [] S F G Q := by
  unfold V_X10_blockAt_2 at h
  refine go_aload_n (show decode cX10_blockAt 2 = .ok (.aload_n 0, 1) by decide +kernel) (by rfl) ?_
  refine go_iload_n (show decode cX10_blockAt 3 = .ok (.iload_n 1, 1) by decide +kernel) (by rfl) ?_
  refine go_iload_n (show decode cX10_blockAt 4 = .ok (.iload_n 3, 1) by decide +kernel) (by rfl) ?_
  refine go_iconst (show decode cX10_blockAt 5 = .ok (.iconst 1, 1) by decide +kernel) (by decide) ?_
  obtain ⟨q1, h⟩ := h
  refine go_iadd (show decode cX10_blockAt 6 = .ok (.iadd, 1) by decide +kernel) q1 ?_
  obtain ⟨q2, h⟩ := h
  obtain ⟨q7, h⟩ := h
  refine go_callV (d2 := d - 1) (M2 := MX10_edgeAt) (n := 2) (ci := 10) (av := [vI a1, vI (a3 + 1)]) (st := []) (show decode cX10_blockAt 7 = .ok (.invokevirtual 126, 3) by decide +kernel) ml_X10_126 mt_X10_edgeAt min_X10_edgeAt mse_X10_edgeAt (by decide) q7 rfl (Nat.le_of_ble_eq_true rfl) (by omega) (ok_mono h (fun w3 S4 F5 G6 h => ?_))
  obtain ⟨z8, e9, h⟩ := h
  subst e9
  show Go d MX10_blockAt 10 [some (vR a0), some (vI a1), some (vI a2), some (vI a3)] [vI z8] S4 F5 G6 Q
  refine go_iload_n (show decode cX10_blockAt 10 = .ok (.iload_n 2, 1) by decide +kernel) (by rfl) ?_
  obtain ⟨ht, hf⟩ := h
  refine go_icmpgt (tgt := 20) (show decode cX10_blockAt 11 = .ok (.if_icmp .gt 9, 3) by decide +kernel) (by decide) (fun hc => ?_) (fun hc => ?_)
  · have h := ht hc
    refine go_iload_n (show decode cX10_blockAt 20 = .ok (.iload_n 3, 1) by decide +kernel) (by rfl) ?_
    exact go_iret (show decode cX10_blockAt 21 = .ok (.ireturn, 1) by decide +kernel) rfl h
  · have h := hf hc
    obtain ⟨q9, h⟩ := h
    refine go_iinc (show decode cX10_blockAt 14 = .ok (.iinc 3 1, 3) by decide +kernel) (by rfl) q9 (by decide) ?_
    show Go d MX10_blockAt 17 [some (vR a0), some (vI a1), some (vI a2), some (vI (a3 + 1))] [] S4 F5 G6 Q
    refine go_goto (tgt := 2) (show decode cX10_blockAt 17 = .ok (.goto (-15), 3) by decide +kernel) (by decide) ?_
    exact h
def V_X10_blockAt_0 (d : Nat) (S : AS) (F : AF) (G : AG) (Q : AQ) (a0 : Nat) (a1 : Int) (a2 : Int) : Prop :=
  Go d MX10_blockAt 2 [some (vR a0), some (vI a1), some (vI a2), some (vI 0)] [] S F G Q
theorem R_X10_blockAt_0 {d : Nat} {S : AS} {F : AF} {G : AG} {Q : AQ} {a0 : Nat} {a1 : Int} {a2 : Int} (h : V_X10_blockAt_0 d S F G Q a0 a1 a2) : Go d MX10_blockAt 0 [some (vR a0), some (vI a1), some (vI a2), none] [] S F G Q := by
  unfold V_X10_blockAt_0 at h
  refine go_iconst (show decode cX10_blockAt 0 = .ok (.iconst 0, 1) by decide +kernel) (by decide) ?_
  refine go_istore_n (show decode cX10_blockAt 1 = .ok (.istore_n 3, 1) by decide +kernel) (by decide) ?_
  show Go d MX10_blockAt 2 [some (vR a0), some (vI a1), some (vI a2), some (vI 0)] [] S F G Q
  exact h
def V_X10_number_0 (d : Nat) (S : AS) (F : AF) (G : AG) (Q : AQ) (a0 : Nat) (a1 : Int) (a2 : Int) : Prop :=
  (sK S a0 = 10) ∧
  (r64 ((F a0 1) * a2)) ∧
  (r64 (((F a0 1) * a2) + a1)) ∧
  Q (some (vJ (((F a0 1) * a2) + a1))) S F G
theorem R_X10_number_0 {d : Nat} {S : AS} {F : AF} {G : AG} {Q : AQ} {a0 : Nat} {a1 : Int} {a2 : Int} (h : V_X10_number_0 d S F G Q a0 a1 a2) : Go d MX10_number 0 [some (vR a0), some (vI a1), some (vI a2)] [] S F G Q := by
  unfold V_X10_number_0 at h
  refine go_aload_n (show decode cX10_number 0 = .ok (.aload_n 0, 1) by decide +kernel) (by rfl) ?_
  obtain ⟨q1, h⟩ := h
  refine go_getI (show decode cX10_number 1 = .ok (.getfield 13, 3) by decide +kernel) fl_X10_13 (Or.inl rfl) q1 ?_
  refine go_i2l (show decode cX10_number 4 = .ok (.i2l, 1) by decide +kernel) ?_
  refine go_iload_n (show decode cX10_number 5 = .ok (.iload_n 2, 1) by decide +kernel) (by rfl) ?_
  refine go_i2l (show decode cX10_number 6 = .ok (.i2l, 1) by decide +kernel) ?_
  obtain ⟨q2, h⟩ := h
  refine go_lmul (show decode cX10_number 7 = .ok (.lmul, 1) by decide +kernel) q2 ?_
  refine go_iload_n (show decode cX10_number 8 = .ok (.iload_n 1, 1) by decide +kernel) (by rfl) ?_
  refine go_i2l (show decode cX10_number 9 = .ok (.i2l, 1) by decide +kernel) ?_
  obtain ⟨q3, h⟩ := h
  refine go_ladd (show decode cX10_number 10 = .ok (.ladd, 1) by decide +kernel) q3 ?_
  exact go_lret (show decode cX10_number 11 = .ok (.lreturn, 1) by decide +kernel) rfl h
def V_X10_move_715 (d : Nat) (S : AS) (F : AF) (G : AG) (Q : AQ) (a0 : Nat) (a1 : Int) (a2 : Int) (a3 : Int) (a4 : Int) (a5 : Int) (a6 : Int) (a7 : Int) (a8 : Int) (a10 : Int) (a11 : Int) (a12 : Int) (a13 : Int) : Prop :=
  (r32 (a11 + 1)) ∧
  Go d MX10_move 589 [some (vR a0), some (vI a1), some (vI a2), some (vI a3), some (vI a4), some (vI a5), some (vI a6), some (vI a7), some (vJ a8), none, some (vI a10), some (vI (a11 + 1)), none, none] [] S F G Q
theorem R_X10_move_715 {d : Nat} {S : AS} {F : AF} {G : AG} {Q : AQ} {a0 : Nat} {a1 : Int} {a2 : Int} {a3 : Int} {a4 : Int} {a5 : Int} {a6 : Int} {a7 : Int} {a8 : Int} {a10 : Int} {a11 : Int} {a12 : Int} {a13 : Int} (h : V_X10_move_715 d S F G Q a0 a1 a2 a3 a4 a5 a6 a7 a8 a10 a11 a12 a13) : Go d MX10_move 715 [some (vR a0), some (vI a1), some (vI a2), some (vI a3), some (vI a4), some (vI a5), some (vI a6), some (vI a7), some (vJ a8), none, some (vI a10), some (vI a11), some (vI a12), some (vI a13)] [] S F G Q := by
  unfold V_X10_move_715 at h
  obtain ⟨q1, h⟩ := h
  refine go_iinc (show decode cX10_move 715 = .ok (.iinc 11 1, 3) by decide +kernel) (by rfl) q1 (by decide) ?_
  show Go d MX10_move 718 [some (vR a0), some (vI a1), some (vI a2), some (vI a3), some (vI a4), some (vI a5), some (vI a6), some (vI a7), some (vJ a8), none, some (vI a10), some (vI (a11 + 1)), some (vI a12), some (vI a13)] [] S F G Q
  refine go_goto (tgt := 589) (show decode cX10_move 718 = .ok (.goto (-129), 3) by decide +kernel) (by decide) ?_
  refine go_clr 12 ?_
  refine go_clr 13 ?_
  exact h
def V_X10_move_648 (d : Nat) (S : AS) (F : AF) (G : AG) (Q : AQ) (a0 : Nat) (a1 : Int) (a2 : Int) (a3 : Int) (a4 : Int) (a5 : Int) (a6 : Int) (a7 : Int) (a8 : Int) (a10 : Int) (a11 : Int) (a12 : Int) (a13 : Int) : Prop :=
  (r32 (a12 - a6)) ∧
  (r32 (a13 - a7)) ∧
  (1 ≤ d) ∧
  Ok (d - 1) MX10_isInside [vI (a12 - a6), vI (a13 - a7), vI a2, vI a3, vI a4, vI a5] S F G (fun w4 S5 F6 G7 =>
  ∃ z8 : Int, w4 = some (vI z8) ∧
  ((z8 = 0) →
    V_X10_move_715 d S5 F6 G7 Q a0 a1 a2 a3 a4 a5 a6 a7 a8 a10 a11 a12 a13) ∧
  ((¬ z8 = 0) →
    (sK S5 a0 = 10) ∧
    Ok (d - 1) MX10_slot [vI a1, vI a10, vI a11] S5 F6 G7 (fun w10 S11 F12 G13 =>
    ∃ z14 : Int, w10 = some (vI z14) ∧
    (sK S11 (sR S5 a0 7) = 21) ∧
    ((0 : Int) ≤ z14) ∧
    ((z14 : Int) < (sN S11 (sR S5 a0 7) : Int)) ∧
    (sK S11 a0 = 10) ∧
    (r32 (a13 - a7)) ∧
    Ok (d - 1) MX10_blockAt [vR a0, vI 1, vI (a13 - a7)] S11 F12 G13 (fun w20 S21 F22 G23 =>
    ∃ z24 : Int, w20 = some (vI z24) ∧
    (r32 (48 * z24)) ∧
    (r32 (a12 - a6)) ∧
    (sK S21 a0 = 10) ∧
    Ok (d - 1) MX10_blockAt [vR a0, vI 0, vI (a12 - a6)] S21 F22 G23 (fun w27 S28 F29 G30 =>
    ∃ z32 : Int, w27 = some (vI z32) ∧
    (r32 ((48 * z24) + z32)) ∧
    (sK S28 (sR S11 a0 30) = 21) ∧
    ((0 : Int) ≤ (48 * z24) + z32) ∧
    (((48 * z24) + z32 : Int) < (sN S28 (sR S11 a0 30) : Int)) ∧
    (r64 ((G13 (sR S5 a0 7) z14) + (G30 (sR S11 a0 30) ((48 * z24) + z32)))) ∧
    (sK S28 (sR S5 a0 7) = 21) ∧
    ((0 : Int) ≤ z14) ∧
    ((z14 : Int) < (sN S28 (sR S5 a0 7) : Int)) ∧
    ∀ G41 : AG, G41 = gu G30 (sR S5 a0 7) z14 ((G13 (sR S5 a0 7) z14) + (G30 (sR S11 a0 30) ((48 * z24) + z32))) →
    V_X10_move_715 d S28 F29 G41 Q a0 a1 a2 a3 a4 a5 a6 a7 a8 a10 a11 a12 a13)))))
theorem R_X10_move_648 {d : Nat} {S : AS} {F : AF} {G : AG} {Q : AQ} {a0 : Nat} {a1 : Int} {a2 : Int} {a3 : Int} {a4 : Int} {a5 : Int} {a6 : Int} {a7 : Int} {a8 : Int} {a10 : Int} {a11 : Int} {a12 : Int} {a13 : Int} (h : V_X10_move_648 d S F G Q a0 a1 a2 a3 a4 a5 a6 a7 a8 a10 a11 a12 a13) : Go d MX10_move 648 [some (vR a0), some (vI a1), some (vI a2), some (vI a3), some (vI a4), some (vI a5), some (vI a6), some (vI a7), some (vJ a8), none, some (vI a10), some (vI a11), some (vI a12), some (vI a13)] [] S F G Q := by
  unfold V_X10_move_648 at h
  refine go_iload (show decode cX10_move 648 = .ok (.iload 12, 2) by decide +kernel) (by rfl) ?_
  refine go_iload (show decode cX10_move 650 = .ok (.iload 6, 2) by decide +kernel) (by rfl) ?_
  obtain ⟨q1, h⟩ := h
  refine go_isub (show decode cX10_move 652 = .ok (.isub, 1) by decide +kernel) q1 ?_
  refine go_iload (show decode cX10_move 653 = .ok (.iload 13, 2) by decide +kernel) (by rfl) ?_
  refine go_iload (show decode cX10_move 655 = .ok (.iload 7, 2) by decide +kernel) (by rfl) ?_
  obtain ⟨q2, h⟩ := h
  refine go_isub (show decode cX10_move 657 = .ok (.isub, 1) by decide +kernel) q2 ?_
  refine go_iload_n (show decode cX10_move 658 = .ok (.iload_n 2, 1) by decide +kernel) (by rfl) ?_
  refine go_iload_n (show decode cX10_move 659 = .ok (.iload_n 3, 1) by decide +kernel) (by rfl) ?_
  refine go_iload (show decode cX10_move 660 = .ok (.iload 4, 2) by decide +kernel) (by rfl) ?_
  refine go_iload (show decode cX10_move 662 = .ok (.iload 5, 2) by decide +kernel) (by rfl) ?_
  obtain ⟨q3, h⟩ := h
  refine go_callS (d2 := d - 1) (M2 := MX10_isInside) (n := 6) (av := [vI (a12 - a6), vI (a13 - a7), vI a2, vI a3, vI a4, vI a5]) (st := []) (show decode cX10_move 664 = .ok (.invokestatic 289, 3) by decide +kernel) ml_X10_289 mt_X10_isInside mst_X10_isInside rfl (Nat.le_of_ble_eq_true rfl) (by omega) (ok_mono h (fun w4 S5 F6 G7 h => ?_))
  obtain ⟨z8, e9, h⟩ := h
  subst e9
  show Go d MX10_move 667 [some (vR a0), some (vI a1), some (vI a2), some (vI a3), some (vI a4), some (vI a5), some (vI a6), some (vI a7), some (vJ a8), none, some (vI a10), some (vI a11), some (vI a12), some (vI a13)] [vI z8] S5 F6 G7 Q
  obtain ⟨ht, hf⟩ := h
  refine go_ifeq (tgt := 715) (show decode cX10_move 667 = .ok (.ifCond .eq 48, 3) by decide +kernel) (by decide) (fun hc => ?_) (fun hc => ?_)
  · have h := ht hc
    exact R_X10_move_715 h
  · have h := hf hc
    refine go_aload_n (show decode cX10_move 670 = .ok (.aload_n 0, 1) by decide +kernel) (by rfl) ?_
    obtain ⟨q9, h⟩ := h
    refine go_getR (show decode cX10_move 671 = .ok (.getfield 35, 3) by decide +kernel) fl_X10_35 rfl q9 ?_
    refine go_iload_n (show decode cX10_move 674 = .ok (.iload_n 1, 1) by decide +kernel) (by rfl) ?_
    refine go_iload (show decode cX10_move 675 = .ok (.iload 10, 2) by decide +kernel) (by rfl) ?_
    refine go_iload (show decode cX10_move 677 = .ok (.iload 11, 2) by decide +kernel) (by rfl) ?_
    refine go_callS (d2 := d - 1) (M2 := MX10_slot) (n := 3) (av := [vI a1, vI a10, vI a11]) (st := [vR (sR S5 a0 7)]) (show decode cX10_move 679 = .ok (.invokestatic 130, 3) by decide +kernel) ml_X10_130 mt_X10_slot mst_X10_slot rfl (Nat.le_of_ble_eq_true rfl) (by omega) (ok_mono h (fun w10 S11 F12 G13 h => ?_))
    obtain ⟨z14, e9, h⟩ := h
    subst e9
    show Go d MX10_move 682 [some (vR a0), some (vI a1), some (vI a2), some (vI a3), some (vI a4), some (vI a5), some (vI a6), some (vI a7), some (vJ a8), none, some (vI a10), some (vI a11), some (vI a12), some (vI a13)] [vI z14, vR (sR S5 a0 7)] S11 F12 G13 Q
    refine go_dup2 (show decode cX10_move 682 = .ok (.dup2, 1) by decide +kernel) ?_
    obtain ⟨q15, h⟩ := h
    obtain ⟨q16, h⟩ := h
    obtain ⟨q17, h⟩ := h
    refine go_laload (show decode cX10_move 683 = .ok (.laload, 1) by decide +kernel) q15 q16 q17 ?_
    refine go_aload_n (show decode cX10_move 684 = .ok (.aload_n 0, 1) by decide +kernel) (by rfl) ?_
    obtain ⟨q18, h⟩ := h
    refine go_getR (show decode cX10_move 685 = .ok (.getfield 77, 3) by decide +kernel) fl_X10_77 rfl q18 ?_
    refine go_bipush (show decode cX10_move 688 = .ok (.bipush 48, 2) by decide +kernel) (by decide) ?_
    refine go_aload_n (show decode cX10_move 690 = .ok (.aload_n 0, 1) by decide +kernel) (by rfl) ?_
    refine go_iconst (show decode cX10_move 691 = .ok (.iconst 1, 1) by decide +kernel) (by decide) ?_
    refine go_iload (show decode cX10_move 692 = .ok (.iload 13, 2) by decide +kernel) (by rfl) ?_
    refine go_iload (show decode cX10_move 694 = .ok (.iload 7, 2) by decide +kernel) (by rfl) ?_
    obtain ⟨q19, h⟩ := h
    refine go_isub (show decode cX10_move 696 = .ok (.isub, 1) by decide +kernel) q19 ?_
    refine go_callV (d2 := d - 1) (M2 := MX10_blockAt) (n := 2) (ci := 10) (av := [vI 1, vI (a13 - a7)]) (st := [vI 48, vR (sR S11 a0 30), vJ (G13 (sR S5 a0 7) z14), vI z14, vR (sR S5 a0 7)]) (show decode cX10_move 697 = .ok (.invokevirtual 265, 3) by decide +kernel) ml_X10_265 mt_X10_blockAt min_X10_blockAt mse_X10_blockAt (by decide) q18 rfl (Nat.le_of_ble_eq_true rfl) (by omega) (ok_mono h (fun w20 S21 F22 G23 h => ?_))
    obtain ⟨z24, e9, h⟩ := h
    subst e9
    show Go d MX10_move 700 [some (vR a0), some (vI a1), some (vI a2), some (vI a3), some (vI a4), some (vI a5), some (vI a6), some (vI a7), some (vJ a8), none, some (vI a10), some (vI a11), some (vI a12), some (vI a13)] [vI z24, vI 48, vR (sR S11 a0 30), vJ (G13 (sR S5 a0 7) z14), vI z14, vR (sR S5 a0 7)] S21 F22 G23 Q
    obtain ⟨q25, h⟩ := h
    refine go_imul (show decode cX10_move 700 = .ok (.imul, 1) by decide +kernel) q25 ?_
    refine go_aload_n (show decode cX10_move 701 = .ok (.aload_n 0, 1) by decide +kernel) (by rfl) ?_
    refine go_iconst (show decode cX10_move 702 = .ok (.iconst 0, 1) by decide +kernel) (by decide) ?_
    refine go_iload (show decode cX10_move 703 = .ok (.iload 12, 2) by decide +kernel) (by rfl) ?_
    refine go_iload (show decode cX10_move 705 = .ok (.iload 6, 2) by decide +kernel) (by rfl) ?_
    obtain ⟨q26, h⟩ := h
    refine go_isub (show decode cX10_move 707 = .ok (.isub, 1) by decide +kernel) q26 ?_
    obtain ⟨q31, h⟩ := h
    refine go_callV (d2 := d - 1) (M2 := MX10_blockAt) (n := 2) (ci := 10) (av := [vI 0, vI (a12 - a6)]) (st := [vI (48 * z24), vR (sR S11 a0 30), vJ (G13 (sR S5 a0 7) z14), vI z14, vR (sR S5 a0 7)]) (show decode cX10_move 708 = .ok (.invokevirtual 265, 3) by decide +kernel) ml_X10_265 mt_X10_blockAt min_X10_blockAt mse_X10_blockAt (by decide) q31 rfl (Nat.le_of_ble_eq_true rfl) (by omega) (ok_mono h (fun w27 S28 F29 G30 h => ?_))
    obtain ⟨z32, e9, h⟩ := h
    subst e9
    show Go d MX10_move 711 [some (vR a0), some (vI a1), some (vI a2), some (vI a3), some (vI a4), some (vI a5), some (vI a6), some (vI a7), some (vJ a8), none, some (vI a10), some (vI a11), some (vI a12), some (vI a13)] [vI z32, vI (48 * z24), vR (sR S11 a0 30), vJ (G13 (sR S5 a0 7) z14), vI z14, vR (sR S5 a0 7)] S28 F29 G30 Q
    obtain ⟨q33, h⟩ := h
    refine go_iadd (show decode cX10_move 711 = .ok (.iadd, 1) by decide +kernel) q33 ?_
    obtain ⟨q34, h⟩ := h
    obtain ⟨q35, h⟩ := h
    obtain ⟨q36, h⟩ := h
    refine go_laload (show decode cX10_move 712 = .ok (.laload, 1) by decide +kernel) q34 q35 q36 ?_
    obtain ⟨q37, h⟩ := h
    refine go_ladd (show decode cX10_move 713 = .ok (.ladd, 1) by decide +kernel) q37 ?_
    obtain ⟨q38, h⟩ := h
    obtain ⟨q39, h⟩ := h
    obtain ⟨q40, h⟩ := h
    refine go_lastore (show decode cX10_move 714 = .ok (.lastore, 1) by decide +kernel) q38 q39 q40  ?_
    obtain ⟨G41, G41e⟩ : ∃ G41 : AG, G41 = gu G30 (sR S5 a0 7) z14 ((G13 (sR S5 a0 7) z14) + (G30 (sR S11 a0 30) ((48 * z24) + z32))) := ⟨_, rfl⟩
    have h := h G41 G41e
    rw [← G41e]
    exact R_X10_move_715 h
def V_X10_move_589 (d : Nat) (S : AS) (F : AF) (G : AG) (Q : AQ) (a0 : Nat) (a1 : Int) (a2 : Int) (a3 : Int) (a4 : Int) (a5 : Int) (a6 : Int) (a7 : Int) (a8 : Int) (a10 : Int) (a11 : Int) : Prop :=
  (sK S a0 = 10) ∧
  (sK S (sR S a0 5) = 20) ∧
  ((1 : Int) < (sN S (sR S a0 5) : Int)) ∧
  ((G (sR S a0 5) 1 ≤ a11) →
    (r32 (a10 + 1)) ∧
    Go d MX10_move 575 [some (vR a0), some (vI a1), some (vI a2), some (vI a3), some (vI a4), some (vI a5), some (vI a6), some (vI a7), some (vJ a8), none, some (vI (a10 + 1)), none, none, none] [] S F G Q) ∧
  ((¬ G (sR S a0 5) 1 ≤ a11) →
    (1 ≤ d) ∧
    Ok (d - 1) MX10_edgeAt [vR a0, vI 0, vI a10] S F G (fun w6 S7 F8 G9 =>
    ∃ z10 : Int, w6 = some (vI z10) ∧
    (sK S7 a0 = 10) ∧
    Ok (d - 1) MX10_edgeAt [vR a0, vI 1, vI a11] S7 F8 G9 (fun w11 S12 F13 G14 =>
    ∃ z16 : Int, w11 = some (vI z16) ∧
    Ok (d - 1) MX10_isInside [vI z10, vI z16, vI a2, vI a3, vI a4, vI a5] S12 F13 G14 (fun w17 S18 F19 G20 =>
    ∃ z21 : Int, w17 = some (vI z21) ∧
    ((z21 = 0) →
      V_X10_move_648 d S18 F19 G20 Q a0 a1 a2 a3 a4 a5 a6 a7 a8 a10 a11 z10 z16) ∧
    ((¬ z21 = 0) →
      (sK S18 a0 = 10) ∧
      Ok (d - 1) MX10_slot [vI a1, vI a10, vI a11] S18 F19 G20 (fun w23 S24 F25 G26 =>
      ∃ z27 : Int, w23 = some (vI z27) ∧
      (sK S24 (sR S18 a0 7) = 21) ∧
      ((0 : Int) ≤ z27) ∧
      ((z27 : Int) < (sN S24 (sR S18 a0 7) : Int)) ∧
      ∀ G31 : AG, G31 = gu G26 (sR S18 a0 7) z27 0 →
      V_X10_move_648 d S24 F25 G31 Q a0 a1 a2 a3 a4 a5 a6 a7 a8 a10 a11 z10 z16))))))
theorem R_X10_move_589 {d : Nat} {S : AS} {F : AF} {G : AG} {Q : AQ} {a0 : Nat} {a1 : Int} {a2 : Int} {a3 : Int} {a4 : Int} {a5 : Int} {a6 : Int} {a7 : Int} {a8 : Int} {a10 : Int} {a11 : Int} (h : V_X10_move_589 d S F G Q a0 a1 a2 a3 a4 a5 a6 a7 a8 a10 a11) : Go d MX10_move 589 [some (vR a0), some (vI a1), some (vI a2), some (vI a3), some (vI a4), some (vI a5), some (vI a6), some (vI a7), some (vJ a8), none, some (vI a10), some (vI a11), none, none] [] S F G Q := by
  unfold V_X10_move_589 at h
  refine go_iload (show decode cX10_move 589 = .ok (.iload 11, 2) by decide +kernel) (by rfl) ?_
  refine go_aload_n (show decode cX10_move 591 = .ok (.aload_n 0, 1) by decide +kernel) (by rfl) ?_
  obtain ⟨q1, h⟩ := h
  refine go_getR (show decode cX10_move 592 = .ok (.getfield 29, 3) by decide +kernel) fl_X10_29 rfl q1 ?_
  refine go_iconst (show decode cX10_move 595 = .ok (.iconst 1, 1) by decide +kernel) (by decide) ?_
  obtain ⟨q2, h⟩ := h
  obtain ⟨q3, h⟩ := h
  refine go_iaload (show decode cX10_move 596 = .ok (.iaload, 1) by decide +kernel) q2 (by decide) q3 ?_
  obtain ⟨ht, hf⟩ := h
  refine go_icmpge (tgt := 721) (show decode cX10_move 597 = .ok (.if_icmp .ge 124, 3) by decide +kernel) (by decide) (fun hc => ?_) (fun hc => ?_)
  · have h := ht hc
    obtain ⟨q4, h⟩ := h
    refine go_iinc (show decode cX10_move 721 = .ok (.iinc 10 1, 3) by decide +kernel) (by rfl) q4 (by decide) ?_
    show Go d MX10_move 724 [some (vR a0), some (vI a1), some (vI a2), some (vI a3), some (vI a4), some (vI a5), some (vI a6), some (vI a7), some (vJ a8), none, some (vI (a10 + 1)), some (vI a11), none, none] [] S F G Q
    refine go_goto (tgt := 575) (show decode cX10_move 724 = .ok (.goto (-149), 3) by decide +kernel) (by decide) ?_
    refine go_clr 11 ?_
    exact h
  · have h := hf hc
    refine go_aload_n (show decode cX10_move 600 = .ok (.aload_n 0, 1) by decide +kernel) (by rfl) ?_
    refine go_iconst (show decode cX10_move 601 = .ok (.iconst 0, 1) by decide +kernel) (by decide) ?_
    refine go_iload (show decode cX10_move 602 = .ok (.iload 10, 2) by decide +kernel) (by rfl) ?_
    obtain ⟨q5, h⟩ := h
    refine go_callV (d2 := d - 1) (M2 := MX10_edgeAt) (n := 2) (ci := 10) (av := [vI 0, vI a10]) (st := []) (show decode cX10_move 604 = .ok (.invokevirtual 126, 3) by decide +kernel) ml_X10_126 mt_X10_edgeAt min_X10_edgeAt mse_X10_edgeAt (by decide) q1 rfl (Nat.le_of_ble_eq_true rfl) (by omega) (ok_mono h (fun w6 S7 F8 G9 h => ?_))
    obtain ⟨z10, e9, h⟩ := h
    subst e9
    show Go d MX10_move 607 [some (vR a0), some (vI a1), some (vI a2), some (vI a3), some (vI a4), some (vI a5), some (vI a6), some (vI a7), some (vJ a8), none, some (vI a10), some (vI a11), none, none] [vI z10] S7 F8 G9 Q
    refine go_istore (show decode cX10_move 607 = .ok (.istore 12, 2) by decide +kernel) (by decide) ?_
    show Go d MX10_move 609 [some (vR a0), some (vI a1), some (vI a2), some (vI a3), some (vI a4), some (vI a5), some (vI a6), some (vI a7), some (vJ a8), none, some (vI a10), some (vI a11), some (vI z10), none] [] S7 F8 G9 Q
    refine go_aload_n (show decode cX10_move 609 = .ok (.aload_n 0, 1) by decide +kernel) (by rfl) ?_
    refine go_iconst (show decode cX10_move 610 = .ok (.iconst 1, 1) by decide +kernel) (by decide) ?_
    refine go_iload (show decode cX10_move 611 = .ok (.iload 11, 2) by decide +kernel) (by rfl) ?_
    obtain ⟨q15, h⟩ := h
    refine go_callV (d2 := d - 1) (M2 := MX10_edgeAt) (n := 2) (ci := 10) (av := [vI 1, vI a11]) (st := []) (show decode cX10_move 613 = .ok (.invokevirtual 126, 3) by decide +kernel) ml_X10_126 mt_X10_edgeAt min_X10_edgeAt mse_X10_edgeAt (by decide) q15 rfl (Nat.le_of_ble_eq_true rfl) (by omega) (ok_mono h (fun w11 S12 F13 G14 h => ?_))
    obtain ⟨z16, e9, h⟩ := h
    subst e9
    show Go d MX10_move 616 [some (vR a0), some (vI a1), some (vI a2), some (vI a3), some (vI a4), some (vI a5), some (vI a6), some (vI a7), some (vJ a8), none, some (vI a10), some (vI a11), some (vI z10), none] [vI z16] S12 F13 G14 Q
    refine go_istore (show decode cX10_move 616 = .ok (.istore 13, 2) by decide +kernel) (by decide) ?_
    show Go d MX10_move 618 [some (vR a0), some (vI a1), some (vI a2), some (vI a3), some (vI a4), some (vI a5), some (vI a6), some (vI a7), some (vJ a8), none, some (vI a10), some (vI a11), some (vI z10), some (vI z16)] [] S12 F13 G14 Q
    refine go_iload (show decode cX10_move 618 = .ok (.iload 12, 2) by decide +kernel) (by rfl) ?_
    refine go_iload (show decode cX10_move 620 = .ok (.iload 13, 2) by decide +kernel) (by rfl) ?_
    refine go_iload_n (show decode cX10_move 622 = .ok (.iload_n 2, 1) by decide +kernel) (by rfl) ?_
    refine go_iload_n (show decode cX10_move 623 = .ok (.iload_n 3, 1) by decide +kernel) (by rfl) ?_
    refine go_iload (show decode cX10_move 624 = .ok (.iload 4, 2) by decide +kernel) (by rfl) ?_
    refine go_iload (show decode cX10_move 626 = .ok (.iload 5, 2) by decide +kernel) (by rfl) ?_
    refine go_callS (d2 := d - 1) (M2 := MX10_isInside) (n := 6) (av := [vI z10, vI z16, vI a2, vI a3, vI a4, vI a5]) (st := []) (show decode cX10_move 628 = .ok (.invokestatic 289, 3) by decide +kernel) ml_X10_289 mt_X10_isInside mst_X10_isInside rfl (Nat.le_of_ble_eq_true rfl) (by omega) (ok_mono h (fun w17 S18 F19 G20 h => ?_))
    obtain ⟨z21, e9, h⟩ := h
    subst e9
    show Go d MX10_move 631 [some (vR a0), some (vI a1), some (vI a2), some (vI a3), some (vI a4), some (vI a5), some (vI a6), some (vI a7), some (vJ a8), none, some (vI a10), some (vI a11), some (vI z10), some (vI z16)] [vI z21] S18 F19 G20 Q
    obtain ⟨ht, hf⟩ := h
    refine go_ifeq (tgt := 648) (show decode cX10_move 631 = .ok (.ifCond .eq 17, 3) by decide +kernel) (by decide) (fun hc => ?_) (fun hc => ?_)
    · have h := ht hc
      exact R_X10_move_648 h
    · have h := hf hc
      refine go_aload_n (show decode cX10_move 634 = .ok (.aload_n 0, 1) by decide +kernel) (by rfl) ?_
      obtain ⟨q22, h⟩ := h
      refine go_getR (show decode cX10_move 635 = .ok (.getfield 35, 3) by decide +kernel) fl_X10_35 rfl q22 ?_
      refine go_iload_n (show decode cX10_move 638 = .ok (.iload_n 1, 1) by decide +kernel) (by rfl) ?_
      refine go_iload (show decode cX10_move 639 = .ok (.iload 10, 2) by decide +kernel) (by rfl) ?_
      refine go_iload (show decode cX10_move 641 = .ok (.iload 11, 2) by decide +kernel) (by rfl) ?_
      refine go_callS (d2 := d - 1) (M2 := MX10_slot) (n := 3) (av := [vI a1, vI a10, vI a11]) (st := [vR (sR S18 a0 7)]) (show decode cX10_move 643 = .ok (.invokestatic 130, 3) by decide +kernel) ml_X10_130 mt_X10_slot mst_X10_slot rfl (Nat.le_of_ble_eq_true rfl) (by omega) (ok_mono h (fun w23 S24 F25 G26 h => ?_))
      obtain ⟨z27, e9, h⟩ := h
      subst e9
      show Go d MX10_move 646 [some (vR a0), some (vI a1), some (vI a2), some (vI a3), some (vI a4), some (vI a5), some (vI a6), some (vI a7), some (vJ a8), none, some (vI a10), some (vI a11), some (vI z10), some (vI z16)] [vI z27, vR (sR S18 a0 7)] S24 F25 G26 Q
      refine go_lconst (n := 0) (show decode cX10_move 646 = .ok (.lconst 0, 1) by decide +kernel) ?_
      show Go d MX10_move 647 [some (vR a0), some (vI a1), some (vI a2), some (vI a3), some (vI a4), some (vI a5), some (vI a6), some (vI a7), some (vJ a8), none, some (vI a10), some (vI a11), some (vI z10), some (vI z16)] [vJ 0, vI z27, vR (sR S18 a0 7)] S24 F25 G26 Q
      obtain ⟨q28, h⟩ := h
      obtain ⟨q29, h⟩ := h
      obtain ⟨q30, h⟩ := h
      refine go_lastore (show decode cX10_move 647 = .ok (.lastore, 1) by decide +kernel) q28 q29 q30  ?_
      obtain ⟨G31, G31e⟩ : ∃ G31 : AG, G31 = gu G26 (sR S18 a0 7) z27 0 := ⟨_, rfl⟩
      have h := h G31 G31e
      rw [← G31e]
      exact R_X10_move_648 h
def V_X10_move_575 (d : Nat) (S : AS) (F : AF) (G : AG) (Q : AQ) (a0 : Nat) (a1 : Int) (a2 : Int) (a3 : Int) (a4 : Int) (a5 : Int) (a6 : Int) (a7 : Int) (a8 : Int) (a10 : Int) : Prop :=
  (sK S a0 = 10) ∧
  (sK S (sR S a0 5) = 20) ∧
  ((0 : Int) < (sN S (sR S a0 5) : Int)) ∧
  ((G (sR S a0 5) 0 ≤ a10) →
    (r64 (100000 * a6)) ∧
    (r64 ((100000 * a6) + a7)) ∧
    (1 ≤ d) ∧
    Ok (d - 1) MX10_tells [vR a0, vI 2, vI a1, vI a2, vI a3, vI a4, vI a5, vJ ((100000 * a6) + a7)] S F G (fun w7 S8 F9 G10 =>
    w7 = none ∧
    Q (some (vJ a8)) S8 F9 G10)) ∧
  ((¬ G (sR S a0 5) 0 ≤ a10) →
    Go d MX10_move 589 [some (vR a0), some (vI a1), some (vI a2), some (vI a3), some (vI a4), some (vI a5), some (vI a6), some (vI a7), some (vJ a8), none, some (vI a10), some (vI 0), none, none] [] S F G Q)
theorem R_X10_move_575 {d : Nat} {S : AS} {F : AF} {G : AG} {Q : AQ} {a0 : Nat} {a1 : Int} {a2 : Int} {a3 : Int} {a4 : Int} {a5 : Int} {a6 : Int} {a7 : Int} {a8 : Int} {a10 : Int} (h : V_X10_move_575 d S F G Q a0 a1 a2 a3 a4 a5 a6 a7 a8 a10) : Go d MX10_move 575 [some (vR a0), some (vI a1), some (vI a2), some (vI a3), some (vI a4), some (vI a5), some (vI a6), some (vI a7), some (vJ a8), none, some (vI a10), none, none, none] [] S F G Q := by
  unfold V_X10_move_575 at h
  refine go_iload (show decode cX10_move 575 = .ok (.iload 10, 2) by decide +kernel) (by rfl) ?_
  refine go_aload_n (show decode cX10_move 577 = .ok (.aload_n 0, 1) by decide +kernel) (by rfl) ?_
  obtain ⟨q1, h⟩ := h
  refine go_getR (show decode cX10_move 578 = .ok (.getfield 29, 3) by decide +kernel) fl_X10_29 rfl q1 ?_
  refine go_iconst (show decode cX10_move 581 = .ok (.iconst 0, 1) by decide +kernel) (by decide) ?_
  obtain ⟨q2, h⟩ := h
  obtain ⟨q3, h⟩ := h
  refine go_iaload (show decode cX10_move 582 = .ok (.iaload, 1) by decide +kernel) q2 (by decide) q3 ?_
  obtain ⟨ht, hf⟩ := h
  refine go_icmpge (tgt := 727) (show decode cX10_move 583 = .ok (.if_icmp .ge 144, 3) by decide +kernel) (by decide) (fun hc => ?_) (fun hc => ?_)
  · have h := ht hc
    refine go_aload_n (show decode cX10_move 727 = .ok (.aload_n 0, 1) by decide +kernel) (by rfl) ?_
    refine go_iconst (show decode cX10_move 728 = .ok (.iconst 2, 1) by decide +kernel) (by decide) ?_
    refine go_iload_n (show decode cX10_move 729 = .ok (.iload_n 1, 1) by decide +kernel) (by rfl) ?_
    refine go_iload_n (show decode cX10_move 730 = .ok (.iload_n 2, 1) by decide +kernel) (by rfl) ?_
    refine go_iload_n (show decode cX10_move 731 = .ok (.iload_n 3, 1) by decide +kernel) (by rfl) ?_
    refine go_iload (show decode cX10_move 732 = .ok (.iload 4, 2) by decide +kernel) (by rfl) ?_
    refine go_iload (show decode cX10_move 734 = .ok (.iload 5, 2) by decide +kernel) (by rfl) ?_
    refine go_ldc2 (show decode cX10_move 736 = .ok (.ldc2_w 304, 3) by decide +kernel) lc_X10_304 (by decide) ?_
    refine go_iload (show decode cX10_move 739 = .ok (.iload 6, 2) by decide +kernel) (by rfl) ?_
    refine go_i2l (show decode cX10_move 741 = .ok (.i2l, 1) by decide +kernel) ?_
    obtain ⟨q4, h⟩ := h
    refine go_lmul (show decode cX10_move 742 = .ok (.lmul, 1) by decide +kernel) q4 ?_
    refine go_iload (show decode cX10_move 743 = .ok (.iload 7, 2) by decide +kernel) (by rfl) ?_
    refine go_i2l (show decode cX10_move 745 = .ok (.i2l, 1) by decide +kernel) ?_
    obtain ⟨q5, h⟩ := h
    refine go_ladd (show decode cX10_move 746 = .ok (.ladd, 1) by decide +kernel) q5 ?_
    obtain ⟨q6, h⟩ := h
    refine go_callV (d2 := d - 1) (M2 := MX10_tells) (n := 7) (ci := 10) (av := [vI 2, vI a1, vI a2, vI a3, vI a4, vI a5, vJ ((100000 * a6) + a7)]) (st := []) (show decode cX10_move 747 = .ok (.invokevirtual 213, 3) by decide +kernel) ml_X10_213 mt_X10_tells min_X10_tells mse_X10_tells (by decide) q1 rfl (Nat.le_of_ble_eq_true rfl) (by omega) (ok_mono h (fun w7 S8 F9 G10 h => ?_))
    obtain ⟨e9, h⟩ := h
    subst e9
    show Go d MX10_move 750 [some (vR a0), some (vI a1), some (vI a2), some (vI a3), some (vI a4), some (vI a5), some (vI a6), some (vI a7), some (vJ a8), none, some (vI a10), none, none, none] [] S8 F9 G10 Q
    refine go_lload (show decode cX10_move 750 = .ok (.lload 8, 2) by decide +kernel) (by rfl) ?_
    exact go_lret (show decode cX10_move 752 = .ok (.lreturn, 1) by decide +kernel) rfl h
  · have h := hf hc
    refine go_iconst (show decode cX10_move 586 = .ok (.iconst 0, 1) by decide +kernel) (by decide) ?_
    refine go_istore (show decode cX10_move 587 = .ok (.istore 11, 2) by decide +kernel) (by decide) ?_
    show Go d MX10_move 589 [some (vR a0), some (vI a1), some (vI a2), some (vI a3), some (vI a4), some (vI a5), some (vI a6), some (vI a7), some (vJ a8), none, some (vI a10), some (vI 0), none, none] [] S F G Q
    exact h
def V_X10_move_527 (d : Nat) (S : AS) (F : AF) (G : AG) (Q : AQ) (a0 : Nat) (a1 : Int) (a2 : Int) (a3 : Int) (a4 : Int) (a5 : Int) (a6 : Int) (a7 : Int) (a8 : Int) (a10 : Int) (a11 : Int) : Prop :=
  (sK S a0 = 10) ∧
  (sK S (sR S a0 5) = 20) ∧
  ((1 : Int) < (sN S (sR S a0 5) : Int)) ∧
  ((G (sR S a0 5) 1 ≤ a11) →
    (r32 (a10 + 1)) ∧
    Go d MX10_move 513 [some (vR a0), some (vI a1), some (vI a2), some (vI a3), some (vI a4), some (vI a5), some (vI a6), some (vI a7), some (vJ a8), none, some (vI (a10 + 1)), none, none, none] [] S F G Q) ∧
  ((¬ G (sR S a0 5) 1 ≤ a11) →
    (r32 (48 * a11)) ∧
    (r32 ((48 * a11) + a10)) ∧
    (1 ≤ d) ∧
    Ok (d - 1) MX10_in [vR a0, vI a1, vI a10, vI a11] S F G (fun w8 S9 F10 G11 =>
    ∃ z12 : Int, w8 = some (vJ z12) ∧
    (sK S9 (sR S a0 30) = 21) ∧
    ((0 : Int) ≤ (48 * a11) + a10) ∧
    (((48 * a11) + a10 : Int) < (sN S9 (sR S a0 30) : Int)) ∧
    ∀ G16 : AG, G16 = gu G11 (sR S a0 30) ((48 * a11) + a10) z12 →
    (r32 (a11 + 1)) ∧
    Go d MX10_move 527 [some (vR a0), some (vI a1), some (vI a2), some (vI a3), some (vI a4), some (vI a5), some (vI a6), some (vI a7), some (vJ a8), none, some (vI a10), some (vI (a11 + 1)), none, none] [] S9 F10 G16 Q))
theorem R_X10_move_527 {d : Nat} {S : AS} {F : AF} {G : AG} {Q : AQ} {a0 : Nat} {a1 : Int} {a2 : Int} {a3 : Int} {a4 : Int} {a5 : Int} {a6 : Int} {a7 : Int} {a8 : Int} {a10 : Int} {a11 : Int} (h : V_X10_move_527 d S F G Q a0 a1 a2 a3 a4 a5 a6 a7 a8 a10 a11) : Go d MX10_move 527 [some (vR a0), some (vI a1), some (vI a2), some (vI a3), some (vI a4), some (vI a5), some (vI a6), some (vI a7), some (vJ a8), none, some (vI a10), some (vI a11), none, none] [] S F G Q := by
  unfold V_X10_move_527 at h
  refine go_iload (show decode cX10_move 527 = .ok (.iload 11, 2) by decide +kernel) (by rfl) ?_
  refine go_aload_n (show decode cX10_move 529 = .ok (.aload_n 0, 1) by decide +kernel) (by rfl) ?_
  obtain ⟨q1, h⟩ := h
  refine go_getR (show decode cX10_move 530 = .ok (.getfield 29, 3) by decide +kernel) fl_X10_29 rfl q1 ?_
  refine go_iconst (show decode cX10_move 533 = .ok (.iconst 1, 1) by decide +kernel) (by decide) ?_
  obtain ⟨q2, h⟩ := h
  obtain ⟨q3, h⟩ := h
  refine go_iaload (show decode cX10_move 534 = .ok (.iaload, 1) by decide +kernel) q2 (by decide) q3 ?_
  obtain ⟨ht, hf⟩ := h
  refine go_icmpge (tgt := 566) (show decode cX10_move 535 = .ok (.if_icmp .ge 31, 3) by decide +kernel) (by decide) (fun hc => ?_) (fun hc => ?_)
  · have h := ht hc
    obtain ⟨q4, h⟩ := h
    refine go_iinc (show decode cX10_move 566 = .ok (.iinc 10 1, 3) by decide +kernel) (by rfl) q4 (by decide) ?_
    show Go d MX10_move 569 [some (vR a0), some (vI a1), some (vI a2), some (vI a3), some (vI a4), some (vI a5), some (vI a6), some (vI a7), some (vJ a8), none, some (vI (a10 + 1)), some (vI a11), none, none] [] S F G Q
    refine go_goto (tgt := 513) (show decode cX10_move 569 = .ok (.goto (-56), 3) by decide +kernel) (by decide) ?_
    refine go_clr 11 ?_
    exact h
  · have h := hf hc
    refine go_aload_n (show decode cX10_move 538 = .ok (.aload_n 0, 1) by decide +kernel) (by rfl) ?_
    refine go_getR (show decode cX10_move 539 = .ok (.getfield 77, 3) by decide +kernel) fl_X10_77 rfl q1 ?_
    refine go_bipush (show decode cX10_move 542 = .ok (.bipush 48, 2) by decide +kernel) (by decide) ?_
    refine go_iload (show decode cX10_move 544 = .ok (.iload 11, 2) by decide +kernel) (by rfl) ?_
    obtain ⟨q5, h⟩ := h
    refine go_imul (show decode cX10_move 546 = .ok (.imul, 1) by decide +kernel) q5 ?_
    refine go_iload (show decode cX10_move 547 = .ok (.iload 10, 2) by decide +kernel) (by rfl) ?_
    obtain ⟨q6, h⟩ := h
    refine go_iadd (show decode cX10_move 549 = .ok (.iadd, 1) by decide +kernel) q6 ?_
    refine go_aload_n (show decode cX10_move 550 = .ok (.aload_n 0, 1) by decide +kernel) (by rfl) ?_
    refine go_iload_n (show decode cX10_move 551 = .ok (.iload_n 1, 1) by decide +kernel) (by rfl) ?_
    refine go_iload (show decode cX10_move 552 = .ok (.iload 10, 2) by decide +kernel) (by rfl) ?_
    refine go_iload (show decode cX10_move 554 = .ok (.iload 11, 2) by decide +kernel) (by rfl) ?_
    obtain ⟨q7, h⟩ := h
    refine go_callV (d2 := d - 1) (M2 := MX10_in) (n := 3) (ci := 10) (av := [vI a1, vI a10, vI a11]) (st := [vI ((48 * a11) + a10), vR (sR S a0 30)]) (show decode cX10_move 556 = .ok (.invokevirtual 163, 3) by decide +kernel) ml_X10_163 mt_X10_in min_X10_in mse_X10_in (by decide) q1 rfl (Nat.le_of_ble_eq_true rfl) (by omega) (ok_mono h (fun w8 S9 F10 G11 h => ?_))
    obtain ⟨z12, e9, h⟩ := h
    subst e9
    show Go d MX10_move 559 [some (vR a0), some (vI a1), some (vI a2), some (vI a3), some (vI a4), some (vI a5), some (vI a6), some (vI a7), some (vJ a8), none, some (vI a10), some (vI a11), none, none] [vJ z12, vI ((48 * a11) + a10), vR (sR S a0 30)] S9 F10 G11 Q
    obtain ⟨q13, h⟩ := h
    obtain ⟨q14, h⟩ := h
    obtain ⟨q15, h⟩ := h
    refine go_lastore (show decode cX10_move 559 = .ok (.lastore, 1) by decide +kernel) q13 q14 q15  ?_
    obtain ⟨G16, G16e⟩ : ∃ G16 : AG, G16 = gu G11 (sR S a0 30) ((48 * a11) + a10) z12 := ⟨_, rfl⟩
    have h := h G16 G16e
    rw [← G16e]
    obtain ⟨q17, h⟩ := h
    refine go_iinc (show decode cX10_move 560 = .ok (.iinc 11 1, 3) by decide +kernel) (by rfl) q17 (by decide) ?_
    show Go d MX10_move 563 [some (vR a0), some (vI a1), some (vI a2), some (vI a3), some (vI a4), some (vI a5), some (vI a6), some (vI a7), some (vJ a8), none, some (vI a10), some (vI (a11 + 1)), none, none] [] S9 F10 G16 Q
    refine go_goto (tgt := 527) (show decode cX10_move 563 = .ok (.goto (-36), 3) by decide +kernel) (by decide) ?_
    exact h
def V_X10_move_513 (d : Nat) (S : AS) (F : AF) (G : AG) (Q : AQ) (a0 : Nat) (a1 : Int) (a2 : Int) (a3 : Int) (a4 : Int) (a5 : Int) (a6 : Int) (a7 : Int) (a8 : Int) (a10 : Int) : Prop :=
  (sK S a0 = 10) ∧
  (sK S (sR S a0 5) = 20) ∧
  ((0 : Int) < (sN S (sR S a0 5) : Int)) ∧
  ((G (sR S a0 5) 0 ≤ a10) →
    Go d MX10_move 575 [some (vR a0), some (vI a1), some (vI a2), some (vI a3), some (vI a4), some (vI a5), some (vI a6), some (vI a7), some (vJ a8), none, some (vI 0), none, none, none] [] S F G Q) ∧
  ((¬ G (sR S a0 5) 0 ≤ a10) →
    Go d MX10_move 527 [some (vR a0), some (vI a1), some (vI a2), some (vI a3), some (vI a4), some (vI a5), some (vI a6), some (vI a7), some (vJ a8), none, some (vI a10), some (vI 0), none, none] [] S F G Q)
theorem R_X10_move_513 {d : Nat} {S : AS} {F : AF} {G : AG} {Q : AQ} {a0 : Nat} {a1 : Int} {a2 : Int} {a3 : Int} {a4 : Int} {a5 : Int} {a6 : Int} {a7 : Int} {a8 : Int} {a10 : Int} (h : V_X10_move_513 d S F G Q a0 a1 a2 a3 a4 a5 a6 a7 a8 a10) : Go d MX10_move 513 [some (vR a0), some (vI a1), some (vI a2), some (vI a3), some (vI a4), some (vI a5), some (vI a6), some (vI a7), some (vJ a8), none, some (vI a10), none, none, none] [] S F G Q := by
  unfold V_X10_move_513 at h
  refine go_iload (show decode cX10_move 513 = .ok (.iload 10, 2) by decide +kernel) (by rfl) ?_
  refine go_aload_n (show decode cX10_move 515 = .ok (.aload_n 0, 1) by decide +kernel) (by rfl) ?_
  obtain ⟨q1, h⟩ := h
  refine go_getR (show decode cX10_move 516 = .ok (.getfield 29, 3) by decide +kernel) fl_X10_29 rfl q1 ?_
  refine go_iconst (show decode cX10_move 519 = .ok (.iconst 0, 1) by decide +kernel) (by decide) ?_
  obtain ⟨q2, h⟩ := h
  obtain ⟨q3, h⟩ := h
  refine go_iaload (show decode cX10_move 520 = .ok (.iaload, 1) by decide +kernel) q2 (by decide) q3 ?_
  obtain ⟨ht, hf⟩ := h
  refine go_icmpge (tgt := 572) (show decode cX10_move 521 = .ok (.if_icmp .ge 51, 3) by decide +kernel) (by decide) (fun hc => ?_) (fun hc => ?_)
  · have h := ht hc
    refine go_iconst (show decode cX10_move 572 = .ok (.iconst 0, 1) by decide +kernel) (by decide) ?_
    refine go_istore (show decode cX10_move 573 = .ok (.istore 10, 2) by decide +kernel) (by decide) ?_
    show Go d MX10_move 575 [some (vR a0), some (vI a1), some (vI a2), some (vI a3), some (vI a4), some (vI a5), some (vI a6), some (vI a7), some (vJ a8), none, some (vI 0), none, none, none] [] S F G Q
    exact h
  · have h := hf hc
    refine go_iconst (show decode cX10_move 524 = .ok (.iconst 0, 1) by decide +kernel) (by decide) ?_
    refine go_istore (show decode cX10_move 525 = .ok (.istore 11, 2) by decide +kernel) (by decide) ?_
    show Go d MX10_move 527 [some (vR a0), some (vI a1), some (vI a2), some (vI a3), some (vI a4), some (vI a5), some (vI a6), some (vI a7), some (vJ a8), none, some (vI a10), some (vI 0), none, none] [] S F G Q
    exact h
def V_X10_move_482 (d : Nat) (S : AS) (F : AF) (G : AG) (Q : AQ) (a0 : Nat) (a1 : Int) (a2 : Int) (a3 : Int) (a4 : Int) (a5 : Int) (a6 : Int) (a7 : Int) (a8 : Int) : Prop :=
  (r32 (a8 + 1)) ∧
  Go d MX10_move 320 [some (vR a0), some (vI a1), some (vI a2), some (vI a3), some (vI a4), some (vI a5), some (vI a6), some (vI a7), some (vI (a8 + 1)), none, none, none, none, none] [] S F G Q
theorem R_X10_move_482 {d : Nat} {S : AS} {F : AF} {G : AG} {Q : AQ} {a0 : Nat} {a1 : Int} {a2 : Int} {a3 : Int} {a4 : Int} {a5 : Int} {a6 : Int} {a7 : Int} {a8 : Int} (h : V_X10_move_482 d S F G Q a0 a1 a2 a3 a4 a5 a6 a7 a8) : Go d MX10_move 482 [some (vR a0), some (vI a1), some (vI a2), some (vI a3), some (vI a4), some (vI a5), some (vI a6), some (vI a7), some (vI a8), none, none, none, none, none] [] S F G Q := by
  unfold V_X10_move_482 at h
  obtain ⟨q1, h⟩ := h
  refine go_iinc (show decode cX10_move 482 = .ok (.iinc 8 1, 3) by decide +kernel) (by rfl) q1 (by decide) ?_
  show Go d MX10_move 485 [some (vR a0), some (vI a1), some (vI a2), some (vI a3), some (vI a4), some (vI a5), some (vI a6), some (vI a7), some (vI (a8 + 1)), none, none, none, none, none] [] S F G Q
  refine go_goto (tgt := 320) (show decode cX10_move 485 = .ok (.goto (-165), 3) by decide +kernel) (by decide) ?_
  exact h
def V_X10_move_448 (d : Nat) (S : AS) (F : AF) (G : AG) (Q : AQ) (a0 : Nat) (a1 : Int) (a2 : Int) (a3 : Int) (a4 : Int) (a5 : Int) (a6 : Int) (a7 : Int) (a8 : Int) (a9 : Int) (s0 : Int) (s1 : Int) : Prop :=
  (r64 (s1 - s0)) ∧
  ∀ x2 : Int, x2 = s1 - s0 →
  ((x2 ≤ 0) →
    V_X10_move_482 d S F G Q a0 a1 a2 a3 a4 a5 a6 a7 a8) ∧
  ((¬ x2 ≤ 0) →
    (1 ≤ d) ∧
    (sK S a0 = 10) ∧
    Ok (d - 1) MX10_zoned [vR a0, vI a8] S F G (fun w4 S5 F6 G7 =>
    ∃ z9 : Int, w4 = some (vJ z9) ∧
    (r64 (z9 + x2)) ∧
    (sK S5 a0 = 10) ∧
    (sK S5 (sR S5 a0 16) = 21) ∧
    ((0 : Int) ≤ a8) ∧
    ((a8 : Int) < (sN S5 (sR S5 a0 16) : Int)) ∧
    ((z9 + x2 ≤ G7 (sR S5 a0 16) a8) →
      V_X10_move_482 d S5 F6 G7 Q a0 a1 a2 a3 a4 a5 a6 a7 a8) ∧
    ((¬ z9 + x2 ≤ G7 (sR S5 a0 16) a8) →
      Q (some (vJ (-9))) S5 F6 G7)))
theorem R_X10_move_448 {d : Nat} {S : AS} {F : AF} {G : AG} {Q : AQ} {a0 : Nat} {a1 : Int} {a2 : Int} {a3 : Int} {a4 : Int} {a5 : Int} {a6 : Int} {a7 : Int} {a8 : Int} {a9 : Int} {s0 : Int} {s1 : Int} (h : V_X10_move_448 d S F G Q a0 a1 a2 a3 a4 a5 a6 a7 a8 a9 s0 s1) : Go d MX10_move 448 [some (vR a0), some (vI a1), some (vI a2), some (vI a3), some (vI a4), some (vI a5), some (vI a6), some (vI a7), some (vI a8), some (vJ a9), none, none, none, none] [vJ s0, vJ s1] S F G Q := by
  unfold V_X10_move_448 at h
  obtain ⟨q1, h⟩ := h
  refine go_lsub (show decode cX10_move 448 = .ok (.lsub, 1) by decide +kernel) q1 ?_
  obtain ⟨x2, x2e⟩ : ∃ x2 : Int, x2 = s1 - s0 := ⟨_, rfl⟩
  have h := h x2 x2e
  rw [← x2e]
  refine go_lstore (show decode cX10_move 449 = .ok (.lstore 9, 2) by decide +kernel) (by decide) ?_
  show Go d MX10_move 451 [some (vR a0), some (vI a1), some (vI a2), some (vI a3), some (vI a4), some (vI a5), some (vI a6), some (vI a7), some (vI a8), some (vJ x2), none, none, none, none] [] S F G Q
  refine go_lload (show decode cX10_move 451 = .ok (.lload 9, 2) by decide +kernel) (by rfl) ?_
  refine go_lconst (n := 0) (show decode cX10_move 453 = .ok (.lconst 0, 1) by decide +kernel) ?_
  show Go d MX10_move 454 [some (vR a0), some (vI a1), some (vI a2), some (vI a3), some (vI a4), some (vI a5), some (vI a6), some (vI a7), some (vI a8), some (vJ x2), none, none, none, none] [vJ 0, vJ x2] S F G Q
  obtain ⟨ht, hf⟩ := h
  refine go_jle (tgt := 482) (show decode cX10_move 454 = .ok (.lcmp, 1) by decide +kernel) (show decode cX10_move 455 = .ok (.ifCond .le 27, 3) by decide +kernel) (by decide) (fun hc => ?_) (fun hc => ?_)
  · have h := ht hc
    refine go_clr 9 ?_
    exact R_X10_move_482 h
  · have h := hf hc
    refine go_aload_n (show decode cX10_move 458 = .ok (.aload_n 0, 1) by decide +kernel) (by rfl) ?_
    refine go_iload (show decode cX10_move 459 = .ok (.iload 8, 2) by decide +kernel) (by rfl) ?_
    obtain ⟨q3, h⟩ := h
    obtain ⟨q8, h⟩ := h
    refine go_callV (d2 := d - 1) (M2 := MX10_zoned) (n := 1) (ci := 10) (av := [vI a8]) (st := []) (show decode cX10_move 461 = .ok (.invokevirtual 188, 3) by decide +kernel) ml_X10_188 mt_X10_zoned min_X10_zoned mse_X10_zoned (by decide) q8 rfl (Nat.le_of_ble_eq_true rfl) (by omega) (ok_mono h (fun w4 S5 F6 G7 h => ?_))
    obtain ⟨z9, e9, h⟩ := h
    subst e9
    show Go d MX10_move 464 [some (vR a0), some (vI a1), some (vI a2), some (vI a3), some (vI a4), some (vI a5), some (vI a6), some (vI a7), some (vI a8), some (vJ x2), none, none, none, none] [vJ z9] S5 F6 G7 Q
    refine go_lload (show decode cX10_move 464 = .ok (.lload 9, 2) by decide +kernel) (by rfl) ?_
    obtain ⟨q10, h⟩ := h
    refine go_ladd (show decode cX10_move 466 = .ok (.ladd, 1) by decide +kernel) q10 ?_
    refine go_aload_n (show decode cX10_move 467 = .ok (.aload_n 0, 1) by decide +kernel) (by rfl) ?_
    obtain ⟨q11, h⟩ := h
    refine go_getR (show decode cX10_move 468 = .ok (.getfield 58, 3) by decide +kernel) fl_X10_58 rfl q11 ?_
    refine go_iload (show decode cX10_move 471 = .ok (.iload 8, 2) by decide +kernel) (by rfl) ?_
    obtain ⟨q12, h⟩ := h
    obtain ⟨q13, h⟩ := h
    obtain ⟨q14, h⟩ := h
    refine go_laload (show decode cX10_move 473 = .ok (.laload, 1) by decide +kernel) q12 q13 q14 ?_
    obtain ⟨ht, hf⟩ := h
    refine go_jle (tgt := 482) (show decode cX10_move 474 = .ok (.lcmp, 1) by decide +kernel) (show decode cX10_move 475 = .ok (.ifCond .le 7, 3) by decide +kernel) (by decide) (fun hc => ?_) (fun hc => ?_)
    · have h := ht hc
      refine go_clr 9 ?_
      exact R_X10_move_482 h
    · have h := hf hc
      refine go_ldc2 (show decode cX10_move 478 = .ok (.ldc2_w 196, 3) by decide +kernel) lc_X10_196 (by decide) ?_
      exact go_lret (show decode cX10_move 481 = .ok (.lreturn, 1) by decide +kernel) rfl h
def V_X10_move_404 (d : Nat) (S : AS) (F : AF) (G : AG) (Q : AQ) (a0 : Nat) (a1 : Int) (a2 : Int) (a3 : Int) (a4 : Int) (a5 : Int) (a6 : Int) (a7 : Int) (a8 : Int) (s0 : Int) : Prop :=
  (1 ≤ d) ∧
  (sK S a0 = 10) ∧
  Ok (d - 1) MX10_meets [vR a0, vI a8, vI a2, vI a3, vI a4, vI a5] S F G (fun w2 S3 F4 G5 =>
  ∃ z7 : Int, w2 = some (vI z7) ∧
  ((z7 = 0) →
    V_X10_move_448 d S3 F4 G5 Q a0 a1 a2 a3 a4 a5 a6 a7 a8 s0 0 s0) ∧
  ((¬ z7 = 0) →
    (sK S3 a0 = 10) ∧
    Ok (d - 1) MX10_sumOf [vR a0, vI a1, vI (F4 a0 24), vI (F4 a0 25), vI (F4 a0 26), vI (F4 a0 27)] S3 F4 G5 (fun w9 S10 F11 G12 =>
    ∃ z13 : Int, w9 = some (vJ z13) ∧
    V_X10_move_448 d S10 F11 G12 Q a0 a1 a2 a3 a4 a5 a6 a7 a8 s0 z13 s0)))
theorem R_X10_move_404 {d : Nat} {S : AS} {F : AF} {G : AG} {Q : AQ} {a0 : Nat} {a1 : Int} {a2 : Int} {a3 : Int} {a4 : Int} {a5 : Int} {a6 : Int} {a7 : Int} {a8 : Int} {s0 : Int} (h : V_X10_move_404 d S F G Q a0 a1 a2 a3 a4 a5 a6 a7 a8 s0) : Go d MX10_move 404 [some (vR a0), some (vI a1), some (vI a2), some (vI a3), some (vI a4), some (vI a5), some (vI a6), some (vI a7), some (vI a8), none, none, none, none, none] [vJ s0] S F G Q := by
  unfold V_X10_move_404 at h
  refine go_lstore (show decode cX10_move 404 = .ok (.lstore 9, 2) by decide +kernel) (by decide) ?_
  show Go d MX10_move 406 [some (vR a0), some (vI a1), some (vI a2), some (vI a3), some (vI a4), some (vI a5), some (vI a6), some (vI a7), some (vI a8), some (vJ s0), none, none, none, none] [] S F G Q
  refine go_lload (show decode cX10_move 406 = .ok (.lload 9, 2) by decide +kernel) (by rfl) ?_
  refine go_aload_n (show decode cX10_move 408 = .ok (.aload_n 0, 1) by decide +kernel) (by rfl) ?_
  refine go_iload (show decode cX10_move 409 = .ok (.iload 8, 2) by decide +kernel) (by rfl) ?_
  refine go_iload_n (show decode cX10_move 411 = .ok (.iload_n 2, 1) by decide +kernel) (by rfl) ?_
  refine go_iload_n (show decode cX10_move 412 = .ok (.iload_n 3, 1) by decide +kernel) (by rfl) ?_
  refine go_iload (show decode cX10_move 413 = .ok (.iload 4, 2) by decide +kernel) (by rfl) ?_
  refine go_iload (show decode cX10_move 415 = .ok (.iload 5, 2) by decide +kernel) (by rfl) ?_
  obtain ⟨q1, h⟩ := h
  obtain ⟨q6, h⟩ := h
  refine go_callV (d2 := d - 1) (M2 := MX10_meets) (n := 5) (ci := 10) (av := [vI a8, vI a2, vI a3, vI a4, vI a5]) (st := [vJ s0]) (show decode cX10_move 417 = .ok (.invokevirtual 184, 3) by decide +kernel) ml_X10_184 mt_X10_meets min_X10_meets mse_X10_meets (by decide) q6 rfl (Nat.le_of_ble_eq_true rfl) (by omega) (ok_mono h (fun w2 S3 F4 G5 h => ?_))
  obtain ⟨z7, e9, h⟩ := h
  subst e9
  show Go d MX10_move 420 [some (vR a0), some (vI a1), some (vI a2), some (vI a3), some (vI a4), some (vI a5), some (vI a6), some (vI a7), some (vI a8), some (vJ s0), none, none, none, none] [vI z7, vJ s0] S3 F4 G5 Q
  obtain ⟨ht, hf⟩ := h
  refine go_ifeq (tgt := 447) (show decode cX10_move 420 = .ok (.ifCond .eq 27, 3) by decide +kernel) (by decide) (fun hc => ?_) (fun hc => ?_)
  · have h := ht hc
    refine go_lconst (n := 0) (show decode cX10_move 447 = .ok (.lconst 0, 1) by decide +kernel) ?_
    show Go d MX10_move 448 [some (vR a0), some (vI a1), some (vI a2), some (vI a3), some (vI a4), some (vI a5), some (vI a6), some (vI a7), some (vI a8), some (vJ s0), none, none, none, none] [vJ 0, vJ s0] S3 F4 G5 Q
    exact R_X10_move_448 h
  · have h := hf hc
    refine go_aload_n (show decode cX10_move 423 = .ok (.aload_n 0, 1) by decide +kernel) (by rfl) ?_
    refine go_iload_n (show decode cX10_move 424 = .ok (.iload_n 1, 1) by decide +kernel) (by rfl) ?_
    refine go_aload_n (show decode cX10_move 425 = .ok (.aload_n 0, 1) by decide +kernel) (by rfl) ?_
    obtain ⟨q8, h⟩ := h
    refine go_getI (show decode cX10_move 426 = .ok (.getfield 239, 3) by decide +kernel) fl_X10_239 (Or.inl rfl) q8 ?_
    refine go_aload_n (show decode cX10_move 429 = .ok (.aload_n 0, 1) by decide +kernel) (by rfl) ?_
    refine go_getI (show decode cX10_move 430 = .ok (.getfield 242, 3) by decide +kernel) fl_X10_242 (Or.inl rfl) q8 ?_
    refine go_aload_n (show decode cX10_move 433 = .ok (.aload_n 0, 1) by decide +kernel) (by rfl) ?_
    refine go_getI (show decode cX10_move 434 = .ok (.getfield 245, 3) by decide +kernel) fl_X10_245 (Or.inl rfl) q8 ?_
    refine go_aload_n (show decode cX10_move 437 = .ok (.aload_n 0, 1) by decide +kernel) (by rfl) ?_
    refine go_getI (show decode cX10_move 438 = .ok (.getfield 248, 3) by decide +kernel) fl_X10_248 (Or.inl rfl) q8 ?_
    refine go_callV (d2 := d - 1) (M2 := MX10_sumOf) (n := 5) (ci := 10) (av := [vI a1, vI (F4 a0 24), vI (F4 a0 25), vI (F4 a0 26), vI (F4 a0 27)]) (st := [vJ s0]) (show decode cX10_move 441 = .ok (.invokevirtual 251, 3) by decide +kernel) ml_X10_251 mt_X10_sumOf min_X10_sumOf mse_X10_sumOf (by decide) q8 rfl (Nat.le_of_ble_eq_true rfl) (by omega) (ok_mono h (fun w9 S10 F11 G12 h => ?_))
    obtain ⟨z13, e9, h⟩ := h
    subst e9
    show Go d MX10_move 444 [some (vR a0), some (vI a1), some (vI a2), some (vI a3), some (vI a4), some (vI a5), some (vI a6), some (vI a7), some (vI a8), some (vJ s0), none, none, none, none] [vJ z13, vJ s0] S10 F11 G12 Q
    refine go_goto (tgt := 448) (show decode cX10_move 444 = .ok (.goto 4, 3) by decide +kernel) (by decide) ?_
    exact R_X10_move_448 h
def V_X10_move_320 (d : Nat) (S : AS) (F : AF) (G : AG) (Q : AQ) (a0 : Nat) (a1 : Int) (a2 : Int) (a3 : Int) (a4 : Int) (a5 : Int) (a6 : Int) (a7 : Int) (a8 : Int) : Prop :=
  ((6 ≤ a8) →
    (1 ≤ d) ∧
    (sK S a0 = 10) ∧
    Ok (d - 1) MX10_sumOf [vR a0, vI a1, vI a2, vI a3, vI a4, vI a5] S F G (fun w2 S3 F4 G5 =>
    ∃ z7 : Int, w2 = some (vJ z7) ∧
    (sK S3 a0 = 10) ∧
    Ok (d - 1) MX10_comesAcross [vR a0] S3 F4 G5 (fun w8 S9 F10 G11 =>
    w8 = none ∧
    (sK S9 a0 = 10) ∧
    Ok (d - 1) MX10_comesAll [vR a0, vI 1] S9 F10 G11 (fun w13 S14 F15 G16 =>
    w13 = none ∧
    Go d MX10_move 513 [some (vR a0), some (vI a1), some (vI a2), some (vI a3), some (vI a4), some (vI a5), some (vI a6), some (vI a7), some (vJ z7), none, some (vI 0), none, none, none] [] S14 F15 G16 Q)))) ∧
  ((¬ 6 ≤ a8) →
    (sK S a0 = 10) ∧
    (sK S (sR S a0 17) = 23) ∧
    ((0 : Int) ≤ a8) ∧
    ((a8 : Int) < (sN S (sR S a0 17) : Int)) ∧
    ((¬ G (sR S a0 17) a8 = 0) →
      (r32 (a2 + a6)) ∧
      (r32 (a3 + a7)) ∧
      (r32 (a4 + a6)) ∧
      (r32 (a5 + a7)) ∧
      (1 ≤ d) ∧
      Ok (d - 1) MX10_meets [vR a0, vI a8, vI (a2 + a6), vI (a3 + a7), vI (a4 + a6), vI (a5 + a7)] S F G (fun w27 S28 F29 G30 =>
      ∃ z31 : Int, w27 = some (vI z31) ∧
      ((z31 = 0) →
        V_X10_move_404 d S28 F29 G30 Q a0 a1 a2 a3 a4 a5 a6 a7 a8 0) ∧
      ((¬ z31 = 0) →
        (sK S28 a0 = 10) ∧
        (r32 ((F29 a0 24) - a6)) ∧
        (r32 ((F29 a0 25) - a7)) ∧
        (r32 ((F29 a0 26) - a6)) ∧
        (r32 ((F29 a0 27) - a7)) ∧
        Ok (d - 1) MX10_sumOf [vR a0, vI a1, vI ((F29 a0 24) - a6), vI ((F29 a0 25) - a7), vI ((F29 a0 26) - a6), vI ((F29 a0 27) - a7)] S28 F29 G30 (fun w37 S38 F39 G40 =>
        ∃ z41 : Int, w37 = some (vJ z41) ∧
        V_X10_move_404 d S38 F39 G40 Q a0 a1 a2 a3 a4 a5 a6 a7 a8 z41)))) ∧
    ((G (sR S a0 17) a8 = 0) →
      V_X10_move_482 d S F G Q a0 a1 a2 a3 a4 a5 a6 a7 a8))
theorem R_X10_move_320 {d : Nat} {S : AS} {F : AF} {G : AG} {Q : AQ} {a0 : Nat} {a1 : Int} {a2 : Int} {a3 : Int} {a4 : Int} {a5 : Int} {a6 : Int} {a7 : Int} {a8 : Int} (h : V_X10_move_320 d S F G Q a0 a1 a2 a3 a4 a5 a6 a7 a8) : Go d MX10_move 320 [some (vR a0), some (vI a1), some (vI a2), some (vI a3), some (vI a4), some (vI a5), some (vI a6), some (vI a7), some (vI a8), none, none, none, none, none] [] S F G Q := by
  unfold V_X10_move_320 at h
  refine go_iload (show decode cX10_move 320 = .ok (.iload 8, 2) by decide +kernel) (by rfl) ?_
  refine go_bipush (show decode cX10_move 322 = .ok (.bipush 6, 2) by decide +kernel) (by decide) ?_
  obtain ⟨ht, hf⟩ := h
  refine go_icmpge (tgt := 488) (show decode cX10_move 324 = .ok (.if_icmp .ge 164, 3) by decide +kernel) (by decide) (fun hc => ?_) (fun hc => ?_)
  · have h := ht hc
    refine go_aload_n (show decode cX10_move 488 = .ok (.aload_n 0, 1) by decide +kernel) (by rfl) ?_
    refine go_iload_n (show decode cX10_move 489 = .ok (.iload_n 1, 1) by decide +kernel) (by rfl) ?_
    refine go_iload_n (show decode cX10_move 490 = .ok (.iload_n 2, 1) by decide +kernel) (by rfl) ?_
    refine go_iload_n (show decode cX10_move 491 = .ok (.iload_n 3, 1) by decide +kernel) (by rfl) ?_
    refine go_iload (show decode cX10_move 492 = .ok (.iload 4, 2) by decide +kernel) (by rfl) ?_
    refine go_iload (show decode cX10_move 494 = .ok (.iload 5, 2) by decide +kernel) (by rfl) ?_
    obtain ⟨q1, h⟩ := h
    obtain ⟨q6, h⟩ := h
    refine go_callV (d2 := d - 1) (M2 := MX10_sumOf) (n := 5) (ci := 10) (av := [vI a1, vI a2, vI a3, vI a4, vI a5]) (st := []) (show decode cX10_move 496 = .ok (.invokevirtual 251, 3) by decide +kernel) ml_X10_251 mt_X10_sumOf min_X10_sumOf mse_X10_sumOf (by decide) q6 rfl (Nat.le_of_ble_eq_true rfl) (by omega) (ok_mono h (fun w2 S3 F4 G5 h => ?_))
    obtain ⟨z7, e9, h⟩ := h
    subst e9
    show Go d MX10_move 499 [some (vR a0), some (vI a1), some (vI a2), some (vI a3), some (vI a4), some (vI a5), some (vI a6), some (vI a7), some (vI a8), none, none, none, none, none] [vJ z7] S3 F4 G5 Q
    refine go_lstore (show decode cX10_move 499 = .ok (.lstore 8, 2) by decide +kernel) (by decide) ?_
    show Go d MX10_move 501 [some (vR a0), some (vI a1), some (vI a2), some (vI a3), some (vI a4), some (vI a5), some (vI a6), some (vI a7), some (vJ z7), none, none, none, none, none] [] S3 F4 G5 Q
    refine go_aload_n (show decode cX10_move 501 = .ok (.aload_n 0, 1) by decide +kernel) (by rfl) ?_
    obtain ⟨q12, h⟩ := h
    refine go_callV (d2 := d - 1) (M2 := MX10_comesAcross) (n := 0) (ci := 10) (av := []) (st := []) (show decode cX10_move 502 = .ok (.invokevirtual 298, 3) by decide +kernel) ml_X10_298 mt_X10_comesAcross min_X10_comesAcross mse_X10_comesAcross (by decide) q12 rfl (Nat.le_of_ble_eq_true rfl) (by omega) (ok_mono h (fun w8 S9 F10 G11 h => ?_))
    obtain ⟨e9, h⟩ := h
    subst e9
    show Go d MX10_move 505 [some (vR a0), some (vI a1), some (vI a2), some (vI a3), some (vI a4), some (vI a5), some (vI a6), some (vI a7), some (vJ z7), none, none, none, none, none] [] S9 F10 G11 Q
    refine go_aload_n (show decode cX10_move 505 = .ok (.aload_n 0, 1) by decide +kernel) (by rfl) ?_
    refine go_iconst (show decode cX10_move 506 = .ok (.iconst 1, 1) by decide +kernel) (by decide) ?_
    obtain ⟨q17, h⟩ := h
    refine go_callV (d2 := d - 1) (M2 := MX10_comesAll) (n := 1) (ci := 10) (av := [vI 1]) (st := []) (show decode cX10_move 507 = .ok (.invokevirtual 301, 3) by decide +kernel) ml_X10_301 mt_X10_comesAll min_X10_comesAll mse_X10_comesAll (by decide) q17 rfl (Nat.le_of_ble_eq_true rfl) (by omega) (ok_mono h (fun w13 S14 F15 G16 h => ?_))
    obtain ⟨e9, h⟩ := h
    subst e9
    show Go d MX10_move 510 [some (vR a0), some (vI a1), some (vI a2), some (vI a3), some (vI a4), some (vI a5), some (vI a6), some (vI a7), some (vJ z7), none, none, none, none, none] [] S14 F15 G16 Q
    refine go_iconst (show decode cX10_move 510 = .ok (.iconst 0, 1) by decide +kernel) (by decide) ?_
    refine go_istore (show decode cX10_move 511 = .ok (.istore 10, 2) by decide +kernel) (by decide) ?_
    show Go d MX10_move 513 [some (vR a0), some (vI a1), some (vI a2), some (vI a3), some (vI a4), some (vI a5), some (vI a6), some (vI a7), some (vJ z7), none, some (vI 0), none, none, none] [] S14 F15 G16 Q
    exact h
  · have h := hf hc
    refine go_aload_n (show decode cX10_move 327 = .ok (.aload_n 0, 1) by decide +kernel) (by rfl) ?_
    obtain ⟨q18, h⟩ := h
    refine go_getR (show decode cX10_move 328 = .ok (.getfield 61, 3) by decide +kernel) fl_X10_61 rfl q18 ?_
    refine go_iload (show decode cX10_move 331 = .ok (.iload 8, 2) by decide +kernel) (by rfl) ?_
    obtain ⟨q19, h⟩ := h
    obtain ⟨q20, h⟩ := h
    obtain ⟨q21, h⟩ := h
    refine go_zaload (show decode cX10_move 333 = .ok (.baload, 1) by decide +kernel) q19 q20 q21 ?_
    obtain ⟨ht, hf⟩ := h
    refine go_ifne (tgt := 340) (show decode cX10_move 334 = .ok (.ifCond .ne 6, 3) by decide +kernel) (by decide) (fun hc => ?_) (fun hc => ?_)
    · have h := ht hc
      refine go_aload_n (show decode cX10_move 340 = .ok (.aload_n 0, 1) by decide +kernel) (by rfl) ?_
      refine go_iload (show decode cX10_move 341 = .ok (.iload 8, 2) by decide +kernel) (by rfl) ?_
      refine go_iload_n (show decode cX10_move 343 = .ok (.iload_n 2, 1) by decide +kernel) (by rfl) ?_
      refine go_iload (show decode cX10_move 344 = .ok (.iload 6, 2) by decide +kernel) (by rfl) ?_
      obtain ⟨q22, h⟩ := h
      refine go_iadd (show decode cX10_move 346 = .ok (.iadd, 1) by decide +kernel) q22 ?_
      refine go_iload_n (show decode cX10_move 347 = .ok (.iload_n 3, 1) by decide +kernel) (by rfl) ?_
      refine go_iload (show decode cX10_move 348 = .ok (.iload 7, 2) by decide +kernel) (by rfl) ?_
      obtain ⟨q23, h⟩ := h
      refine go_iadd (show decode cX10_move 350 = .ok (.iadd, 1) by decide +kernel) q23 ?_
      refine go_iload (show decode cX10_move 351 = .ok (.iload 4, 2) by decide +kernel) (by rfl) ?_
      refine go_iload (show decode cX10_move 353 = .ok (.iload 6, 2) by decide +kernel) (by rfl) ?_
      obtain ⟨q24, h⟩ := h
      refine go_iadd (show decode cX10_move 355 = .ok (.iadd, 1) by decide +kernel) q24 ?_
      refine go_iload (show decode cX10_move 356 = .ok (.iload 5, 2) by decide +kernel) (by rfl) ?_
      refine go_iload (show decode cX10_move 358 = .ok (.iload 7, 2) by decide +kernel) (by rfl) ?_
      obtain ⟨q25, h⟩ := h
      refine go_iadd (show decode cX10_move 360 = .ok (.iadd, 1) by decide +kernel) q25 ?_
      obtain ⟨q26, h⟩ := h
      refine go_callV (d2 := d - 1) (M2 := MX10_meets) (n := 5) (ci := 10) (av := [vI a8, vI (a2 + a6), vI (a3 + a7), vI (a4 + a6), vI (a5 + a7)]) (st := []) (show decode cX10_move 361 = .ok (.invokevirtual 184, 3) by decide +kernel) ml_X10_184 mt_X10_meets min_X10_meets mse_X10_meets (by decide) q18 rfl (Nat.le_of_ble_eq_true rfl) (by omega) (ok_mono h (fun w27 S28 F29 G30 h => ?_))
      obtain ⟨z31, e9, h⟩ := h
      subst e9
      show Go d MX10_move 364 [some (vR a0), some (vI a1), some (vI a2), some (vI a3), some (vI a4), some (vI a5), some (vI a6), some (vI a7), some (vI a8), none, none, none, none, none] [vI z31] S28 F29 G30 Q
      obtain ⟨ht, hf⟩ := h
      refine go_ifeq (tgt := 403) (show decode cX10_move 364 = .ok (.ifCond .eq 39, 3) by decide +kernel) (by decide) (fun hc => ?_) (fun hc => ?_)
      · have h := ht hc
        refine go_lconst (n := 0) (show decode cX10_move 403 = .ok (.lconst 0, 1) by decide +kernel) ?_
        show Go d MX10_move 404 [some (vR a0), some (vI a1), some (vI a2), some (vI a3), some (vI a4), some (vI a5), some (vI a6), some (vI a7), some (vI a8), none, none, none, none, none] [vJ 0] S28 F29 G30 Q
        exact R_X10_move_404 h
      · have h := hf hc
        refine go_aload_n (show decode cX10_move 367 = .ok (.aload_n 0, 1) by decide +kernel) (by rfl) ?_
        refine go_iload_n (show decode cX10_move 368 = .ok (.iload_n 1, 1) by decide +kernel) (by rfl) ?_
        refine go_aload_n (show decode cX10_move 369 = .ok (.aload_n 0, 1) by decide +kernel) (by rfl) ?_
        obtain ⟨q32, h⟩ := h
        refine go_getI (show decode cX10_move 370 = .ok (.getfield 239, 3) by decide +kernel) fl_X10_239 (Or.inl rfl) q32 ?_
        refine go_iload (show decode cX10_move 373 = .ok (.iload 6, 2) by decide +kernel) (by rfl) ?_
        obtain ⟨q33, h⟩ := h
        refine go_isub (show decode cX10_move 375 = .ok (.isub, 1) by decide +kernel) q33 ?_
        refine go_aload_n (show decode cX10_move 376 = .ok (.aload_n 0, 1) by decide +kernel) (by rfl) ?_
        refine go_getI (show decode cX10_move 377 = .ok (.getfield 242, 3) by decide +kernel) fl_X10_242 (Or.inl rfl) q32 ?_
        refine go_iload (show decode cX10_move 380 = .ok (.iload 7, 2) by decide +kernel) (by rfl) ?_
        obtain ⟨q34, h⟩ := h
        refine go_isub (show decode cX10_move 382 = .ok (.isub, 1) by decide +kernel) q34 ?_
        refine go_aload_n (show decode cX10_move 383 = .ok (.aload_n 0, 1) by decide +kernel) (by rfl) ?_
        refine go_getI (show decode cX10_move 384 = .ok (.getfield 245, 3) by decide +kernel) fl_X10_245 (Or.inl rfl) q32 ?_
        refine go_iload (show decode cX10_move 387 = .ok (.iload 6, 2) by decide +kernel) (by rfl) ?_
        obtain ⟨q35, h⟩ := h
        refine go_isub (show decode cX10_move 389 = .ok (.isub, 1) by decide +kernel) q35 ?_
        refine go_aload_n (show decode cX10_move 390 = .ok (.aload_n 0, 1) by decide +kernel) (by rfl) ?_
        refine go_getI (show decode cX10_move 391 = .ok (.getfield 248, 3) by decide +kernel) fl_X10_248 (Or.inl rfl) q32 ?_
        refine go_iload (show decode cX10_move 394 = .ok (.iload 7, 2) by decide +kernel) (by rfl) ?_
        obtain ⟨q36, h⟩ := h
        refine go_isub (show decode cX10_move 396 = .ok (.isub, 1) by decide +kernel) q36 ?_
        refine go_callV (d2 := d - 1) (M2 := MX10_sumOf) (n := 5) (ci := 10) (av := [vI a1, vI ((F29 a0 24) - a6), vI ((F29 a0 25) - a7), vI ((F29 a0 26) - a6), vI ((F29 a0 27) - a7)]) (st := []) (show decode cX10_move 397 = .ok (.invokevirtual 251, 3) by decide +kernel) ml_X10_251 mt_X10_sumOf min_X10_sumOf mse_X10_sumOf (by decide) q32 rfl (Nat.le_of_ble_eq_true rfl) (by omega) (ok_mono h (fun w37 S38 F39 G40 h => ?_))
        obtain ⟨z41, e9, h⟩ := h
        subst e9
        show Go d MX10_move 400 [some (vR a0), some (vI a1), some (vI a2), some (vI a3), some (vI a4), some (vI a5), some (vI a6), some (vI a7), some (vI a8), none, none, none, none, none] [vJ z41] S38 F39 G40 Q
        refine go_goto (tgt := 404) (show decode cX10_move 400 = .ok (.goto 4, 3) by decide +kernel) (by decide) ?_
        exact R_X10_move_404 h
    · have h := hf hc
      refine go_goto (tgt := 482) (show decode cX10_move 337 = .ok (.goto 145, 3) by decide +kernel) (by decide) ?_
      exact R_X10_move_482 h
def V_X10_move_305 (d : Nat) (S : AS) (F : AF) (G : AG) (Q : AQ) (a0 : Nat) (a1 : Int) (a2 : Int) (a3 : Int) (a4 : Int) (a5 : Int) (a6 : Int) (a7 : Int) (a8 : Int) (a9 : Int) (a10 : Int) (a11 : Int) : Prop :=
  (r32 (a9 + 1)) ∧
  Go d MX10_move 177 [some (vR a0), some (vI a1), some (vI a2), some (vI a3), some (vI a4), some (vI a5), some (vI a6), some (vI a7), some (vI a8), some (vI (a9 + 1)), none, none, none, none] [] S F G Q
theorem R_X10_move_305 {d : Nat} {S : AS} {F : AF} {G : AG} {Q : AQ} {a0 : Nat} {a1 : Int} {a2 : Int} {a3 : Int} {a4 : Int} {a5 : Int} {a6 : Int} {a7 : Int} {a8 : Int} {a9 : Int} {a10 : Int} {a11 : Int} (h : V_X10_move_305 d S F G Q a0 a1 a2 a3 a4 a5 a6 a7 a8 a9 a10 a11) : Go d MX10_move 305 [some (vR a0), some (vI a1), some (vI a2), some (vI a3), some (vI a4), some (vI a5), some (vI a6), some (vI a7), some (vI a8), some (vI a9), some (vI a10), some (vI a11), none, none] [] S F G Q := by
  unfold V_X10_move_305 at h
  obtain ⟨q1, h⟩ := h
  refine go_iinc (show decode cX10_move 305 = .ok (.iinc 9 1, 3) by decide +kernel) (by rfl) q1 (by decide) ?_
  show Go d MX10_move 308 [some (vR a0), some (vI a1), some (vI a2), some (vI a3), some (vI a4), some (vI a5), some (vI a6), some (vI a7), some (vI a8), some (vI (a9 + 1)), some (vI a10), some (vI a11), none, none] [] S F G Q
  refine go_goto (tgt := 177) (show decode cX10_move 308 = .ok (.goto (-131), 3) by decide +kernel) (by decide) ?_
  refine go_clr 10 ?_
  refine go_clr 11 ?_
  exact h
def V_X10_move_278 (d : Nat) (S : AS) (F : AF) (G : AG) (Q : AQ) (a0 : Nat) (a1 : Int) (a2 : Int) (a3 : Int) (a4 : Int) (a5 : Int) (a6 : Int) (a7 : Int) (a8 : Int) (a9 : Int) (a10 : Int) (a11 : Int) (s0 : Int) (s1 : Int) : Prop :=
  (r64 (s1 - s0)) ∧
  ∀ x2 : Int, x2 = s1 - s0 →
  (1 ≤ d) ∧
  (sK S a0 = 10) ∧
  Ok (d - 1) MX10_cell [vR a0, vI (-1), vI a10, vI a11] S F G (fun w4 S5 F6 G7 =>
  ∃ z9 : Int, w4 = some (vJ z9) ∧
  (r64 (z9 + x2)) ∧
  (sK S5 a0 = 10) ∧
  ((z9 + x2 ≤ F6 a0 3) →
    V_X10_move_305 d S5 F6 G7 Q a0 a1 a2 a3 a4 a5 a6 a7 a8 a9 a10 a11) ∧
  ((¬ z9 + x2 ≤ F6 a0 3) →
    Q (some (vJ (-7))) S5 F6 G7))
theorem R_X10_move_278 {d : Nat} {S : AS} {F : AF} {G : AG} {Q : AQ} {a0 : Nat} {a1 : Int} {a2 : Int} {a3 : Int} {a4 : Int} {a5 : Int} {a6 : Int} {a7 : Int} {a8 : Int} {a9 : Int} {a10 : Int} {a11 : Int} {s0 : Int} {s1 : Int} (h : V_X10_move_278 d S F G Q a0 a1 a2 a3 a4 a5 a6 a7 a8 a9 a10 a11 s0 s1) : Go d MX10_move 278 [some (vR a0), some (vI a1), some (vI a2), some (vI a3), some (vI a4), some (vI a5), some (vI a6), some (vI a7), some (vI a8), some (vI a9), some (vI a10), some (vI a11), none, none] [vJ s0, vJ s1] S F G Q := by
  unfold V_X10_move_278 at h
  obtain ⟨q1, h⟩ := h
  refine go_lsub (show decode cX10_move 278 = .ok (.lsub, 1) by decide +kernel) q1 ?_
  obtain ⟨x2, x2e⟩ : ∃ x2 : Int, x2 = s1 - s0 := ⟨_, rfl⟩
  have h := h x2 x2e
  rw [← x2e]
  refine go_lstore (show decode cX10_move 279 = .ok (.lstore 12, 2) by decide +kernel) (by decide) ?_
  show Go d MX10_move 281 [some (vR a0), some (vI a1), some (vI a2), some (vI a3), some (vI a4), some (vI a5), some (vI a6), some (vI a7), some (vI a8), some (vI a9), some (vI a10), some (vI a11), some (vJ x2), none] [] S F G Q
  refine go_aload_n (show decode cX10_move 281 = .ok (.aload_n 0, 1) by decide +kernel) (by rfl) ?_
  refine go_iconst (show decode cX10_move 282 = .ok (.iconst (-1), 1) by decide +kernel) (by decide) ?_
  refine go_iload (show decode cX10_move 283 = .ok (.iload 10, 2) by decide +kernel) (by rfl) ?_
  refine go_iload (show decode cX10_move 285 = .ok (.iload 11, 2) by decide +kernel) (by rfl) ?_
  obtain ⟨q3, h⟩ := h
  obtain ⟨q8, h⟩ := h
  refine go_callV (d2 := d - 1) (M2 := MX10_cell) (n := 3) (ci := 10) (av := [vI (-1), vI a10, vI a11]) (st := []) (show decode cX10_move 287 = .ok (.invokevirtual 293, 3) by decide +kernel) ml_X10_293 mt_X10_cell min_X10_cell mse_X10_cell (by decide) q8 rfl (Nat.le_of_ble_eq_true rfl) (by omega) (ok_mono h (fun w4 S5 F6 G7 h => ?_))
  obtain ⟨z9, e9, h⟩ := h
  subst e9
  show Go d MX10_move 290 [some (vR a0), some (vI a1), some (vI a2), some (vI a3), some (vI a4), some (vI a5), some (vI a6), some (vI a7), some (vI a8), some (vI a9), some (vI a10), some (vI a11), some (vJ x2), none] [vJ z9] S5 F6 G7 Q
  refine go_lload (show decode cX10_move 290 = .ok (.lload 12, 2) by decide +kernel) (by rfl) ?_
  obtain ⟨q10, h⟩ := h
  refine go_ladd (show decode cX10_move 292 = .ok (.ladd, 1) by decide +kernel) q10 ?_
  refine go_aload_n (show decode cX10_move 293 = .ok (.aload_n 0, 1) by decide +kernel) (by rfl) ?_
  obtain ⟨q11, h⟩ := h
  refine go_getJ (show decode cX10_move 294 = .ok (.getfield 21, 3) by decide +kernel) fl_X10_21 rfl q11 ?_
  obtain ⟨ht, hf⟩ := h
  refine go_jle (tgt := 305) (show decode cX10_move 297 = .ok (.lcmp, 1) by decide +kernel) (show decode cX10_move 298 = .ok (.ifCond .le 7, 3) by decide +kernel) (by decide) (fun hc => ?_) (fun hc => ?_)
  · have h := ht hc
    refine go_clr 12 ?_
    exact R_X10_move_305 h
  · have h := hf hc
    refine go_ldc2 (show decode cX10_move 301 = .ok (.ldc2_w 296, 3) by decide +kernel) lc_X10_296 (by decide) ?_
    exact go_lret (show decode cX10_move 304 = .ok (.lreturn, 1) by decide +kernel) rfl h
def V_X10_move_177 (d : Nat) (S : AS) (F : AF) (G : AG) (Q : AQ) (a0 : Nat) (a1 : Int) (a2 : Int) (a3 : Int) (a4 : Int) (a5 : Int) (a6 : Int) (a7 : Int) (a8 : Int) (a9 : Int) : Prop :=
  (sK S a0 = 10) ∧
  (sK S (sR S a0 29) = 20) ∧
  ((1 : Int) < (sN S (sR S a0 29) : Int)) ∧
  ((G (sR S a0 29) 1 ≤ a9) →
    (r32 (a8 + 1)) ∧
    Go d MX10_move 163 [some (vR a0), some (vI a1), some (vI a2), some (vI a3), some (vI a4), some (vI a5), some (vI a6), some (vI a7), some (vI (a8 + 1)), none, none, none, none, none] [] S F G Q) ∧
  ((¬ G (sR S a0 29) 1 ≤ a9) →
    (sK S (sR S a0 28) = 20) ∧
    ((0 : Int) ≤ a8) ∧
    ((a8 : Int) < (sN S (sR S a0 28) : Int)) ∧
    ∀ x8 : Int, x8 = G (sR S a0 28) a8 →
    (r32 (48 + a9)) ∧
    ((0 : Int) ≤ 48 + a9) ∧
    ((48 + a9 : Int) < (sN S (sR S a0 28) : Int)) ∧
    ∀ x12 : Int, x12 = G (sR S a0 28) (48 + a9) →
    (r32 (x8 - a6)) ∧
    (r32 (x12 - a7)) ∧
    (1 ≤ d) ∧
    Ok (d - 1) MX10_isInside [vI (x8 - a6), vI (x12 - a7), vI a2, vI a3, vI a4, vI a5] S F G (fun w16 S17 F18 G19 =>
    ∃ z20 : Int, w16 = some (vI z20) ∧
    ((¬ z20 = 0) →
      (r32 (x8 - a6)) ∧
      (r32 (x12 - a7)) ∧
      (sK S17 a0 = 10) ∧
      Ok (d - 1) MX10_cell [vR a0, vI a1, vI (x8 - a6), vI (x12 - a7)] S17 F18 G19 (fun w23 S24 F25 G26 =>
      ∃ z28 : Int, w23 = some (vJ z28) ∧
      Ok (d - 1) MX10_isInside [vI x8, vI x12, vI a2, vI a3, vI a4, vI a5] S24 F25 G26 (fun w29 S30 F31 G32 =>
      ∃ z33 : Int, w29 = some (vI z33) ∧
      ((z33 = 0) →
        V_X10_move_278 d S30 F31 G32 Q a0 a1 a2 a3 a4 a5 a6 a7 a8 a9 x8 x12 0 z28) ∧
      ((¬ z33 = 0) →
        (sK S30 a0 = 10) ∧
        Ok (d - 1) MX10_cell [vR a0, vI a1, vI x8, vI x12] S30 F31 G32 (fun w34 S35 F36 G37 =>
        ∃ z39 : Int, w34 = some (vJ z39) ∧
        V_X10_move_278 d S35 F36 G37 Q a0 a1 a2 a3 a4 a5 a6 a7 a8 a9 x8 x12 z39 z28))))) ∧
    ((z20 = 0) →
      V_X10_move_305 d S17 F18 G19 Q a0 a1 a2 a3 a4 a5 a6 a7 a8 a9 x8 x12)))
theorem R_X10_move_177 {d : Nat} {S : AS} {F : AF} {G : AG} {Q : AQ} {a0 : Nat} {a1 : Int} {a2 : Int} {a3 : Int} {a4 : Int} {a5 : Int} {a6 : Int} {a7 : Int} {a8 : Int} {a9 : Int} (h : V_X10_move_177 d S F G Q a0 a1 a2 a3 a4 a5 a6 a7 a8 a9) : Go d MX10_move 177 [some (vR a0), some (vI a1), some (vI a2), some (vI a3), some (vI a4), some (vI a5), some (vI a6), some (vI a7), some (vI a8), some (vI a9), none, none, none, none] [] S F G Q := by
  unfold V_X10_move_177 at h
  refine go_iload (show decode cX10_move 177 = .ok (.iload 9, 2) by decide +kernel) (by rfl) ?_
  refine go_aload_n (show decode cX10_move 179 = .ok (.aload_n 0, 1) by decide +kernel) (by rfl) ?_
  obtain ⟨q1, h⟩ := h
  refine go_getR (show decode cX10_move 180 = .ok (.getfield 74, 3) by decide +kernel) fl_X10_74 rfl q1 ?_
  refine go_iconst (show decode cX10_move 183 = .ok (.iconst 1, 1) by decide +kernel) (by decide) ?_
  obtain ⟨q2, h⟩ := h
  obtain ⟨q3, h⟩ := h
  refine go_iaload (show decode cX10_move 184 = .ok (.iaload, 1) by decide +kernel) q2 (by decide) q3 ?_
  obtain ⟨ht, hf⟩ := h
  refine go_icmpge (tgt := 311) (show decode cX10_move 185 = .ok (.if_icmp .ge 126, 3) by decide +kernel) (by decide) (fun hc => ?_) (fun hc => ?_)
  · have h := ht hc
    obtain ⟨q4, h⟩ := h
    refine go_iinc (show decode cX10_move 311 = .ok (.iinc 8 1, 3) by decide +kernel) (by rfl) q4 (by decide) ?_
    show Go d MX10_move 314 [some (vR a0), some (vI a1), some (vI a2), some (vI a3), some (vI a4), some (vI a5), some (vI a6), some (vI a7), some (vI (a8 + 1)), some (vI a9), none, none, none, none] [] S F G Q
    refine go_goto (tgt := 163) (show decode cX10_move 314 = .ok (.goto (-151), 3) by decide +kernel) (by decide) ?_
    refine go_clr 9 ?_
    exact h
  · have h := hf hc
    refine go_aload_n (show decode cX10_move 188 = .ok (.aload_n 0, 1) by decide +kernel) (by rfl) ?_
    refine go_getR (show decode cX10_move 189 = .ok (.getfield 71, 3) by decide +kernel) fl_X10_71 rfl q1 ?_
    refine go_iload (show decode cX10_move 192 = .ok (.iload 8, 2) by decide +kernel) (by rfl) ?_
    obtain ⟨q5, h⟩ := h
    obtain ⟨q6, h⟩ := h
    obtain ⟨q7, h⟩ := h
    refine go_iaload (show decode cX10_move 194 = .ok (.iaload, 1) by decide +kernel) q5 q6 q7 ?_
    obtain ⟨x8, x8e⟩ : ∃ x8 : Int, x8 = G (sR S a0 28) a8 := ⟨_, rfl⟩
    have h := h x8 x8e
    rw [← x8e]
    refine go_istore (show decode cX10_move 195 = .ok (.istore 10, 2) by decide +kernel) (by decide) ?_
    show Go d MX10_move 197 [some (vR a0), some (vI a1), some (vI a2), some (vI a3), some (vI a4), some (vI a5), some (vI a6), some (vI a7), some (vI a8), some (vI a9), some (vI x8), none, none, none] [] S F G Q
    refine go_aload_n (show decode cX10_move 197 = .ok (.aload_n 0, 1) by decide +kernel) (by rfl) ?_
    refine go_getR (show decode cX10_move 198 = .ok (.getfield 71, 3) by decide +kernel) fl_X10_71 rfl q1 ?_
    refine go_bipush (show decode cX10_move 201 = .ok (.bipush 48, 2) by decide +kernel) (by decide) ?_
    refine go_iload (show decode cX10_move 203 = .ok (.iload 9, 2) by decide +kernel) (by rfl) ?_
    obtain ⟨q9, h⟩ := h
    refine go_iadd (show decode cX10_move 205 = .ok (.iadd, 1) by decide +kernel) q9 ?_
    obtain ⟨q10, h⟩ := h
    obtain ⟨q11, h⟩ := h
    refine go_iaload (show decode cX10_move 206 = .ok (.iaload, 1) by decide +kernel) q5 q10 q11 ?_
    obtain ⟨x12, x12e⟩ : ∃ x12 : Int, x12 = G (sR S a0 28) (48 + a9) := ⟨_, rfl⟩
    have h := h x12 x12e
    rw [← x12e]
    refine go_istore (show decode cX10_move 207 = .ok (.istore 11, 2) by decide +kernel) (by decide) ?_
    show Go d MX10_move 209 [some (vR a0), some (vI a1), some (vI a2), some (vI a3), some (vI a4), some (vI a5), some (vI a6), some (vI a7), some (vI a8), some (vI a9), some (vI x8), some (vI x12), none, none] [] S F G Q
    refine go_iload (show decode cX10_move 209 = .ok (.iload 10, 2) by decide +kernel) (by rfl) ?_
    refine go_iload (show decode cX10_move 211 = .ok (.iload 6, 2) by decide +kernel) (by rfl) ?_
    obtain ⟨q13, h⟩ := h
    refine go_isub (show decode cX10_move 213 = .ok (.isub, 1) by decide +kernel) q13 ?_
    refine go_iload (show decode cX10_move 214 = .ok (.iload 11, 2) by decide +kernel) (by rfl) ?_
    refine go_iload (show decode cX10_move 216 = .ok (.iload 7, 2) by decide +kernel) (by rfl) ?_
    obtain ⟨q14, h⟩ := h
    refine go_isub (show decode cX10_move 218 = .ok (.isub, 1) by decide +kernel) q14 ?_
    refine go_iload_n (show decode cX10_move 219 = .ok (.iload_n 2, 1) by decide +kernel) (by rfl) ?_
    refine go_iload_n (show decode cX10_move 220 = .ok (.iload_n 3, 1) by decide +kernel) (by rfl) ?_
    refine go_iload (show decode cX10_move 221 = .ok (.iload 4, 2) by decide +kernel) (by rfl) ?_
    refine go_iload (show decode cX10_move 223 = .ok (.iload 5, 2) by decide +kernel) (by rfl) ?_
    obtain ⟨q15, h⟩ := h
    refine go_callS (d2 := d - 1) (M2 := MX10_isInside) (n := 6) (av := [vI (x8 - a6), vI (x12 - a7), vI a2, vI a3, vI a4, vI a5]) (st := []) (show decode cX10_move 225 = .ok (.invokestatic 289, 3) by decide +kernel) ml_X10_289 mt_X10_isInside mst_X10_isInside rfl (Nat.le_of_ble_eq_true rfl) (by omega) (ok_mono h (fun w16 S17 F18 G19 h => ?_))
    obtain ⟨z20, e9, h⟩ := h
    subst e9
    show Go d MX10_move 228 [some (vR a0), some (vI a1), some (vI a2), some (vI a3), some (vI a4), some (vI a5), some (vI a6), some (vI a7), some (vI a8), some (vI a9), some (vI x8), some (vI x12), none, none] [vI z20] S17 F18 G19 Q
    obtain ⟨ht, hf⟩ := h
    refine go_ifne (tgt := 234) (show decode cX10_move 228 = .ok (.ifCond .ne 6, 3) by decide +kernel) (by decide) (fun hc => ?_) (fun hc => ?_)
    · have h := ht hc
      refine go_aload_n (show decode cX10_move 234 = .ok (.aload_n 0, 1) by decide +kernel) (by rfl) ?_
      refine go_iload_n (show decode cX10_move 235 = .ok (.iload_n 1, 1) by decide +kernel) (by rfl) ?_
      refine go_iload (show decode cX10_move 236 = .ok (.iload 10, 2) by decide +kernel) (by rfl) ?_
      refine go_iload (show decode cX10_move 238 = .ok (.iload 6, 2) by decide +kernel) (by rfl) ?_
      obtain ⟨q21, h⟩ := h
      refine go_isub (show decode cX10_move 240 = .ok (.isub, 1) by decide +kernel) q21 ?_
      refine go_iload (show decode cX10_move 241 = .ok (.iload 11, 2) by decide +kernel) (by rfl) ?_
      refine go_iload (show decode cX10_move 243 = .ok (.iload 7, 2) by decide +kernel) (by rfl) ?_
      obtain ⟨q22, h⟩ := h
      refine go_isub (show decode cX10_move 245 = .ok (.isub, 1) by decide +kernel) q22 ?_
      obtain ⟨q27, h⟩ := h
      refine go_callV (d2 := d - 1) (M2 := MX10_cell) (n := 3) (ci := 10) (av := [vI a1, vI (x8 - a6), vI (x12 - a7)]) (st := []) (show decode cX10_move 246 = .ok (.invokevirtual 293, 3) by decide +kernel) ml_X10_293 mt_X10_cell min_X10_cell mse_X10_cell (by decide) q27 rfl (Nat.le_of_ble_eq_true rfl) (by omega) (ok_mono h (fun w23 S24 F25 G26 h => ?_))
      obtain ⟨z28, e9, h⟩ := h
      subst e9
      show Go d MX10_move 249 [some (vR a0), some (vI a1), some (vI a2), some (vI a3), some (vI a4), some (vI a5), some (vI a6), some (vI a7), some (vI a8), some (vI a9), some (vI x8), some (vI x12), none, none] [vJ z28] S24 F25 G26 Q
      refine go_iload (show decode cX10_move 249 = .ok (.iload 10, 2) by decide +kernel) (by rfl) ?_
      refine go_iload (show decode cX10_move 251 = .ok (.iload 11, 2) by decide +kernel) (by rfl) ?_
      refine go_iload_n (show decode cX10_move 253 = .ok (.iload_n 2, 1) by decide +kernel) (by rfl) ?_
      refine go_iload_n (show decode cX10_move 254 = .ok (.iload_n 3, 1) by decide +kernel) (by rfl) ?_
      refine go_iload (show decode cX10_move 255 = .ok (.iload 4, 2) by decide +kernel) (by rfl) ?_
      refine go_iload (show decode cX10_move 257 = .ok (.iload 5, 2) by decide +kernel) (by rfl) ?_
      refine go_callS (d2 := d - 1) (M2 := MX10_isInside) (n := 6) (av := [vI x8, vI x12, vI a2, vI a3, vI a4, vI a5]) (st := [vJ z28]) (show decode cX10_move 259 = .ok (.invokestatic 289, 3) by decide +kernel) ml_X10_289 mt_X10_isInside mst_X10_isInside rfl (Nat.le_of_ble_eq_true rfl) (by omega) (ok_mono h (fun w29 S30 F31 G32 h => ?_))
      obtain ⟨z33, e9, h⟩ := h
      subst e9
      show Go d MX10_move 262 [some (vR a0), some (vI a1), some (vI a2), some (vI a3), some (vI a4), some (vI a5), some (vI a6), some (vI a7), some (vI a8), some (vI a9), some (vI x8), some (vI x12), none, none] [vI z33, vJ z28] S30 F31 G32 Q
      obtain ⟨ht, hf⟩ := h
      refine go_ifeq (tgt := 277) (show decode cX10_move 262 = .ok (.ifCond .eq 15, 3) by decide +kernel) (by decide) (fun hc => ?_) (fun hc => ?_)
      · have h := ht hc
        refine go_lconst (n := 0) (show decode cX10_move 277 = .ok (.lconst 0, 1) by decide +kernel) ?_
        show Go d MX10_move 278 [some (vR a0), some (vI a1), some (vI a2), some (vI a3), some (vI a4), some (vI a5), some (vI a6), some (vI a7), some (vI a8), some (vI a9), some (vI x8), some (vI x12), none, none] [vJ 0, vJ z28] S30 F31 G32 Q
        exact R_X10_move_278 h
      · have h := hf hc
        refine go_aload_n (show decode cX10_move 265 = .ok (.aload_n 0, 1) by decide +kernel) (by rfl) ?_
        refine go_iload_n (show decode cX10_move 266 = .ok (.iload_n 1, 1) by decide +kernel) (by rfl) ?_
        refine go_iload (show decode cX10_move 267 = .ok (.iload 10, 2) by decide +kernel) (by rfl) ?_
        refine go_iload (show decode cX10_move 269 = .ok (.iload 11, 2) by decide +kernel) (by rfl) ?_
        obtain ⟨q38, h⟩ := h
        refine go_callV (d2 := d - 1) (M2 := MX10_cell) (n := 3) (ci := 10) (av := [vI a1, vI x8, vI x12]) (st := [vJ z28]) (show decode cX10_move 271 = .ok (.invokevirtual 293, 3) by decide +kernel) ml_X10_293 mt_X10_cell min_X10_cell mse_X10_cell (by decide) q38 rfl (Nat.le_of_ble_eq_true rfl) (by omega) (ok_mono h (fun w34 S35 F36 G37 h => ?_))
        obtain ⟨z39, e9, h⟩ := h
        subst e9
        show Go d MX10_move 274 [some (vR a0), some (vI a1), some (vI a2), some (vI a3), some (vI a4), some (vI a5), some (vI a6), some (vI a7), some (vI a8), some (vI a9), some (vI x8), some (vI x12), none, none] [vJ z39, vJ z28] S35 F36 G37 Q
        refine go_goto (tgt := 278) (show decode cX10_move 274 = .ok (.goto 4, 3) by decide +kernel) (by decide) ?_
        exact R_X10_move_278 h
    · have h := hf hc
      refine go_goto (tgt := 305) (show decode cX10_move 231 = .ok (.goto 74, 3) by decide +kernel) (by decide) ?_
      exact R_X10_move_305 h
def V_X10_move_163 (d : Nat) (S : AS) (F : AF) (G : AG) (Q : AQ) (a0 : Nat) (a1 : Int) (a2 : Int) (a3 : Int) (a4 : Int) (a5 : Int) (a6 : Int) (a7 : Int) (a8 : Int) : Prop :=
  (sK S a0 = 10) ∧
  (sK S (sR S a0 29) = 20) ∧
  ((0 : Int) < (sN S (sR S a0 29) : Int)) ∧
  ((G (sR S a0 29) 0 ≤ a8) →
    Go d MX10_move 320 [some (vR a0), some (vI a1), some (vI a2), some (vI a3), some (vI a4), some (vI a5), some (vI a6), some (vI a7), some (vI 0), none, none, none, none, none] [] S F G Q) ∧
  ((¬ G (sR S a0 29) 0 ≤ a8) →
    Go d MX10_move 177 [some (vR a0), some (vI a1), some (vI a2), some (vI a3), some (vI a4), some (vI a5), some (vI a6), some (vI a7), some (vI a8), some (vI 0), none, none, none, none] [] S F G Q)
theorem R_X10_move_163 {d : Nat} {S : AS} {F : AF} {G : AG} {Q : AQ} {a0 : Nat} {a1 : Int} {a2 : Int} {a3 : Int} {a4 : Int} {a5 : Int} {a6 : Int} {a7 : Int} {a8 : Int} (h : V_X10_move_163 d S F G Q a0 a1 a2 a3 a4 a5 a6 a7 a8) : Go d MX10_move 163 [some (vR a0), some (vI a1), some (vI a2), some (vI a3), some (vI a4), some (vI a5), some (vI a6), some (vI a7), some (vI a8), none, none, none, none, none] [] S F G Q := by
  unfold V_X10_move_163 at h
  refine go_iload (show decode cX10_move 163 = .ok (.iload 8, 2) by decide +kernel) (by rfl) ?_
  refine go_aload_n (show decode cX10_move 165 = .ok (.aload_n 0, 1) by decide +kernel) (by rfl) ?_
  obtain ⟨q1, h⟩ := h
  refine go_getR (show decode cX10_move 166 = .ok (.getfield 74, 3) by decide +kernel) fl_X10_74 rfl q1 ?_
  refine go_iconst (show decode cX10_move 169 = .ok (.iconst 0, 1) by decide +kernel) (by decide) ?_
  obtain ⟨q2, h⟩ := h
  obtain ⟨q3, h⟩ := h
  refine go_iaload (show decode cX10_move 170 = .ok (.iaload, 1) by decide +kernel) q2 (by decide) q3 ?_
  obtain ⟨ht, hf⟩ := h
  refine go_icmpge (tgt := 317) (show decode cX10_move 171 = .ok (.if_icmp .ge 146, 3) by decide +kernel) (by decide) (fun hc => ?_) (fun hc => ?_)
  · have h := ht hc
    refine go_iconst (show decode cX10_move 317 = .ok (.iconst 0, 1) by decide +kernel) (by decide) ?_
    refine go_istore (show decode cX10_move 318 = .ok (.istore 8, 2) by decide +kernel) (by decide) ?_
    show Go d MX10_move 320 [some (vR a0), some (vI a1), some (vI a2), some (vI a3), some (vI a4), some (vI a5), some (vI a6), some (vI a7), some (vI 0), none, none, none, none, none] [] S F G Q
    exact h
  · have h := hf hc
    refine go_iconst (show decode cX10_move 174 = .ok (.iconst 0, 1) by decide +kernel) (by decide) ?_
    refine go_istore (show decode cX10_move 175 = .ok (.istore 9, 2) by decide +kernel) (by decide) ?_
    show Go d MX10_move 177 [some (vR a0), some (vI a1), some (vI a2), some (vI a3), some (vI a4), some (vI a5), some (vI a6), some (vI a7), some (vI a8), some (vI 0), none, none, none, none] [] S F G Q
    exact h
def V_X10_move_73 (d : Nat) (S : AS) (F : AF) (G : AG) (Q : AQ) (a0 : Nat) (a1 : Int) (a2 : Int) (a3 : Int) (a4 : Int) (a5 : Int) (a6 : Int) (a7 : Int) : Prop :=
  (r32 (a2 + a6)) ∧
  (r32 (a3 + a7)) ∧
  (r32 (a4 + a6)) ∧
  (r32 (a5 + a7)) ∧
  (1 ≤ d) ∧
  (sK S a0 = 10) ∧
  Ok (d - 1) MX10_isRectangle [vR a0, vI (a2 + a6), vI (a3 + a7), vI (a4 + a6), vI (a5 + a7)] S F G (fun w6 S7 F8 G9 =>
  ∃ z11 : Int, w6 = some (vI z11) ∧
  ((¬ z11 = 0) →
    (sK S7 a0 = 10) ∧
    Ok (d - 1) MX10_wantsMoved [vR a0, vI 0, vI a2, vI a4, vI a6] S7 F8 G9 (fun w12 S13 F14 G15 =>
    w12 = none ∧
    (sK S13 a0 = 10) ∧
    Ok (d - 1) MX10_isRoom [vR a0, vI 0] S13 F14 G15 (fun w17 S18 F19 G20 =>
    ∃ z22 : Int, w17 = some (vI z22) ∧
    ((¬ z22 = 0) →
      (sK S18 a0 = 10) ∧
      Ok (d - 1) MX10_laysThen [vR a0, vI 0] S18 F19 G20 (fun w23 S24 F25 G26 =>
      w23 = none ∧
      (sK S24 a0 = 10) ∧
      Ok (d - 1) MX10_keepsAcross [vR a0] S24 F25 G26 (fun w28 S29 F30 G31 =>
      w28 = none ∧
      (sK S29 a0 = 10) ∧
      Ok (d - 1) MX10_wantsMoved [vR a0, vI 1, vI a3, vI a5, vI a7] S29 F30 G31 (fun w33 S34 F35 G36 =>
      w33 = none ∧
      (sK S34 a0 = 10) ∧
      Ok (d - 1) MX10_isRoom [vR a0, vI 1] S34 F35 G36 (fun w38 S39 F40 G41 =>
      ∃ z43 : Int, w38 = some (vI z43) ∧
      ((¬ z43 = 0) →
        (sK S39 a0 = 10) ∧
        Ok (d - 1) MX10_laysThen [vR a0, vI 1] S39 F40 G41 (fun w44 S45 F46 G47 =>
        w44 = none ∧
        Go d MX10_move 163 [some (vR a0), some (vI a1), some (vI a2), some (vI a3), some (vI a4), some (vI a5), some (vI a6), some (vI a7), some (vI 0), none, none, none, none, none] [] S45 F46 G47 Q)) ∧
      ((z43 = 0) →
        Q (some (vJ (-4))) S39 F40 G41)))))) ∧
    ((z22 = 0) →
      Q (some (vJ (-4))) S18 F19 G20)))) ∧
  ((z11 = 0) →
    Q (some (vJ (-2))) S7 F8 G9))
theorem R_X10_move_73 {d : Nat} {S : AS} {F : AF} {G : AG} {Q : AQ} {a0 : Nat} {a1 : Int} {a2 : Int} {a3 : Int} {a4 : Int} {a5 : Int} {a6 : Int} {a7 : Int} (h : V_X10_move_73 d S F G Q a0 a1 a2 a3 a4 a5 a6 a7) : Go d MX10_move 73 [some (vR a0), some (vI a1), some (vI a2), some (vI a3), some (vI a4), some (vI a5), some (vI a6), some (vI a7), none, none, none, none, none, none] [] S F G Q := by
  unfold V_X10_move_73 at h
  refine go_aload_n (show decode cX10_move 73 = .ok (.aload_n 0, 1) by decide +kernel) (by rfl) ?_
  refine go_iload_n (show decode cX10_move 74 = .ok (.iload_n 2, 1) by decide +kernel) (by rfl) ?_
  refine go_iload (show decode cX10_move 75 = .ok (.iload 6, 2) by decide +kernel) (by rfl) ?_
  obtain ⟨q1, h⟩ := h
  refine go_iadd (show decode cX10_move 77 = .ok (.iadd, 1) by decide +kernel) q1 ?_
  refine go_iload_n (show decode cX10_move 78 = .ok (.iload_n 3, 1) by decide +kernel) (by rfl) ?_
  refine go_iload (show decode cX10_move 79 = .ok (.iload 7, 2) by decide +kernel) (by rfl) ?_
  obtain ⟨q2, h⟩ := h
  refine go_iadd (show decode cX10_move 81 = .ok (.iadd, 1) by decide +kernel) q2 ?_
  refine go_iload (show decode cX10_move 82 = .ok (.iload 4, 2) by decide +kernel) (by rfl) ?_
  refine go_iload (show decode cX10_move 84 = .ok (.iload 6, 2) by decide +kernel) (by rfl) ?_
  obtain ⟨q3, h⟩ := h
  refine go_iadd (show decode cX10_move 86 = .ok (.iadd, 1) by decide +kernel) q3 ?_
  refine go_iload (show decode cX10_move 87 = .ok (.iload 5, 2) by decide +kernel) (by rfl) ?_
  refine go_iload (show decode cX10_move 89 = .ok (.iload 7, 2) by decide +kernel) (by rfl) ?_
  obtain ⟨q4, h⟩ := h
  refine go_iadd (show decode cX10_move 91 = .ok (.iadd, 1) by decide +kernel) q4 ?_
  obtain ⟨q5, h⟩ := h
  obtain ⟨q10, h⟩ := h
  refine go_callV (d2 := d - 1) (M2 := MX10_isRectangle) (n := 4) (ci := 10) (av := [vI (a2 + a6), vI (a3 + a7), vI (a4 + a6), vI (a5 + a7)]) (st := []) (show decode cX10_move 92 = .ok (.invokevirtual 170, 3) by decide +kernel) ml_X10_170 mt_X10_isRectangle min_X10_isRectangle mse_X10_isRectangle (by decide) q10 rfl (Nat.le_of_ble_eq_true rfl) (by omega) (ok_mono h (fun w6 S7 F8 G9 h => ?_))
  obtain ⟨z11, e9, h⟩ := h
  subst e9
  show Go d MX10_move 95 [some (vR a0), some (vI a1), some (vI a2), some (vI a3), some (vI a4), some (vI a5), some (vI a6), some (vI a7), none, none, none, none, none, none] [vI z11] S7 F8 G9 Q
  obtain ⟨ht, hf⟩ := h
  refine go_ifne (tgt := 102) (show decode cX10_move 95 = .ok (.ifCond .ne 7, 3) by decide +kernel) (by decide) (fun hc => ?_) (fun hc => ?_)
  · have h := ht hc
    refine go_aload_n (show decode cX10_move 102 = .ok (.aload_n 0, 1) by decide +kernel) (by rfl) ?_
    refine go_iconst (show decode cX10_move 103 = .ok (.iconst 0, 1) by decide +kernel) (by decide) ?_
    refine go_iload_n (show decode cX10_move 104 = .ok (.iload_n 2, 1) by decide +kernel) (by rfl) ?_
    refine go_iload (show decode cX10_move 105 = .ok (.iload 4, 2) by decide +kernel) (by rfl) ?_
    refine go_iload (show decode cX10_move 107 = .ok (.iload 6, 2) by decide +kernel) (by rfl) ?_
    obtain ⟨q16, h⟩ := h
    refine go_callV (d2 := d - 1) (M2 := MX10_wantsMoved) (n := 4) (ci := 10) (av := [vI 0, vI a2, vI a4, vI a6]) (st := []) (show decode cX10_move 109 = .ok (.invokevirtual 279, 3) by decide +kernel) ml_X10_279 mt_X10_wantsMoved min_X10_wantsMoved mse_X10_wantsMoved (by decide) q16 rfl (Nat.le_of_ble_eq_true rfl) (by omega) (ok_mono h (fun w12 S13 F14 G15 h => ?_))
    obtain ⟨e9, h⟩ := h
    subst e9
    show Go d MX10_move 112 [some (vR a0), some (vI a1), some (vI a2), some (vI a3), some (vI a4), some (vI a5), some (vI a6), some (vI a7), none, none, none, none, none, none] [] S13 F14 G15 Q
    refine go_aload_n (show decode cX10_move 112 = .ok (.aload_n 0, 1) by decide +kernel) (by rfl) ?_
    refine go_iconst (show decode cX10_move 113 = .ok (.iconst 0, 1) by decide +kernel) (by decide) ?_
    obtain ⟨q21, h⟩ := h
    refine go_callV (d2 := d - 1) (M2 := MX10_isRoom) (n := 1) (ci := 10) (av := [vI 0]) (st := []) (show decode cX10_move 114 = .ok (.invokevirtual 153, 3) by decide +kernel) ml_X10_153 mt_X10_isRoom min_X10_isRoom mse_X10_isRoom (by decide) q21 rfl (Nat.le_of_ble_eq_true rfl) (by omega) (ok_mono h (fun w17 S18 F19 G20 h => ?_))
    obtain ⟨z22, e9, h⟩ := h
    subst e9
    show Go d MX10_move 117 [some (vR a0), some (vI a1), some (vI a2), some (vI a3), some (vI a4), some (vI a5), some (vI a6), some (vI a7), none, none, none, none, none, none] [vI z22] S18 F19 G20 Q
    obtain ⟨ht, hf⟩ := h
    refine go_ifne (tgt := 124) (show decode cX10_move 117 = .ok (.ifCond .ne 7, 3) by decide +kernel) (by decide) (fun hc => ?_) (fun hc => ?_)
    · have h := ht hc
      refine go_aload_n (show decode cX10_move 124 = .ok (.aload_n 0, 1) by decide +kernel) (by rfl) ?_
      refine go_iconst (show decode cX10_move 125 = .ok (.iconst 0, 1) by decide +kernel) (by decide) ?_
      obtain ⟨q27, h⟩ := h
      refine go_callV (d2 := d - 1) (M2 := MX10_laysThen) (n := 1) (ci := 10) (av := [vI 0]) (st := []) (show decode cX10_move 126 = .ok (.invokevirtual 282, 3) by decide +kernel) ml_X10_282 mt_X10_laysThen min_X10_laysThen mse_X10_laysThen (by decide) q27 rfl (Nat.le_of_ble_eq_true rfl) (by omega) (ok_mono h (fun w23 S24 F25 G26 h => ?_))
      obtain ⟨e9, h⟩ := h
      subst e9
      show Go d MX10_move 129 [some (vR a0), some (vI a1), some (vI a2), some (vI a3), some (vI a4), some (vI a5), some (vI a6), some (vI a7), none, none, none, none, none, none] [] S24 F25 G26 Q
      refine go_aload_n (show decode cX10_move 129 = .ok (.aload_n 0, 1) by decide +kernel) (by rfl) ?_
      obtain ⟨q32, h⟩ := h
      refine go_callV (d2 := d - 1) (M2 := MX10_keepsAcross) (n := 0) (ci := 10) (av := []) (st := []) (show decode cX10_move 130 = .ok (.invokevirtual 286, 3) by decide +kernel) ml_X10_286 mt_X10_keepsAcross min_X10_keepsAcross mse_X10_keepsAcross (by decide) q32 rfl (Nat.le_of_ble_eq_true rfl) (by omega) (ok_mono h (fun w28 S29 F30 G31 h => ?_))
      obtain ⟨e9, h⟩ := h
      subst e9
      show Go d MX10_move 133 [some (vR a0), some (vI a1), some (vI a2), some (vI a3), some (vI a4), some (vI a5), some (vI a6), some (vI a7), none, none, none, none, none, none] [] S29 F30 G31 Q
      refine go_aload_n (show decode cX10_move 133 = .ok (.aload_n 0, 1) by decide +kernel) (by rfl) ?_
      refine go_iconst (show decode cX10_move 134 = .ok (.iconst 1, 1) by decide +kernel) (by decide) ?_
      refine go_iload_n (show decode cX10_move 135 = .ok (.iload_n 3, 1) by decide +kernel) (by rfl) ?_
      refine go_iload (show decode cX10_move 136 = .ok (.iload 5, 2) by decide +kernel) (by rfl) ?_
      refine go_iload (show decode cX10_move 138 = .ok (.iload 7, 2) by decide +kernel) (by rfl) ?_
      obtain ⟨q37, h⟩ := h
      refine go_callV (d2 := d - 1) (M2 := MX10_wantsMoved) (n := 4) (ci := 10) (av := [vI 1, vI a3, vI a5, vI a7]) (st := []) (show decode cX10_move 140 = .ok (.invokevirtual 279, 3) by decide +kernel) ml_X10_279 mt_X10_wantsMoved min_X10_wantsMoved mse_X10_wantsMoved (by decide) q37 rfl (Nat.le_of_ble_eq_true rfl) (by omega) (ok_mono h (fun w33 S34 F35 G36 h => ?_))
      obtain ⟨e9, h⟩ := h
      subst e9
      show Go d MX10_move 143 [some (vR a0), some (vI a1), some (vI a2), some (vI a3), some (vI a4), some (vI a5), some (vI a6), some (vI a7), none, none, none, none, none, none] [] S34 F35 G36 Q
      refine go_aload_n (show decode cX10_move 143 = .ok (.aload_n 0, 1) by decide +kernel) (by rfl) ?_
      refine go_iconst (show decode cX10_move 144 = .ok (.iconst 1, 1) by decide +kernel) (by decide) ?_
      obtain ⟨q42, h⟩ := h
      refine go_callV (d2 := d - 1) (M2 := MX10_isRoom) (n := 1) (ci := 10) (av := [vI 1]) (st := []) (show decode cX10_move 145 = .ok (.invokevirtual 153, 3) by decide +kernel) ml_X10_153 mt_X10_isRoom min_X10_isRoom mse_X10_isRoom (by decide) q42 rfl (Nat.le_of_ble_eq_true rfl) (by omega) (ok_mono h (fun w38 S39 F40 G41 h => ?_))
      obtain ⟨z43, e9, h⟩ := h
      subst e9
      show Go d MX10_move 148 [some (vR a0), some (vI a1), some (vI a2), some (vI a3), some (vI a4), some (vI a5), some (vI a6), some (vI a7), none, none, none, none, none, none] [vI z43] S39 F40 G41 Q
      obtain ⟨ht, hf⟩ := h
      refine go_ifne (tgt := 155) (show decode cX10_move 148 = .ok (.ifCond .ne 7, 3) by decide +kernel) (by decide) (fun hc => ?_) (fun hc => ?_)
      · have h := ht hc
        refine go_aload_n (show decode cX10_move 155 = .ok (.aload_n 0, 1) by decide +kernel) (by rfl) ?_
        refine go_iconst (show decode cX10_move 156 = .ok (.iconst 1, 1) by decide +kernel) (by decide) ?_
        obtain ⟨q48, h⟩ := h
        refine go_callV (d2 := d - 1) (M2 := MX10_laysThen) (n := 1) (ci := 10) (av := [vI 1]) (st := []) (show decode cX10_move 157 = .ok (.invokevirtual 282, 3) by decide +kernel) ml_X10_282 mt_X10_laysThen min_X10_laysThen mse_X10_laysThen (by decide) q48 rfl (Nat.le_of_ble_eq_true rfl) (by omega) (ok_mono h (fun w44 S45 F46 G47 h => ?_))
        obtain ⟨e9, h⟩ := h
        subst e9
        show Go d MX10_move 160 [some (vR a0), some (vI a1), some (vI a2), some (vI a3), some (vI a4), some (vI a5), some (vI a6), some (vI a7), none, none, none, none, none, none] [] S45 F46 G47 Q
        refine go_iconst (show decode cX10_move 160 = .ok (.iconst 0, 1) by decide +kernel) (by decide) ?_
        refine go_istore (show decode cX10_move 161 = .ok (.istore 8, 2) by decide +kernel) (by decide) ?_
        show Go d MX10_move 163 [some (vR a0), some (vI a1), some (vI a2), some (vI a3), some (vI a4), some (vI a5), some (vI a6), some (vI a7), some (vI 0), none, none, none, none, none] [] S45 F46 G47 Q
        exact h
      · have h := hf hc
        refine go_ldc2 (show decode cX10_move 151 = .ok (.ldc2_w 205, 3) by decide +kernel) lc_X10_205 (by decide) ?_
        exact go_lret (show decode cX10_move 154 = .ok (.lreturn, 1) by decide +kernel) rfl h
    · have h := hf hc
      refine go_ldc2 (show decode cX10_move 120 = .ok (.ldc2_w 205, 3) by decide +kernel) lc_X10_205 (by decide) ?_
      exact go_lret (show decode cX10_move 123 = .ok (.lreturn, 1) by decide +kernel) rfl h
  · have h := hf hc
    refine go_ldc2 (show decode cX10_move 98 = .ok (.ldc2_w 174, 3) by decide +kernel) lc_X10_174 (by decide) ?_
    exact go_lret (show decode cX10_move 101 = .ok (.lreturn, 1) by decide +kernel) rfl h
def V_X10_move_0 (d : Nat) (S : AS) (F : AF) (G : AG) (Q : AQ) (a0 : Nat) (a1 : Int) (a2 : Int) (a3 : Int) (a4 : Int) (a5 : Int) (a6 : Int) (a7 : Int) : Prop :=
  (sK S a0 = 10) ∧
  ∀ F2 : AF, F2 = fu F a0 0 0 →
  (1 ≤ d) ∧
  Ok (d - 1) MX10_isGood [vI a1] S F2 G (fun w4 S5 F6 G7 =>
  ∃ z8 : Int, w4 = some (vI z8) ∧
  ((z8 = 0) →
    Q (some (vJ (-2))) S5 F6 G7) ∧
  ((¬ z8 = 0) →
    (sK S5 a0 = 10) ∧
    Ok (d - 1) MX10_isRectangle [vR a0, vI a2, vI a3, vI a4, vI a5] S5 F6 G7 (fun w9 S10 F11 G12 =>
    ∃ z14 : Int, w9 = some (vI z14) ∧
    ((¬ z14 = 0) →
      Ok (d - 1) MX10_isIn [vJ a6, vJ (-9999), vJ 9999] S10 F11 G12 (fun w15 S16 F17 G18 =>
      ∃ z19 : Int, w15 = some (vI z19) ∧
      ((z19 = 0) →
        Q (some (vJ (-3))) S16 F17 G18) ∧
      ((¬ z19 = 0) →
        Ok (d - 1) MX10_isIn [vJ a7, vJ (-9999), vJ 9999] S16 F17 G18 (fun w20 S21 F22 G23 =>
        ∃ z24 : Int, w20 = some (vI z24) ∧
        ((z24 = 0) →
          Q (some (vJ (-3))) S21 F22 G23) ∧
        ((¬ z24 = 0) →
          ((¬ a6 = 0) →
            V_X10_move_73 d S21 F22 G23 Q a0 a1 a2 a3 a4 a5 a6 a7) ∧
          ((a6 = 0) →
            ((¬ a7 = 0) →
              V_X10_move_73 d S21 F22 G23 Q a0 a1 a2 a3 a4 a5 a6 a7) ∧
            ((a7 = 0) →
              Q (some (vJ (-3))) S21 F22 G23))))))) ∧
    ((z14 = 0) →
      Q (some (vJ (-2))) S10 F11 G12))))
theorem R_X10_move_0 {d : Nat} {S : AS} {F : AF} {G : AG} {Q : AQ} {a0 : Nat} {a1 : Int} {a2 : Int} {a3 : Int} {a4 : Int} {a5 : Int} {a6 : Int} {a7 : Int} (h : V_X10_move_0 d S F G Q a0 a1 a2 a3 a4 a5 a6 a7) : Go d MX10_move 0 [some (vR a0), some (vI a1), some (vI a2), some (vI a3), some (vI a4), some (vI a5), some (vI a6), some (vI a7), none, none, none, none, none, none] [] S F G Q := by
  unfold V_X10_move_0 at h
  refine go_aload_n (show decode cX10_move 0 = .ok (.aload_n 0, 1) by decide +kernel) (by rfl) ?_
  refine go_iconst (show decode cX10_move 1 = .ok (.iconst 0, 1) by decide +kernel) (by decide) ?_
  obtain ⟨q1, h⟩ := h
  refine go_putI (show decode cX10_move 2 = .ok (.putfield 1, 3) by decide +kernel) fl_X10_1 rfl (Or.inl rfl) q1 ?_
  obtain ⟨F2, F2e⟩ : ∃ F2 : AF, F2 = fu F a0 0 0 := ⟨_, rfl⟩
  have h := h F2 F2e
  rw [← F2e]
  refine go_iload_n (show decode cX10_move 5 = .ok (.iload_n 1, 1) by decide +kernel) (by rfl) ?_
  obtain ⟨q3, h⟩ := h
  refine go_callS (d2 := d - 1) (M2 := MX10_isGood) (n := 1) (av := [vI a1]) (st := []) (show decode cX10_move 6 = .ok (.invokestatic 167, 3) by decide +kernel) ml_X10_167 mt_X10_isGood mst_X10_isGood rfl (Nat.le_of_ble_eq_true rfl) (by omega) (ok_mono h (fun w4 S5 F6 G7 h => ?_))
  obtain ⟨z8, e9, h⟩ := h
  subst e9
  show Go d MX10_move 9 [some (vR a0), some (vI a1), some (vI a2), some (vI a3), some (vI a4), some (vI a5), some (vI a6), some (vI a7), none, none, none, none, none, none] [vI z8] S5 F6 G7 Q
  obtain ⟨ht, hf⟩ := h
  refine go_ifeq (tgt := 25) (show decode cX10_move 9 = .ok (.ifCond .eq 16, 3) by decide +kernel) (by decide) (fun hc => ?_) (fun hc => ?_)
  · have h := ht hc
    refine go_ldc2 (show decode cX10_move 25 = .ok (.ldc2_w 174, 3) by decide +kernel) lc_X10_174 (by decide) ?_
    exact go_lret (show decode cX10_move 28 = .ok (.lreturn, 1) by decide +kernel) rfl h
  · have h := hf hc
    refine go_aload_n (show decode cX10_move 12 = .ok (.aload_n 0, 1) by decide +kernel) (by rfl) ?_
    refine go_iload_n (show decode cX10_move 13 = .ok (.iload_n 2, 1) by decide +kernel) (by rfl) ?_
    refine go_iload_n (show decode cX10_move 14 = .ok (.iload_n 3, 1) by decide +kernel) (by rfl) ?_
    refine go_iload (show decode cX10_move 15 = .ok (.iload 4, 2) by decide +kernel) (by rfl) ?_
    refine go_iload (show decode cX10_move 17 = .ok (.iload 5, 2) by decide +kernel) (by rfl) ?_
    obtain ⟨q13, h⟩ := h
    refine go_callV (d2 := d - 1) (M2 := MX10_isRectangle) (n := 4) (ci := 10) (av := [vI a2, vI a3, vI a4, vI a5]) (st := []) (show decode cX10_move 19 = .ok (.invokevirtual 170, 3) by decide +kernel) ml_X10_170 mt_X10_isRectangle min_X10_isRectangle mse_X10_isRectangle (by decide) q13 rfl (Nat.le_of_ble_eq_true rfl) (by omega) (ok_mono h (fun w9 S10 F11 G12 h => ?_))
    obtain ⟨z14, e9, h⟩ := h
    subst e9
    show Go d MX10_move 22 [some (vR a0), some (vI a1), some (vI a2), some (vI a3), some (vI a4), some (vI a5), some (vI a6), some (vI a7), none, none, none, none, none, none] [vI z14] S10 F11 G12 Q
    obtain ⟨ht, hf⟩ := h
    refine go_ifne (tgt := 29) (show decode cX10_move 22 = .ok (.ifCond .ne 7, 3) by decide +kernel) (by decide) (fun hc => ?_) (fun hc => ?_)
    · have h := ht hc
      refine go_iload (show decode cX10_move 29 = .ok (.iload 6, 2) by decide +kernel) (by rfl) ?_
      refine go_i2l (show decode cX10_move 31 = .ok (.i2l, 1) by decide +kernel) ?_
      refine go_ldc2 (show decode cX10_move 32 = .ok (.ldc2_w 275, 3) by decide +kernel) lc_X10_275 (by decide) ?_
      refine go_ldc2 (show decode cX10_move 35 = .ok (.ldc2_w 277, 3) by decide +kernel) lc_X10_277 (by decide) ?_
      refine go_callS (d2 := d - 1) (M2 := MX10_isIn) (n := 3) (av := [vJ a6, vJ (-9999), vJ 9999]) (st := []) (show decode cX10_move 38 = .ok (.invokestatic 116, 3) by decide +kernel) ml_X10_116 mt_X10_isIn mst_X10_isIn rfl (Nat.le_of_ble_eq_true rfl) (by omega) (ok_mono h (fun w15 S16 F17 G18 h => ?_))
      obtain ⟨z19, e9, h⟩ := h
      subst e9
      show Go d MX10_move 41 [some (vR a0), some (vI a1), some (vI a2), some (vI a3), some (vI a4), some (vI a5), some (vI a6), some (vI a7), none, none, none, none, none, none] [vI z19] S16 F17 G18 Q
      obtain ⟨ht, hf⟩ := h
      refine go_ifeq (tgt := 69) (show decode cX10_move 41 = .ok (.ifCond .eq 28, 3) by decide +kernel) (by decide) (fun hc => ?_) (fun hc => ?_)
      · have h := ht hc
        refine go_ldc2 (show decode cX10_move 69 = .ok (.ldc2_w 120, 3) by decide +kernel) lc_X10_120 (by decide) ?_
        exact go_lret (show decode cX10_move 72 = .ok (.lreturn, 1) by decide +kernel) rfl h
      · have h := hf hc
        refine go_iload (show decode cX10_move 44 = .ok (.iload 7, 2) by decide +kernel) (by rfl) ?_
        refine go_i2l (show decode cX10_move 46 = .ok (.i2l, 1) by decide +kernel) ?_
        refine go_ldc2 (show decode cX10_move 47 = .ok (.ldc2_w 275, 3) by decide +kernel) lc_X10_275 (by decide) ?_
        refine go_ldc2 (show decode cX10_move 50 = .ok (.ldc2_w 277, 3) by decide +kernel) lc_X10_277 (by decide) ?_
        refine go_callS (d2 := d - 1) (M2 := MX10_isIn) (n := 3) (av := [vJ a7, vJ (-9999), vJ 9999]) (st := []) (show decode cX10_move 53 = .ok (.invokestatic 116, 3) by decide +kernel) ml_X10_116 mt_X10_isIn mst_X10_isIn rfl (Nat.le_of_ble_eq_true rfl) (by omega) (ok_mono h (fun w20 S21 F22 G23 h => ?_))
        obtain ⟨z24, e9, h⟩ := h
        subst e9
        show Go d MX10_move 56 [some (vR a0), some (vI a1), some (vI a2), some (vI a3), some (vI a4), some (vI a5), some (vI a6), some (vI a7), none, none, none, none, none, none] [vI z24] S21 F22 G23 Q
        obtain ⟨ht, hf⟩ := h
        refine go_ifeq (tgt := 69) (show decode cX10_move 56 = .ok (.ifCond .eq 13, 3) by decide +kernel) (by decide) (fun hc => ?_) (fun hc => ?_)
        · have h := ht hc
          refine go_ldc2 (show decode cX10_move 69 = .ok (.ldc2_w 120, 3) by decide +kernel) lc_X10_120 (by decide) ?_
          exact go_lret (show decode cX10_move 72 = .ok (.lreturn, 1) by decide +kernel) rfl h
        · have h := hf hc
          refine go_iload (show decode cX10_move 59 = .ok (.iload 6, 2) by decide +kernel) (by rfl) ?_
          obtain ⟨ht, hf⟩ := h
          refine go_ifne (tgt := 73) (show decode cX10_move 61 = .ok (.ifCond .ne 12, 3) by decide +kernel) (by decide) (fun hc => ?_) (fun hc => ?_)
          · have h := ht hc
            exact R_X10_move_73 h
          · have h := hf hc
            refine go_iload (show decode cX10_move 64 = .ok (.iload 7, 2) by decide +kernel) (by rfl) ?_
            obtain ⟨ht, hf⟩ := h
            refine go_ifne (tgt := 73) (show decode cX10_move 66 = .ok (.ifCond .ne 7, 3) by decide +kernel) (by decide) (fun hc => ?_) (fun hc => ?_)
            · have h := ht hc
              exact R_X10_move_73 h
            · have h := hf hc
              refine go_ldc2 (show decode cX10_move 69 = .ok (.ldc2_w 120, 3) by decide +kernel) lc_X10_120 (by decide) ?_
              exact go_lret (show decode cX10_move 72 = .ok (.lreturn, 1) by decide +kernel) rfl h
    · have h := hf hc
      refine go_ldc2 (show decode cX10_move 25 = .ok (.ldc2_w 174, 3) by decide +kernel) lc_X10_174 (by decide) ?_
      exact go_lret (show decode cX10_move 28 = .ok (.lreturn, 1) by decide +kernel) rfl h
