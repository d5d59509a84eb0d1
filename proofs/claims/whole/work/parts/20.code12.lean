set_option maxHeartbeats 4000000 in
set_option maxRecDepth 50000 in
def V_law_2110 (d : Nat) (S : AS) (F : AF) (G : AG) (Q : AQ) (a1 : Nat) (a2 : Nat) (a3 : Int) : Prop :=
  (r32 (a3 + 8)) ∧
  Go d Mlaw 18 [some (vR 999999), some (vR a1), some (vR a2), some (vI (a3 + 8))] [] S F G Q
set_option maxHeartbeats 4000000 in
set_option maxRecDepth 50000 in
theorem R_law_2110 {d : Nat} {S : AS} {F : AF} {G : AG} {Q : AQ} {a1 : Nat} {a2 : Nat} {a3 : Int} (h : V_law_2110 d S F G Q a1 a2 a3) : Go d Mlaw 2110 [some (vR 999999), some (vR a1), some (vR a2), some (vI a3)] [] S F G Q := by
  unfold V_law_2110 at h
  obtain ⟨q1, h⟩ := h
  refine go_iinc (show decode code 2110 = .ok (.iinc 3 8, 3) by decide +kernel) (by rfl) q1 (by decide) ?_
  show Go d Mlaw 2113 [some (vR 999999), some (vR a1), some (vR a2), some (vI (a3 + 8))] [] S F G Q
  refine go_goto (tgt := 18) (show decode code 2113 = .ok (.goto (-2095), 3) by decide +kernel) (by decide) ?_
  exact h
set_option maxHeartbeats 4000000 in
set_option maxRecDepth 50000 in
def V_law_2086 (d : Nat) (S : AS) (F : AF) (G : AG) (Q : AQ) (a1 : Nat) (a2 : Nat) (a3 : Int) : Prop :=
  (r32 (a3 + 1)) ∧
  ((0 : Int) ≤ a3 + 1) ∧
  ((a3 + 1 : Int) < (sL S : Int)) ∧
  (1 ≤ d) ∧
  (sK S a1 = 9) ∧
  Ok (d - 1) MX9_count [vR a1, vI (sx S (a3 + 1))] S F G (fun w5 S6 F7 G8 =>
  ∃ z10 : Int, w5 = some (vJ z10) ∧
  (r32 (a3 + 1)) ∧
  ((0 : Int) ≤ a3 + 1) ∧
  ((a3 + 1 : Int) < (sL S6 : Int)) ∧
  (sK S6 a2 = 10) ∧
  Ok (d - 1) MX10_count [vR a2, vI (sx S6 (a3 + 1))] S6 F7 G8 (fun w14 S15 F16 G17 =>
  ∃ z19 : Int, w14 = some (vJ z19) ∧
  ((z10 = z19) →
    V_law_2110 d S15 F16 G17 Q a1 a2 a3) ∧
  ((¬ z10 = z19) →
    Q (some (vI 0)) S15 F16 G17)))
set_option maxHeartbeats 4000000 in
set_option maxRecDepth 50000 in
theorem R_law_2086 {d : Nat} {S : AS} {F : AF} {G : AG} {Q : AQ} {a1 : Nat} {a2 : Nat} {a3 : Int} (h : V_law_2086 d S F G Q a1 a2 a3) : Go d Mlaw 2086 [some (vR 999999), some (vR a1), some (vR a2), some (vI a3)] [] S F G Q := by
  unfold V_law_2086 at h
  refine go_aload_n (show decode code 2086 = .ok (.aload_n 1, 1) by decide +kernel) (by rfl) ?_
  refine go_aload_n (show decode code 2087 = .ok (.aload_n 0, 1) by decide +kernel) (by rfl) ?_
  refine go_iload_n (show decode code 2088 = .ok (.iload_n 3, 1) by decide +kernel) (by rfl) ?_
  refine go_iconst (show decode code 2089 = .ok (.iconst 1, 1) by decide +kernel) (by decide) ?_
  obtain ⟨q1, h⟩ := h
  refine go_iadd (show decode code 2090 = .ok (.iadd, 1) by decide +kernel) q1 ?_
  obtain ⟨q2, h⟩ := h
  obtain ⟨q3, h⟩ := h
  refine go_scrld (show decode code 2091 = .ok (.iaload, 1) by decide +kernel) rfl q2 q3 ?_
  obtain ⟨q4, h⟩ := h
  obtain ⟨q9, h⟩ := h
  refine go_callV (d2 := d - 1) (M2 := MX9_count) (n := 1) (ci := 9) (av := [vI (sx S (a3 + 1))]) (st := []) (show decode code 2092 = .ok (.invokevirtual 156, 3) by decide +kernel) ml_L_156 mt_X9_count min_X9_count mse_X9_count (by decide) q9 rfl (Nat.le_of_ble_eq_true rfl) (by omega) (ok_mono h (fun w5 S6 F7 G8 h => ?_))
  obtain ⟨z10, e9, h⟩ := h
  subst e9
  show Go d Mlaw 2095 [some (vR 999999), some (vR a1), some (vR a2), some (vI a3)] [vJ z10] S6 F7 G8 Q
  refine go_aload_n (show decode code 2095 = .ok (.aload_n 2, 1) by decide +kernel) (by rfl) ?_
  refine go_aload_n (show decode code 2096 = .ok (.aload_n 0, 1) by decide +kernel) (by rfl) ?_
  refine go_iload_n (show decode code 2097 = .ok (.iload_n 3, 1) by decide +kernel) (by rfl) ?_
  refine go_iconst (show decode code 2098 = .ok (.iconst 1, 1) by decide +kernel) (by decide) ?_
  obtain ⟨q11, h⟩ := h
  refine go_iadd (show decode code 2099 = .ok (.iadd, 1) by decide +kernel) q11 ?_
  obtain ⟨q12, h⟩ := h
  obtain ⟨q13, h⟩ := h
  refine go_scrld (show decode code 2100 = .ok (.iaload, 1) by decide +kernel) rfl q12 q13 ?_
  obtain ⟨q18, h⟩ := h
  refine go_callV (d2 := d - 1) (M2 := MX10_count) (n := 1) (ci := 10) (av := [vI (sx S6 (a3 + 1))]) (st := [vJ z10]) (show decode code 2101 = .ok (.invokevirtual 159, 3) by decide +kernel) ml_L_159 mt_X10_count min_X10_count mse_X10_count (by decide) q18 rfl (Nat.le_of_ble_eq_true rfl) (by omega) (ok_mono h (fun w14 S15 F16 G17 h => ?_))
  obtain ⟨z19, e9, h⟩ := h
  subst e9
  show Go d Mlaw 2104 [some (vR 999999), some (vR a1), some (vR a2), some (vI a3)] [vJ z19, vJ z10] S15 F16 G17 Q
  obtain ⟨ht, hf⟩ := h
  refine go_jeq (tgt := 2110) (show decode code 2104 = .ok (.lcmp, 1) by decide +kernel) (show decode code 2105 = .ok (.ifCond .eq 5, 3) by decide +kernel) (by decide) (fun hc => ?_) (fun hc => ?_)
  · have h := ht hc
    exact R_law_2110 h
  · have h := hf hc
    refine go_iconst (show decode code 2108 = .ok (.iconst 0, 1) by decide +kernel) (by decide) ?_
    exact go_zret (show decode code 2109 = .ok (.ireturn, 1) by decide +kernel) rfl (by decide) h
set_option maxHeartbeats 4000000 in
set_option maxRecDepth 50000 in
def V_law_2052 (d : Nat) (S : AS) (F : AF) (G : AG) (Q : AQ) (a1 : Nat) (a2 : Nat) (a3 : Int) : Prop :=
  (r32 (a3 + 1)) ∧
  ((0 : Int) ≤ a3 + 1) ∧
  ((a3 + 1 : Int) < (sL S : Int)) ∧
  (r32 (a3 + 2)) ∧
  ((0 : Int) ≤ a3 + 2) ∧
  ((a3 + 2 : Int) < (sL S : Int)) ∧
  (1 ≤ d) ∧
  (sK S a1 = 9) ∧
  Ok (d - 1) MX9_act [vR a1, vI (sx S (a3 + 1)), vI (sx S (a3 + 2))] S F G (fun w8 S9 F10 G11 =>
  ∃ z13 : Int, w8 = some (vJ z13) ∧
  (r32 (a3 + 1)) ∧
  ((0 : Int) ≤ a3 + 1) ∧
  ((a3 + 1 : Int) < (sL S9 : Int)) ∧
  (r32 (a3 + 2)) ∧
  ((0 : Int) ≤ a3 + 2) ∧
  ((a3 + 2 : Int) < (sL S9 : Int)) ∧
  (sK S9 a2 = 10) ∧
  Ok (d - 1) MX10_act [vR a2, vI (sx S9 (a3 + 1)), vI (sx S9 (a3 + 2))] S9 F10 G11 (fun w20 S21 F22 G23 =>
  ∃ z25 : Int, w20 = some (vJ z25) ∧
  ((z13 = z25) →
    V_law_2110 d S21 F22 G23 Q a1 a2 a3) ∧
  ((¬ z13 = z25) →
    Q (some (vI 0)) S21 F22 G23)))
set_option maxHeartbeats 4000000 in
set_option maxRecDepth 50000 in
theorem R_law_2052 {d : Nat} {S : AS} {F : AF} {G : AG} {Q : AQ} {a1 : Nat} {a2 : Nat} {a3 : Int} (h : V_law_2052 d S F G Q a1 a2 a3) : Go d Mlaw 2052 [some (vR 999999), some (vR a1), some (vR a2), some (vI a3)] [] S F G Q := by
  unfold V_law_2052 at h
  refine go_aload_n (show decode code 2052 = .ok (.aload_n 1, 1) by decide +kernel) (by rfl) ?_
  refine go_aload_n (show decode code 2053 = .ok (.aload_n 0, 1) by decide +kernel) (by rfl) ?_
  refine go_iload_n (show decode code 2054 = .ok (.iload_n 3, 1) by decide +kernel) (by rfl) ?_
  refine go_iconst (show decode code 2055 = .ok (.iconst 1, 1) by decide +kernel) (by decide) ?_
  obtain ⟨q1, h⟩ := h
  refine go_iadd (show decode code 2056 = .ok (.iadd, 1) by decide +kernel) q1 ?_
  obtain ⟨q2, h⟩ := h
  obtain ⟨q3, h⟩ := h
  refine go_scrld (show decode code 2057 = .ok (.iaload, 1) by decide +kernel) rfl q2 q3 ?_
  refine go_aload_n (show decode code 2058 = .ok (.aload_n 0, 1) by decide +kernel) (by rfl) ?_
  refine go_iload_n (show decode code 2059 = .ok (.iload_n 3, 1) by decide +kernel) (by rfl) ?_
  refine go_iconst (show decode code 2060 = .ok (.iconst 2, 1) by decide +kernel) (by decide) ?_
  obtain ⟨q4, h⟩ := h
  refine go_iadd (show decode code 2061 = .ok (.iadd, 1) by decide +kernel) q4 ?_
  obtain ⟨q5, h⟩ := h
  obtain ⟨q6, h⟩ := h
  refine go_scrld (show decode code 2062 = .ok (.iaload, 1) by decide +kernel) rfl q5 q6 ?_
  obtain ⟨q7, h⟩ := h
  obtain ⟨q12, h⟩ := h
  refine go_callV (d2 := d - 1) (M2 := MX9_act) (n := 2) (ci := 9) (av := [vI (sx S (a3 + 1)), vI (sx S (a3 + 2))]) (st := []) (show decode code 2063 = .ok (.invokevirtual 152, 3) by decide +kernel) ml_L_152 mt_X9_act min_X9_act mse_X9_act (by decide) q12 rfl (Nat.le_of_ble_eq_true rfl) (by omega) (ok_mono h (fun w8 S9 F10 G11 h => ?_))
  obtain ⟨z13, e9, h⟩ := h
  subst e9
  show Go d Mlaw 2066 [some (vR 999999), some (vR a1), some (vR a2), some (vI a3)] [vJ z13] S9 F10 G11 Q
  refine go_aload_n (show decode code 2066 = .ok (.aload_n 2, 1) by decide +kernel) (by rfl) ?_
  refine go_aload_n (show decode code 2067 = .ok (.aload_n 0, 1) by decide +kernel) (by rfl) ?_
  refine go_iload_n (show decode code 2068 = .ok (.iload_n 3, 1) by decide +kernel) (by rfl) ?_
  refine go_iconst (show decode code 2069 = .ok (.iconst 1, 1) by decide +kernel) (by decide) ?_
  obtain ⟨q14, h⟩ := h
  refine go_iadd (show decode code 2070 = .ok (.iadd, 1) by decide +kernel) q14 ?_
  obtain ⟨q15, h⟩ := h
  obtain ⟨q16, h⟩ := h
  refine go_scrld (show decode code 2071 = .ok (.iaload, 1) by decide +kernel) rfl q15 q16 ?_
  refine go_aload_n (show decode code 2072 = .ok (.aload_n 0, 1) by decide +kernel) (by rfl) ?_
  refine go_iload_n (show decode code 2073 = .ok (.iload_n 3, 1) by decide +kernel) (by rfl) ?_
  refine go_iconst (show decode code 2074 = .ok (.iconst 2, 1) by decide +kernel) (by decide) ?_
  obtain ⟨q17, h⟩ := h
  refine go_iadd (show decode code 2075 = .ok (.iadd, 1) by decide +kernel) q17 ?_
  obtain ⟨q18, h⟩ := h
  obtain ⟨q19, h⟩ := h
  refine go_scrld (show decode code 2076 = .ok (.iaload, 1) by decide +kernel) rfl q18 q19 ?_
  obtain ⟨q24, h⟩ := h
  refine go_callV (d2 := d - 1) (M2 := MX10_act) (n := 2) (ci := 10) (av := [vI (sx S9 (a3 + 1)), vI (sx S9 (a3 + 2))]) (st := [vJ z13]) (show decode code 2077 = .ok (.invokevirtual 155, 3) by decide +kernel) ml_L_155 mt_X10_act min_X10_act mse_X10_act (by decide) q24 rfl (Nat.le_of_ble_eq_true rfl) (by omega) (ok_mono h (fun w20 S21 F22 G23 h => ?_))
  obtain ⟨z25, e9, h⟩ := h
  subst e9
  show Go d Mlaw 2080 [some (vR 999999), some (vR a1), some (vR a2), some (vI a3)] [vJ z25, vJ z13] S21 F22 G23 Q
  obtain ⟨ht, hf⟩ := h
  refine go_jeq (tgt := 2110) (show decode code 2080 = .ok (.lcmp, 1) by decide +kernel) (show decode code 2081 = .ok (.ifCond .eq 29, 3) by decide +kernel) (by decide) (fun hc => ?_) (fun hc => ?_)
  · have h := ht hc
    exact R_law_2110 h
  · have h := hf hc
    refine go_iconst (show decode code 2084 = .ok (.iconst 0, 1) by decide +kernel) (by decide) ?_
    exact go_zret (show decode code 2085 = .ok (.ireturn, 1) by decide +kernel) rfl (by decide) h
set_option maxHeartbeats 4000000 in
set_option maxRecDepth 50000 in
def V_law_2019 (d : Nat) (S : AS) (F : AF) (G : AG) (Q : AQ) (a1 : Nat) (a2 : Nat) (a3 : Int) : Prop :=
  (r32 (a3 + 1)) ∧
  ((0 : Int) ≤ a3 + 1) ∧
  ((a3 + 1 : Int) < (sL S : Int)) ∧
  (r32 (a3 + 2)) ∧
  ((0 : Int) ≤ a3 + 2) ∧
  ((a3 + 2 : Int) < (sL S : Int)) ∧
  (1 ≤ d) ∧
  (sK S a1 = 9) ∧
  Ok (d - 1) MX9_border [vR a1, vI (sx S (a3 + 1)), vI (sx S (a3 + 2))] S F G (fun w8 S9 F10 G11 =>
  ∃ z13 : Int, w8 = some (vI z13) ∧
  (r32 (a3 + 1)) ∧
  ((0 : Int) ≤ a3 + 1) ∧
  ((a3 + 1 : Int) < (sL S9 : Int)) ∧
  (r32 (a3 + 2)) ∧
  ((0 : Int) ≤ a3 + 2) ∧
  ((a3 + 2 : Int) < (sL S9 : Int)) ∧
  (sK S9 a2 = 10) ∧
  Ok (d - 1) MX10_border [vR a2, vI (sx S9 (a3 + 1)), vI (sx S9 (a3 + 2))] S9 F10 G11 (fun w20 S21 F22 G23 =>
  ∃ z25 : Int, w20 = some (vI z25) ∧
  ((z13 = z25) →
    V_law_2110 d S21 F22 G23 Q a1 a2 a3) ∧
  ((¬ z13 = z25) →
    Q (some (vI 0)) S21 F22 G23)))
set_option maxHeartbeats 4000000 in
set_option maxRecDepth 50000 in
theorem R_law_2019 {d : Nat} {S : AS} {F : AF} {G : AG} {Q : AQ} {a1 : Nat} {a2 : Nat} {a3 : Int} (h : V_law_2019 d S F G Q a1 a2 a3) : Go d Mlaw 2019 [some (vR 999999), some (vR a1), some (vR a2), some (vI a3)] [] S F G Q := by
  unfold V_law_2019 at h
  refine go_aload_n (show decode code 2019 = .ok (.aload_n 1, 1) by decide +kernel) (by rfl) ?_
  refine go_aload_n (show decode code 2020 = .ok (.aload_n 0, 1) by decide +kernel) (by rfl) ?_
  refine go_iload_n (show decode code 2021 = .ok (.iload_n 3, 1) by decide +kernel) (by rfl) ?_
  refine go_iconst (show decode code 2022 = .ok (.iconst 1, 1) by decide +kernel) (by decide) ?_
  obtain ⟨q1, h⟩ := h
  refine go_iadd (show decode code 2023 = .ok (.iadd, 1) by decide +kernel) q1 ?_
  obtain ⟨q2, h⟩ := h
  obtain ⟨q3, h⟩ := h
  refine go_scrld (show decode code 2024 = .ok (.iaload, 1) by decide +kernel) rfl q2 q3 ?_
  refine go_aload_n (show decode code 2025 = .ok (.aload_n 0, 1) by decide +kernel) (by rfl) ?_
  refine go_iload_n (show decode code 2026 = .ok (.iload_n 3, 1) by decide +kernel) (by rfl) ?_
  refine go_iconst (show decode code 2027 = .ok (.iconst 2, 1) by decide +kernel) (by decide) ?_
  obtain ⟨q4, h⟩ := h
  refine go_iadd (show decode code 2028 = .ok (.iadd, 1) by decide +kernel) q4 ?_
  obtain ⟨q5, h⟩ := h
  obtain ⟨q6, h⟩ := h
  refine go_scrld (show decode code 2029 = .ok (.iaload, 1) by decide +kernel) rfl q5 q6 ?_
  obtain ⟨q7, h⟩ := h
  obtain ⟨q12, h⟩ := h
  refine go_callV (d2 := d - 1) (M2 := MX9_border) (n := 2) (ci := 9) (av := [vI (sx S (a3 + 1)), vI (sx S (a3 + 2))]) (st := []) (show decode code 2030 = .ok (.invokevirtual 148, 3) by decide +kernel) ml_L_148 mt_X9_border min_X9_border mse_X9_border (by decide) q12 rfl (Nat.le_of_ble_eq_true rfl) (by omega) (ok_mono h (fun w8 S9 F10 G11 h => ?_))
  obtain ⟨z13, e9, h⟩ := h
  subst e9
  show Go d Mlaw 2033 [some (vR 999999), some (vR a1), some (vR a2), some (vI a3)] [vI z13] S9 F10 G11 Q
  refine go_aload_n (show decode code 2033 = .ok (.aload_n 2, 1) by decide +kernel) (by rfl) ?_
  refine go_aload_n (show decode code 2034 = .ok (.aload_n 0, 1) by decide +kernel) (by rfl) ?_
  refine go_iload_n (show decode code 2035 = .ok (.iload_n 3, 1) by decide +kernel) (by rfl) ?_
  refine go_iconst (show decode code 2036 = .ok (.iconst 1, 1) by decide +kernel) (by decide) ?_
  obtain ⟨q14, h⟩ := h
  refine go_iadd (show decode code 2037 = .ok (.iadd, 1) by decide +kernel) q14 ?_
  obtain ⟨q15, h⟩ := h
  obtain ⟨q16, h⟩ := h
  refine go_scrld (show decode code 2038 = .ok (.iaload, 1) by decide +kernel) rfl q15 q16 ?_
  refine go_aload_n (show decode code 2039 = .ok (.aload_n 0, 1) by decide +kernel) (by rfl) ?_
  refine go_iload_n (show decode code 2040 = .ok (.iload_n 3, 1) by decide +kernel) (by rfl) ?_
  refine go_iconst (show decode code 2041 = .ok (.iconst 2, 1) by decide +kernel) (by decide) ?_
  obtain ⟨q17, h⟩ := h
  refine go_iadd (show decode code 2042 = .ok (.iadd, 1) by decide +kernel) q17 ?_
  obtain ⟨q18, h⟩ := h
  obtain ⟨q19, h⟩ := h
  refine go_scrld (show decode code 2043 = .ok (.iaload, 1) by decide +kernel) rfl q18 q19 ?_
  obtain ⟨q24, h⟩ := h
  refine go_callV (d2 := d - 1) (M2 := MX10_border) (n := 2) (ci := 10) (av := [vI (sx S9 (a3 + 1)), vI (sx S9 (a3 + 2))]) (st := [vI z13]) (show decode code 2044 = .ok (.invokevirtual 151, 3) by decide +kernel) ml_L_151 mt_X10_border min_X10_border mse_X10_border (by decide) q24 rfl (Nat.le_of_ble_eq_true rfl) (by omega) (ok_mono h (fun w20 S21 F22 G23 h => ?_))
  obtain ⟨z25, e9, h⟩ := h
  subst e9
  show Go d Mlaw 2047 [some (vR 999999), some (vR a1), some (vR a2), some (vI a3)] [vI z25, vI z13] S21 F22 G23 Q
  obtain ⟨ht, hf⟩ := h
  refine go_icmpeq (tgt := 2110) (show decode code 2047 = .ok (.if_icmp .eq 63, 3) by decide +kernel) (by decide) (fun hc => ?_) (fun hc => ?_)
  · have h := ht hc
    exact R_law_2110 h
  · have h := hf hc
    refine go_iconst (show decode code 2050 = .ok (.iconst 0, 1) by decide +kernel) (by decide) ?_
    exact go_zret (show decode code 2051 = .ok (.ireturn, 1) by decide +kernel) rfl (by decide) h
set_option maxHeartbeats 4000000 in
set_option maxRecDepth 50000 in
def V_law_1986 (d : Nat) (S : AS) (F : AF) (G : AG) (Q : AQ) (a1 : Nat) (a2 : Nat) (a3 : Int) : Prop :=
  (r32 (a3 + 1)) ∧
  ((0 : Int) ≤ a3 + 1) ∧
  ((a3 + 1 : Int) < (sL S : Int)) ∧
  (r32 (a3 + 2)) ∧
  ((0 : Int) ≤ a3 + 2) ∧
  ((a3 + 2 : Int) < (sL S : Int)) ∧
  (1 ≤ d) ∧
  (sK S a1 = 9) ∧
  Ok (d - 1) MX9_borders [vR a1, vI (sx S (a3 + 1)), vI (sx S (a3 + 2))] S F G (fun w8 S9 F10 G11 =>
  ∃ z13 : Int, w8 = some (vI z13) ∧
  (r32 (a3 + 1)) ∧
  ((0 : Int) ≤ a3 + 1) ∧
  ((a3 + 1 : Int) < (sL S9 : Int)) ∧
  (r32 (a3 + 2)) ∧
  ((0 : Int) ≤ a3 + 2) ∧
  ((a3 + 2 : Int) < (sL S9 : Int)) ∧
  (sK S9 a2 = 10) ∧
  Ok (d - 1) MX10_borders [vR a2, vI (sx S9 (a3 + 1)), vI (sx S9 (a3 + 2))] S9 F10 G11 (fun w20 S21 F22 G23 =>
  ∃ z25 : Int, w20 = some (vI z25) ∧
  ((z13 = z25) →
    V_law_2110 d S21 F22 G23 Q a1 a2 a3) ∧
  ((¬ z13 = z25) →
    Q (some (vI 0)) S21 F22 G23)))
set_option maxHeartbeats 4000000 in
set_option maxRecDepth 50000 in
theorem R_law_1986 {d : Nat} {S : AS} {F : AF} {G : AG} {Q : AQ} {a1 : Nat} {a2 : Nat} {a3 : Int} (h : V_law_1986 d S F G Q a1 a2 a3) : Go d Mlaw 1986 [some (vR 999999), some (vR a1), some (vR a2), some (vI a3)] [] S F G Q := by
  unfold V_law_1986 at h
  refine go_aload_n (show decode code 1986 = .ok (.aload_n 1, 1) by decide +kernel) (by rfl) ?_
  refine go_aload_n (show decode code 1987 = .ok (.aload_n 0, 1) by decide +kernel) (by rfl) ?_
  refine go_iload_n (show decode code 1988 = .ok (.iload_n 3, 1) by decide +kernel) (by rfl) ?_
  refine go_iconst (show decode code 1989 = .ok (.iconst 1, 1) by decide +kernel) (by decide) ?_
  obtain ⟨q1, h⟩ := h
  refine go_iadd (show decode code 1990 = .ok (.iadd, 1) by decide +kernel) q1 ?_
  obtain ⟨q2, h⟩ := h
  obtain ⟨q3, h⟩ := h
  refine go_scrld (show decode code 1991 = .ok (.iaload, 1) by decide +kernel) rfl q2 q3 ?_
  refine go_aload_n (show decode code 1992 = .ok (.aload_n 0, 1) by decide +kernel) (by rfl) ?_
  refine go_iload_n (show decode code 1993 = .ok (.iload_n 3, 1) by decide +kernel) (by rfl) ?_
  refine go_iconst (show decode code 1994 = .ok (.iconst 2, 1) by decide +kernel) (by decide) ?_
  obtain ⟨q4, h⟩ := h
  refine go_iadd (show decode code 1995 = .ok (.iadd, 1) by decide +kernel) q4 ?_
  obtain ⟨q5, h⟩ := h
  obtain ⟨q6, h⟩ := h
  refine go_scrld (show decode code 1996 = .ok (.iaload, 1) by decide +kernel) rfl q5 q6 ?_
  obtain ⟨q7, h⟩ := h
  obtain ⟨q12, h⟩ := h
  refine go_callV (d2 := d - 1) (M2 := MX9_borders) (n := 2) (ci := 9) (av := [vI (sx S (a3 + 1)), vI (sx S (a3 + 2))]) (st := []) (show decode code 1997 = .ok (.invokevirtual 143, 3) by decide +kernel) ml_L_143 mt_X9_borders min_X9_borders mse_X9_borders (by decide) q12 rfl (Nat.le_of_ble_eq_true rfl) (by omega) (ok_mono h (fun w8 S9 F10 G11 h => ?_))
  obtain ⟨z13, e9, h⟩ := h
  subst e9
  show Go d Mlaw 2000 [some (vR 999999), some (vR a1), some (vR a2), some (vI a3)] [vI z13] S9 F10 G11 Q
  refine go_aload_n (show decode code 2000 = .ok (.aload_n 2, 1) by decide +kernel) (by rfl) ?_
  refine go_aload_n (show decode code 2001 = .ok (.aload_n 0, 1) by decide +kernel) (by rfl) ?_
  refine go_iload_n (show decode code 2002 = .ok (.iload_n 3, 1) by decide +kernel) (by rfl) ?_
  refine go_iconst (show decode code 2003 = .ok (.iconst 1, 1) by decide +kernel) (by decide) ?_
  obtain ⟨q14, h⟩ := h
  refine go_iadd (show decode code 2004 = .ok (.iadd, 1) by decide +kernel) q14 ?_
  obtain ⟨q15, h⟩ := h
  obtain ⟨q16, h⟩ := h
  refine go_scrld (show decode code 2005 = .ok (.iaload, 1) by decide +kernel) rfl q15 q16 ?_
  refine go_aload_n (show decode code 2006 = .ok (.aload_n 0, 1) by decide +kernel) (by rfl) ?_
  refine go_iload_n (show decode code 2007 = .ok (.iload_n 3, 1) by decide +kernel) (by rfl) ?_
  refine go_iconst (show decode code 2008 = .ok (.iconst 2, 1) by decide +kernel) (by decide) ?_
  obtain ⟨q17, h⟩ := h
  refine go_iadd (show decode code 2009 = .ok (.iadd, 1) by decide +kernel) q17 ?_
  obtain ⟨q18, h⟩ := h
  obtain ⟨q19, h⟩ := h
  refine go_scrld (show decode code 2010 = .ok (.iaload, 1) by decide +kernel) rfl q18 q19 ?_
  obtain ⟨q24, h⟩ := h
  refine go_callV (d2 := d - 1) (M2 := MX10_borders) (n := 2) (ci := 10) (av := [vI (sx S9 (a3 + 1)), vI (sx S9 (a3 + 2))]) (st := [vI z13]) (show decode code 2011 = .ok (.invokevirtual 147, 3) by decide +kernel) ml_L_147 mt_X10_borders min_X10_borders mse_X10_borders (by decide) q24 rfl (Nat.le_of_ble_eq_true rfl) (by omega) (ok_mono h (fun w20 S21 F22 G23 h => ?_))
  obtain ⟨z25, e9, h⟩ := h
  subst e9
  show Go d Mlaw 2014 [some (vR 999999), some (vR a1), some (vR a2), some (vI a3)] [vI z25, vI z13] S21 F22 G23 Q
  obtain ⟨ht, hf⟩ := h
  refine go_icmpeq (tgt := 2110) (show decode code 2014 = .ok (.if_icmp .eq 96, 3) by decide +kernel) (by decide) (fun hc => ?_) (fun hc => ?_)
  · have h := ht hc
    exact R_law_2110 h
  · have h := hf hc
    refine go_iconst (show decode code 2017 = .ok (.iconst 0, 1) by decide +kernel) (by decide) ?_
    exact go_zret (show decode code 2018 = .ok (.ireturn, 1) by decide +kernel) rfl (by decide) h
set_option maxHeartbeats 4000000 in
set_option maxRecDepth 50000 in
def V_law_1942 (d : Nat) (S : AS) (F : AF) (G : AG) (Q : AQ) (a1 : Nat) (a2 : Nat) (a3 : Int) : Prop :=
  (r32 (a3 + 1)) ∧
  ((0 : Int) ≤ a3 + 1) ∧
  ((a3 + 1 : Int) < (sL S : Int)) ∧
  (r32 (a3 + 2)) ∧
  ((0 : Int) ≤ a3 + 2) ∧
  ((a3 + 2 : Int) < (sL S : Int)) ∧
  (r32 (a3 + 3)) ∧
  ((0 : Int) ≤ a3 + 3) ∧
  ((a3 + 3 : Int) < (sL S : Int)) ∧
  (1 ≤ d) ∧
  (sK S a1 = 9) ∧
  Ok (d - 1) MX9_line [vR a1, vI (sx S (a3 + 1)), vI (sx S (a3 + 2)), vI (sx S (a3 + 3))] S F G (fun w11 S12 F13 G14 =>
  ∃ z16 : Int, w11 = some (vJ z16) ∧
  (r32 (a3 + 1)) ∧
  ((0 : Int) ≤ a3 + 1) ∧
  ((a3 + 1 : Int) < (sL S12 : Int)) ∧
  (r32 (a3 + 2)) ∧
  ((0 : Int) ≤ a3 + 2) ∧
  ((a3 + 2 : Int) < (sL S12 : Int)) ∧
  (r32 (a3 + 3)) ∧
  ((0 : Int) ≤ a3 + 3) ∧
  ((a3 + 3 : Int) < (sL S12 : Int)) ∧
  (sK S12 a2 = 10) ∧
  Ok (d - 1) MX10_line [vR a2, vI (sx S12 (a3 + 1)), vI (sx S12 (a3 + 2)), vI (sx S12 (a3 + 3))] S12 F13 G14 (fun w26 S27 F28 G29 =>
  ∃ z31 : Int, w26 = some (vJ z31) ∧
  ((z16 = z31) →
    V_law_2110 d S27 F28 G29 Q a1 a2 a3) ∧
  ((¬ z16 = z31) →
    Q (some (vI 0)) S27 F28 G29)))
set_option maxHeartbeats 4000000 in
set_option maxRecDepth 50000 in
theorem R_law_1942 {d : Nat} {S : AS} {F : AF} {G : AG} {Q : AQ} {a1 : Nat} {a2 : Nat} {a3 : Int} (h : V_law_1942 d S F G Q a1 a2 a3) : Go d Mlaw 1942 [some (vR 999999), some (vR a1), some (vR a2), some (vI a3)] [] S F G Q := by
  unfold V_law_1942 at h
  refine go_aload_n (show decode code 1942 = .ok (.aload_n 1, 1) by decide +kernel) (by rfl) ?_
  refine go_aload_n (show decode code 1943 = .ok (.aload_n 0, 1) by decide +kernel) (by rfl) ?_
  refine go_iload_n (show decode code 1944 = .ok (.iload_n 3, 1) by decide +kernel) (by rfl) ?_
  refine go_iconst (show decode code 1945 = .ok (.iconst 1, 1) by decide +kernel) (by decide) ?_
  obtain ⟨q1, h⟩ := h
  refine go_iadd (show decode code 1946 = .ok (.iadd, 1) by decide +kernel) q1 ?_
  obtain ⟨q2, h⟩ := h
  obtain ⟨q3, h⟩ := h
  refine go_scrld (show decode code 1947 = .ok (.iaload, 1) by decide +kernel) rfl q2 q3 ?_
  refine go_aload_n (show decode code 1948 = .ok (.aload_n 0, 1) by decide +kernel) (by rfl) ?_
  refine go_iload_n (show decode code 1949 = .ok (.iload_n 3, 1) by decide +kernel) (by rfl) ?_
  refine go_iconst (show decode code 1950 = .ok (.iconst 2, 1) by decide +kernel) (by decide) ?_
  obtain ⟨q4, h⟩ := h
  refine go_iadd (show decode code 1951 = .ok (.iadd, 1) by decide +kernel) q4 ?_
  obtain ⟨q5, h⟩ := h
  obtain ⟨q6, h⟩ := h
  refine go_scrld (show decode code 1952 = .ok (.iaload, 1) by decide +kernel) rfl q5 q6 ?_
  refine go_aload_n (show decode code 1953 = .ok (.aload_n 0, 1) by decide +kernel) (by rfl) ?_
  refine go_iload_n (show decode code 1954 = .ok (.iload_n 3, 1) by decide +kernel) (by rfl) ?_
  refine go_iconst (show decode code 1955 = .ok (.iconst 3, 1) by decide +kernel) (by decide) ?_
  obtain ⟨q7, h⟩ := h
  refine go_iadd (show decode code 1956 = .ok (.iadd, 1) by decide +kernel) q7 ?_
  obtain ⟨q8, h⟩ := h
  obtain ⟨q9, h⟩ := h
  refine go_scrld (show decode code 1957 = .ok (.iaload, 1) by decide +kernel) rfl q8 q9 ?_
  obtain ⟨q10, h⟩ := h
  obtain ⟨q15, h⟩ := h
  refine go_callV (d2 := d - 1) (M2 := MX9_line) (n := 3) (ci := 9) (av := [vI (sx S (a3 + 1)), vI (sx S (a3 + 2)), vI (sx S (a3 + 3))]) (st := []) (show decode code 1958 = .ok (.invokevirtual 139, 3) by decide +kernel) ml_L_139 mt_X9_line min_X9_line mse_X9_line (by decide) q15 rfl (Nat.le_of_ble_eq_true rfl) (by omega) (ok_mono h (fun w11 S12 F13 G14 h => ?_))
  obtain ⟨z16, e9, h⟩ := h
  subst e9
  show Go d Mlaw 1961 [some (vR 999999), some (vR a1), some (vR a2), some (vI a3)] [vJ z16] S12 F13 G14 Q
  refine go_aload_n (show decode code 1961 = .ok (.aload_n 2, 1) by decide +kernel) (by rfl) ?_
  refine go_aload_n (show decode code 1962 = .ok (.aload_n 0, 1) by decide +kernel) (by rfl) ?_
  refine go_iload_n (show decode code 1963 = .ok (.iload_n 3, 1) by decide +kernel) (by rfl) ?_
  refine go_iconst (show decode code 1964 = .ok (.iconst 1, 1) by decide +kernel) (by decide) ?_
  obtain ⟨q17, h⟩ := h
  refine go_iadd (show decode code 1965 = .ok (.iadd, 1) by decide +kernel) q17 ?_
  obtain ⟨q18, h⟩ := h
  obtain ⟨q19, h⟩ := h
  refine go_scrld (show decode code 1966 = .ok (.iaload, 1) by decide +kernel) rfl q18 q19 ?_
  refine go_aload_n (show decode code 1967 = .ok (.aload_n 0, 1) by decide +kernel) (by rfl) ?_
  refine go_iload_n (show decode code 1968 = .ok (.iload_n 3, 1) by decide +kernel) (by rfl) ?_
  refine go_iconst (show decode code 1969 = .ok (.iconst 2, 1) by decide +kernel) (by decide) ?_
  obtain ⟨q20, h⟩ := h
  refine go_iadd (show decode code 1970 = .ok (.iadd, 1) by decide +kernel) q20 ?_
  obtain ⟨q21, h⟩ := h
  obtain ⟨q22, h⟩ := h
  refine go_scrld (show decode code 1971 = .ok (.iaload, 1) by decide +kernel) rfl q21 q22 ?_
  refine go_aload_n (show decode code 1972 = .ok (.aload_n 0, 1) by decide +kernel) (by rfl) ?_
  refine go_iload_n (show decode code 1973 = .ok (.iload_n 3, 1) by decide +kernel) (by rfl) ?_
  refine go_iconst (show decode code 1974 = .ok (.iconst 3, 1) by decide +kernel) (by decide) ?_
  obtain ⟨q23, h⟩ := h
  refine go_iadd (show decode code 1975 = .ok (.iadd, 1) by decide +kernel) q23 ?_
  obtain ⟨q24, h⟩ := h
  obtain ⟨q25, h⟩ := h
  refine go_scrld (show decode code 1976 = .ok (.iaload, 1) by decide +kernel) rfl q24 q25 ?_
  obtain ⟨q30, h⟩ := h
  refine go_callV (d2 := d - 1) (M2 := MX10_line) (n := 3) (ci := 10) (av := [vI (sx S12 (a3 + 1)), vI (sx S12 (a3 + 2)), vI (sx S12 (a3 + 3))]) (st := [vJ z16]) (show decode code 1977 = .ok (.invokevirtual 142, 3) by decide +kernel) ml_L_142 mt_X10_line min_X10_line mse_X10_line (by decide) q30 rfl (Nat.le_of_ble_eq_true rfl) (by omega) (ok_mono h (fun w26 S27 F28 G29 h => ?_))
  obtain ⟨z31, e9, h⟩ := h
  subst e9
  show Go d Mlaw 1980 [some (vR 999999), some (vR a1), some (vR a2), some (vI a3)] [vJ z31, vJ z16] S27 F28 G29 Q
  obtain ⟨ht, hf⟩ := h
  refine go_jeq (tgt := 2110) (show decode code 1980 = .ok (.lcmp, 1) by decide +kernel) (show decode code 1981 = .ok (.ifCond .eq 129, 3) by decide +kernel) (by decide) (fun hc => ?_) (fun hc => ?_)
  · have h := ht hc
    exact R_law_2110 h
  · have h := hf hc
    refine go_iconst (show decode code 1984 = .ok (.iconst 0, 1) by decide +kernel) (by decide) ?_
    exact go_zret (show decode code 1985 = .ok (.ireturn, 1) by decide +kernel) rfl (by decide) h
set_option maxHeartbeats 4000000 in
set_option maxRecDepth 50000 in
def V_law_1888 (d : Nat) (S : AS) (F : AF) (G : AG) (Q : AQ) (a1 : Nat) (a2 : Nat) (a3 : Int) : Prop :=
  (r32 (a3 + 1)) ∧
  ((0 : Int) ≤ a3 + 1) ∧
  ((a3 + 1 : Int) < (sL S : Int)) ∧
  (r32 (a3 + 2)) ∧
  ((0 : Int) ≤ a3 + 2) ∧
  ((a3 + 2 : Int) < (sL S : Int)) ∧
  (r32 (a3 + 3)) ∧
  ((0 : Int) ≤ a3 + 3) ∧
  ((a3 + 3 : Int) < (sL S : Int)) ∧
  (r32 (a3 + 4)) ∧
  ((0 : Int) ≤ a3 + 4) ∧
  ((a3 + 4 : Int) < (sL S : Int)) ∧
  (1 ≤ d) ∧
  (sK S a1 = 9) ∧
  Ok (d - 1) MX9_window [vR a1, vI (sx S (a3 + 1)), vI (sx S (a3 + 2)), vI (sx S (a3 + 3)), vI (sx S (a3 + 4))] S F G (fun w14 S15 F16 G17 =>
  ∃ z19 : Int, w14 = some (vJ z19) ∧
  (r32 (a3 + 1)) ∧
  ((0 : Int) ≤ a3 + 1) ∧
  ((a3 + 1 : Int) < (sL S15 : Int)) ∧
  (r32 (a3 + 2)) ∧
  ((0 : Int) ≤ a3 + 2) ∧
  ((a3 + 2 : Int) < (sL S15 : Int)) ∧
  (r32 (a3 + 3)) ∧
  ((0 : Int) ≤ a3 + 3) ∧
  ((a3 + 3 : Int) < (sL S15 : Int)) ∧
  (r32 (a3 + 4)) ∧
  ((0 : Int) ≤ a3 + 4) ∧
  ((a3 + 4 : Int) < (sL S15 : Int)) ∧
  (sK S15 a2 = 10) ∧
  Ok (d - 1) MX10_window [vR a2, vI (sx S15 (a3 + 1)), vI (sx S15 (a3 + 2)), vI (sx S15 (a3 + 3)), vI (sx S15 (a3 + 4))] S15 F16 G17 (fun w32 S33 F34 G35 =>
  ∃ z37 : Int, w32 = some (vJ z37) ∧
  ((z19 = z37) →
    V_law_2110 d S33 F34 G35 Q a1 a2 a3) ∧
  ((¬ z19 = z37) →
    Q (some (vI 0)) S33 F34 G35)))
set_option maxHeartbeats 4000000 in
set_option maxRecDepth 50000 in
theorem R_law_1888 {d : Nat} {S : AS} {F : AF} {G : AG} {Q : AQ} {a1 : Nat} {a2 : Nat} {a3 : Int} (h : V_law_1888 d S F G Q a1 a2 a3) : Go d Mlaw 1888 [some (vR 999999), some (vR a1), some (vR a2), some (vI a3)] [] S F G Q := by
  unfold V_law_1888 at h
  refine go_aload_n (show decode code 1888 = .ok (.aload_n 1, 1) by decide +kernel) (by rfl) ?_
  refine go_aload_n (show decode code 1889 = .ok (.aload_n 0, 1) by decide +kernel) (by rfl) ?_
  refine go_iload_n (show decode code 1890 = .ok (.iload_n 3, 1) by decide +kernel) (by rfl) ?_
  refine go_iconst (show decode code 1891 = .ok (.iconst 1, 1) by decide +kernel) (by decide) ?_
  obtain ⟨q1, h⟩ := h
  refine go_iadd (show decode code 1892 = .ok (.iadd, 1) by decide +kernel) q1 ?_
  obtain ⟨q2, h⟩ := h
  obtain ⟨q3, h⟩ := h
  refine go_scrld (show decode code 1893 = .ok (.iaload, 1) by decide +kernel) rfl q2 q3 ?_
  refine go_aload_n (show decode code 1894 = .ok (.aload_n 0, 1) by decide +kernel) (by rfl) ?_
  refine go_iload_n (show decode code 1895 = .ok (.iload_n 3, 1) by decide +kernel) (by rfl) ?_
  refine go_iconst (show decode code 1896 = .ok (.iconst 2, 1) by decide +kernel) (by decide) ?_
  obtain ⟨q4, h⟩ := h
  refine go_iadd (show decode code 1897 = .ok (.iadd, 1) by decide +kernel) q4 ?_
  obtain ⟨q5, h⟩ := h
  obtain ⟨q6, h⟩ := h
  refine go_scrld (show decode code 1898 = .ok (.iaload, 1) by decide +kernel) rfl q5 q6 ?_
  refine go_aload_n (show decode code 1899 = .ok (.aload_n 0, 1) by decide +kernel) (by rfl) ?_
  refine go_iload_n (show decode code 1900 = .ok (.iload_n 3, 1) by decide +kernel) (by rfl) ?_
  refine go_iconst (show decode code 1901 = .ok (.iconst 3, 1) by decide +kernel) (by decide) ?_
  obtain ⟨q7, h⟩ := h
  refine go_iadd (show decode code 1902 = .ok (.iadd, 1) by decide +kernel) q7 ?_
  obtain ⟨q8, h⟩ := h
  obtain ⟨q9, h⟩ := h
  refine go_scrld (show decode code 1903 = .ok (.iaload, 1) by decide +kernel) rfl q8 q9 ?_
  refine go_aload_n (show decode code 1904 = .ok (.aload_n 0, 1) by decide +kernel) (by rfl) ?_
  refine go_iload_n (show decode code 1905 = .ok (.iload_n 3, 1) by decide +kernel) (by rfl) ?_
  refine go_iconst (show decode code 1906 = .ok (.iconst 4, 1) by decide +kernel) (by decide) ?_
  obtain ⟨q10, h⟩ := h
  refine go_iadd (show decode code 1907 = .ok (.iadd, 1) by decide +kernel) q10 ?_
  obtain ⟨q11, h⟩ := h
  obtain ⟨q12, h⟩ := h
  refine go_scrld (show decode code 1908 = .ok (.iaload, 1) by decide +kernel) rfl q11 q12 ?_
  obtain ⟨q13, h⟩ := h
  obtain ⟨q18, h⟩ := h
  refine go_callV (d2 := d - 1) (M2 := MX9_window) (n := 4) (ci := 9) (av := [vI (sx S (a3 + 1)), vI (sx S (a3 + 2)), vI (sx S (a3 + 3)), vI (sx S (a3 + 4))]) (st := []) (show decode code 1909 = .ok (.invokevirtual 135, 3) by decide +kernel) ml_L_135 mt_X9_window min_X9_window mse_X9_window (by decide) q18 rfl (Nat.le_of_ble_eq_true rfl) (by omega) (ok_mono h (fun w14 S15 F16 G17 h => ?_))
  obtain ⟨z19, e9, h⟩ := h
  subst e9
  show Go d Mlaw 1912 [some (vR 999999), some (vR a1), some (vR a2), some (vI a3)] [vJ z19] S15 F16 G17 Q
  refine go_aload_n (show decode code 1912 = .ok (.aload_n 2, 1) by decide +kernel) (by rfl) ?_
  refine go_aload_n (show decode code 1913 = .ok (.aload_n 0, 1) by decide +kernel) (by rfl) ?_
  refine go_iload_n (show decode code 1914 = .ok (.iload_n 3, 1) by decide +kernel) (by rfl) ?_
  refine go_iconst (show decode code 1915 = .ok (.iconst 1, 1) by decide +kernel) (by decide) ?_
  obtain ⟨q20, h⟩ := h
  refine go_iadd (show decode code 1916 = .ok (.iadd, 1) by decide +kernel) q20 ?_
  obtain ⟨q21, h⟩ := h
  obtain ⟨q22, h⟩ := h
  refine go_scrld (show decode code 1917 = .ok (.iaload, 1) by decide +kernel) rfl q21 q22 ?_
  refine go_aload_n (show decode code 1918 = .ok (.aload_n 0, 1) by decide +kernel) (by rfl) ?_
  refine go_iload_n (show decode code 1919 = .ok (.iload_n 3, 1) by decide +kernel) (by rfl) ?_
  refine go_iconst (show decode code 1920 = .ok (.iconst 2, 1) by decide +kernel) (by decide) ?_
  obtain ⟨q23, h⟩ := h
  refine go_iadd (show decode code 1921 = .ok (.iadd, 1) by decide +kernel) q23 ?_
  obtain ⟨q24, h⟩ := h
  obtain ⟨q25, h⟩ := h
  refine go_scrld (show decode code 1922 = .ok (.iaload, 1) by decide +kernel) rfl q24 q25 ?_
  refine go_aload_n (show decode code 1923 = .ok (.aload_n 0, 1) by decide +kernel) (by rfl) ?_
  refine go_iload_n (show decode code 1924 = .ok (.iload_n 3, 1) by decide +kernel) (by rfl) ?_
  refine go_iconst (show decode code 1925 = .ok (.iconst 3, 1) by decide +kernel) (by decide) ?_
  obtain ⟨q26, h⟩ := h
  refine go_iadd (show decode code 1926 = .ok (.iadd, 1) by decide +kernel) q26 ?_
  obtain ⟨q27, h⟩ := h
  obtain ⟨q28, h⟩ := h
  refine go_scrld (show decode code 1927 = .ok (.iaload, 1) by decide +kernel) rfl q27 q28 ?_
  refine go_aload_n (show decode code 1928 = .ok (.aload_n 0, 1) by decide +kernel) (by rfl) ?_
  refine go_iload_n (show decode code 1929 = .ok (.iload_n 3, 1) by decide +kernel) (by rfl) ?_
  refine go_iconst (show decode code 1930 = .ok (.iconst 4, 1) by decide +kernel) (by decide) ?_
  obtain ⟨q29, h⟩ := h
  refine go_iadd (show decode code 1931 = .ok (.iadd, 1) by decide +kernel) q29 ?_
  obtain ⟨q30, h⟩ := h
  obtain ⟨q31, h⟩ := h
  refine go_scrld (show decode code 1932 = .ok (.iaload, 1) by decide +kernel) rfl q30 q31 ?_
  obtain ⟨q36, h⟩ := h
  refine go_callV (d2 := d - 1) (M2 := MX10_window) (n := 4) (ci := 10) (av := [vI (sx S15 (a3 + 1)), vI (sx S15 (a3 + 2)), vI (sx S15 (a3 + 3)), vI (sx S15 (a3 + 4))]) (st := [vJ z19]) (show decode code 1933 = .ok (.invokevirtual 138, 3) by decide +kernel) ml_L_138 mt_X10_window min_X10_window mse_X10_window (by decide) q36 rfl (Nat.le_of_ble_eq_true rfl) (by omega) (ok_mono h (fun w32 S33 F34 G35 h => ?_))
  obtain ⟨z37, e9, h⟩ := h
  subst e9
  show Go d Mlaw 1936 [some (vR 999999), some (vR a1), some (vR a2), some (vI a3)] [vJ z37, vJ z19] S33 F34 G35 Q
  obtain ⟨ht, hf⟩ := h
  refine go_jeq (tgt := 2110) (show decode code 1936 = .ok (.lcmp, 1) by decide +kernel) (show decode code 1937 = .ok (.ifCond .eq 173, 3) by decide +kernel) (by decide) (fun hc => ?_) (fun hc => ?_)
  · have h := ht hc
    exact R_law_2110 h
  · have h := hf hc
    refine go_iconst (show decode code 1940 = .ok (.iconst 0, 1) by decide +kernel) (by decide) ?_
    exact go_zret (show decode code 1941 = .ok (.ireturn, 1) by decide +kernel) rfl (by decide) h
set_option maxHeartbeats 4000000 in
set_option maxRecDepth 50000 in
def V_law_1854 (d : Nat) (S : AS) (F : AF) (G : AG) (Q : AQ) (a1 : Nat) (a2 : Nat) (a3 : Int) : Prop :=
  (r32 (a3 + 1)) ∧
  ((0 : Int) ≤ a3 + 1) ∧
  ((a3 + 1 : Int) < (sL S : Int)) ∧
  (r32 (a3 + 2)) ∧
  ((0 : Int) ≤ a3 + 2) ∧
  ((a3 + 2 : Int) < (sL S : Int)) ∧
  (1 ≤ d) ∧
  (sK S a1 = 9) ∧
  Ok (d - 1) MX9_depot [vR a1, vI (sx S (a3 + 1)), vI (sx S (a3 + 2))] S F G (fun w8 S9 F10 G11 =>
  ∃ z13 : Int, w8 = some (vJ z13) ∧
  (r32 (a3 + 1)) ∧
  ((0 : Int) ≤ a3 + 1) ∧
  ((a3 + 1 : Int) < (sL S9 : Int)) ∧
  (r32 (a3 + 2)) ∧
  ((0 : Int) ≤ a3 + 2) ∧
  ((a3 + 2 : Int) < (sL S9 : Int)) ∧
  (sK S9 a2 = 10) ∧
  Ok (d - 1) MX10_depot [vR a2, vI (sx S9 (a3 + 1)), vI (sx S9 (a3 + 2))] S9 F10 G11 (fun w20 S21 F22 G23 =>
  ∃ z25 : Int, w20 = some (vJ z25) ∧
  ((z13 = z25) →
    V_law_2110 d S21 F22 G23 Q a1 a2 a3) ∧
  ((¬ z13 = z25) →
    Q (some (vI 0)) S21 F22 G23)))
set_option maxHeartbeats 4000000 in
set_option maxRecDepth 50000 in
theorem R_law_1854 {d : Nat} {S : AS} {F : AF} {G : AG} {Q : AQ} {a1 : Nat} {a2 : Nat} {a3 : Int} (h : V_law_1854 d S F G Q a1 a2 a3) : Go d Mlaw 1854 [some (vR 999999), some (vR a1), some (vR a2), some (vI a3)] [] S F G Q := by
  unfold V_law_1854 at h
  refine go_aload_n (show decode code 1854 = .ok (.aload_n 1, 1) by decide +kernel) (by rfl) ?_
  refine go_aload_n (show decode code 1855 = .ok (.aload_n 0, 1) by decide +kernel) (by rfl) ?_
  refine go_iload_n (show decode code 1856 = .ok (.iload_n 3, 1) by decide +kernel) (by rfl) ?_
  refine go_iconst (show decode code 1857 = .ok (.iconst 1, 1) by decide +kernel) (by decide) ?_
  obtain ⟨q1, h⟩ := h
  refine go_iadd (show decode code 1858 = .ok (.iadd, 1) by decide +kernel) q1 ?_
  obtain ⟨q2, h⟩ := h
  obtain ⟨q3, h⟩ := h
  refine go_scrld (show decode code 1859 = .ok (.iaload, 1) by decide +kernel) rfl q2 q3 ?_
  refine go_aload_n (show decode code 1860 = .ok (.aload_n 0, 1) by decide +kernel) (by rfl) ?_
  refine go_iload_n (show decode code 1861 = .ok (.iload_n 3, 1) by decide +kernel) (by rfl) ?_
  refine go_iconst (show decode code 1862 = .ok (.iconst 2, 1) by decide +kernel) (by decide) ?_
  obtain ⟨q4, h⟩ := h
  refine go_iadd (show decode code 1863 = .ok (.iadd, 1) by decide +kernel) q4 ?_
  obtain ⟨q5, h⟩ := h
  obtain ⟨q6, h⟩ := h
  refine go_scrld (show decode code 1864 = .ok (.iaload, 1) by decide +kernel) rfl q5 q6 ?_
  obtain ⟨q7, h⟩ := h
  obtain ⟨q12, h⟩ := h
  refine go_callV (d2 := d - 1) (M2 := MX9_depot) (n := 2) (ci := 9) (av := [vI (sx S (a3 + 1)), vI (sx S (a3 + 2))]) (st := []) (show decode code 1865 = .ok (.invokevirtual 131, 3) by decide +kernel) ml_L_131 mt_X9_depot min_X9_depot mse_X9_depot (by decide) q12 rfl (Nat.le_of_ble_eq_true rfl) (by omega) (ok_mono h (fun w8 S9 F10 G11 h => ?_))
  obtain ⟨z13, e9, h⟩ := h
  subst e9
  show Go d Mlaw 1868 [some (vR 999999), some (vR a1), some (vR a2), some (vI a3)] [vJ z13] S9 F10 G11 Q
  refine go_aload_n (show decode code 1868 = .ok (.aload_n 2, 1) by decide +kernel) (by rfl) ?_
  refine go_aload_n (show decode code 1869 = .ok (.aload_n 0, 1) by decide +kernel) (by rfl) ?_
  refine go_iload_n (show decode code 1870 = .ok (.iload_n 3, 1) by decide +kernel) (by rfl) ?_
  refine go_iconst (show decode code 1871 = .ok (.iconst 1, 1) by decide +kernel) (by decide) ?_
  obtain ⟨q14, h⟩ := h
  refine go_iadd (show decode code 1872 = .ok (.iadd, 1) by decide +kernel) q14 ?_
  obtain ⟨q15, h⟩ := h
  obtain ⟨q16, h⟩ := h
  refine go_scrld (show decode code 1873 = .ok (.iaload, 1) by decide +kernel) rfl q15 q16 ?_
  refine go_aload_n (show decode code 1874 = .ok (.aload_n 0, 1) by decide +kernel) (by rfl) ?_
  refine go_iload_n (show decode code 1875 = .ok (.iload_n 3, 1) by decide +kernel) (by rfl) ?_
  refine go_iconst (show decode code 1876 = .ok (.iconst 2, 1) by decide +kernel) (by decide) ?_
  obtain ⟨q17, h⟩ := h
  refine go_iadd (show decode code 1877 = .ok (.iadd, 1) by decide +kernel) q17 ?_
  obtain ⟨q18, h⟩ := h
  obtain ⟨q19, h⟩ := h
  refine go_scrld (show decode code 1878 = .ok (.iaload, 1) by decide +kernel) rfl q18 q19 ?_
  obtain ⟨q24, h⟩ := h
  refine go_callV (d2 := d - 1) (M2 := MX10_depot) (n := 2) (ci := 10) (av := [vI (sx S9 (a3 + 1)), vI (sx S9 (a3 + 2))]) (st := [vJ z13]) (show decode code 1879 = .ok (.invokevirtual 134, 3) by decide +kernel) ml_L_134 mt_X10_depot min_X10_depot mse_X10_depot (by decide) q24 rfl (Nat.le_of_ble_eq_true rfl) (by omega) (ok_mono h (fun w20 S21 F22 G23 h => ?_))
  obtain ⟨z25, e9, h⟩ := h
  subst e9
  show Go d Mlaw 1882 [some (vR 999999), some (vR a1), some (vR a2), some (vI a3)] [vJ z25, vJ z13] S21 F22 G23 Q
  obtain ⟨ht, hf⟩ := h
  refine go_jeq (tgt := 2110) (show decode code 1882 = .ok (.lcmp, 1) by decide +kernel) (show decode code 1883 = .ok (.ifCond .eq 227, 3) by decide +kernel) (by decide) (fun hc => ?_) (fun hc => ?_)
  · have h := ht hc
    exact R_law_2110 h
  · have h := hf hc
    refine go_iconst (show decode code 1886 = .ok (.iconst 0, 1) by decide +kernel) (by decide) ?_
    exact go_zret (show decode code 1887 = .ok (.ireturn, 1) by decide +kernel) rfl (by decide) h
set_option maxHeartbeats 4000000 in
set_option maxRecDepth 50000 in
def V_law_1800 (d : Nat) (S : AS) (F : AF) (G : AG) (Q : AQ) (a1 : Nat) (a2 : Nat) (a3 : Int) : Prop :=
  (r32 (a3 + 1)) ∧
  ((0 : Int) ≤ a3 + 1) ∧
  ((a3 + 1 : Int) < (sL S : Int)) ∧
  (r32 (a3 + 2)) ∧
  ((0 : Int) ≤ a3 + 2) ∧
  ((a3 + 2 : Int) < (sL S : Int)) ∧
  (r32 (a3 + 3)) ∧
  ((0 : Int) ≤ a3 + 3) ∧
  ((a3 + 3 : Int) < (sL S : Int)) ∧
  (r32 (a3 + 4)) ∧
  ((0 : Int) ≤ a3 + 4) ∧
  ((a3 + 4 : Int) < (sL S : Int)) ∧
  (1 ≤ d) ∧
  (sK S a1 = 9) ∧
  Ok (d - 1) MX9_ahead [vR a1, vI (sx S (a3 + 1)), vI (sx S (a3 + 2)), vI (sx S (a3 + 3)), vI (sx S (a3 + 4))] S F G (fun w14 S15 F16 G17 =>
  ∃ z19 : Int, w14 = some (vJ z19) ∧
  (r32 (a3 + 1)) ∧
  ((0 : Int) ≤ a3 + 1) ∧
  ((a3 + 1 : Int) < (sL S15 : Int)) ∧
  (r32 (a3 + 2)) ∧
  ((0 : Int) ≤ a3 + 2) ∧
  ((a3 + 2 : Int) < (sL S15 : Int)) ∧
  (r32 (a3 + 3)) ∧
  ((0 : Int) ≤ a3 + 3) ∧
  ((a3 + 3 : Int) < (sL S15 : Int)) ∧
  (r32 (a3 + 4)) ∧
  ((0 : Int) ≤ a3 + 4) ∧
  ((a3 + 4 : Int) < (sL S15 : Int)) ∧
  (sK S15 a2 = 10) ∧
  Ok (d - 1) MX10_ahead [vR a2, vI (sx S15 (a3 + 1)), vI (sx S15 (a3 + 2)), vI (sx S15 (a3 + 3)), vI (sx S15 (a3 + 4))] S15 F16 G17 (fun w32 S33 F34 G35 =>
  ∃ z37 : Int, w32 = some (vJ z37) ∧
  ((z19 = z37) →
    V_law_2110 d S33 F34 G35 Q a1 a2 a3) ∧
  ((¬ z19 = z37) →
    Q (some (vI 0)) S33 F34 G35)))
set_option maxHeartbeats 4000000 in
set_option maxRecDepth 50000 in
theorem R_law_1800 {d : Nat} {S : AS} {F : AF} {G : AG} {Q : AQ} {a1 : Nat} {a2 : Nat} {a3 : Int} (h : V_law_1800 d S F G Q a1 a2 a3) : Go d Mlaw 1800 [some (vR 999999), some (vR a1), some (vR a2), some (vI a3)] [] S F G Q := by
  unfold V_law_1800 at h
  refine go_aload_n (show decode code 1800 = .ok (.aload_n 1, 1) by decide +kernel) (by rfl) ?_
  refine go_aload_n (show decode code 1801 = .ok (.aload_n 0, 1) by decide +kernel) (by rfl) ?_
  refine go_iload_n (show decode code 1802 = .ok (.iload_n 3, 1) by decide +kernel) (by rfl) ?_
  refine go_iconst (show decode code 1803 = .ok (.iconst 1, 1) by decide +kernel) (by decide) ?_
  obtain ⟨q1, h⟩ := h
  refine go_iadd (show decode code 1804 = .ok (.iadd, 1) by decide +kernel) q1 ?_
  obtain ⟨q2, h⟩ := h
  obtain ⟨q3, h⟩ := h
  refine go_scrld (show decode code 1805 = .ok (.iaload, 1) by decide +kernel) rfl q2 q3 ?_
  refine go_aload_n (show decode code 1806 = .ok (.aload_n 0, 1) by decide +kernel) (by rfl) ?_
  refine go_iload_n (show decode code 1807 = .ok (.iload_n 3, 1) by decide +kernel) (by rfl) ?_
  refine go_iconst (show decode code 1808 = .ok (.iconst 2, 1) by decide +kernel) (by decide) ?_
  obtain ⟨q4, h⟩ := h
  refine go_iadd (show decode code 1809 = .ok (.iadd, 1) by decide +kernel) q4 ?_
  obtain ⟨q5, h⟩ := h
  obtain ⟨q6, h⟩ := h
  refine go_scrld (show decode code 1810 = .ok (.iaload, 1) by decide +kernel) rfl q5 q6 ?_
  refine go_aload_n (show decode code 1811 = .ok (.aload_n 0, 1) by decide +kernel) (by rfl) ?_
  refine go_iload_n (show decode code 1812 = .ok (.iload_n 3, 1) by decide +kernel) (by rfl) ?_
  refine go_iconst (show decode code 1813 = .ok (.iconst 3, 1) by decide +kernel) (by decide) ?_
  obtain ⟨q7, h⟩ := h
  refine go_iadd (show decode code 1814 = .ok (.iadd, 1) by decide +kernel) q7 ?_
  obtain ⟨q8, h⟩ := h
  obtain ⟨q9, h⟩ := h
  refine go_scrld (show decode code 1815 = .ok (.iaload, 1) by decide +kernel) rfl q8 q9 ?_
  refine go_aload_n (show decode code 1816 = .ok (.aload_n 0, 1) by decide +kernel) (by rfl) ?_
  refine go_iload_n (show decode code 1817 = .ok (.iload_n 3, 1) by decide +kernel) (by rfl) ?_
  refine go_iconst (show decode code 1818 = .ok (.iconst 4, 1) by decide +kernel) (by decide) ?_
  obtain ⟨q10, h⟩ := h
  refine go_iadd (show decode code 1819 = .ok (.iadd, 1) by decide +kernel) q10 ?_
  obtain ⟨q11, h⟩ := h
  obtain ⟨q12, h⟩ := h
  refine go_scrld (show decode code 1820 = .ok (.iaload, 1) by decide +kernel) rfl q11 q12 ?_
  obtain ⟨q13, h⟩ := h
  obtain ⟨q18, h⟩ := h
  refine go_callV (d2 := d - 1) (M2 := MX9_ahead) (n := 4) (ci := 9) (av := [vI (sx S (a3 + 1)), vI (sx S (a3 + 2)), vI (sx S (a3 + 3)), vI (sx S (a3 + 4))]) (st := []) (show decode code 1821 = .ok (.invokevirtual 127, 3) by decide +kernel) ml_L_127 mt_X9_ahead min_X9_ahead mse_X9_ahead (by decide) q18 rfl (Nat.le_of_ble_eq_true rfl) (by omega) (ok_mono h (fun w14 S15 F16 G17 h => ?_))
  obtain ⟨z19, e9, h⟩ := h
  subst e9
  show Go d Mlaw 1824 [some (vR 999999), some (vR a1), some (vR a2), some (vI a3)] [vJ z19] S15 F16 G17 Q
  refine go_aload_n (show decode code 1824 = .ok (.aload_n 2, 1) by decide +kernel) (by rfl) ?_
  refine go_aload_n (show decode code 1825 = .ok (.aload_n 0, 1) by decide +kernel) (by rfl) ?_
  refine go_iload_n (show decode code 1826 = .ok (.iload_n 3, 1) by decide +kernel) (by rfl) ?_
  refine go_iconst (show decode code 1827 = .ok (.iconst 1, 1) by decide +kernel) (by decide) ?_
  obtain ⟨q20, h⟩ := h
  refine go_iadd (show decode code 1828 = .ok (.iadd, 1) by decide +kernel) q20 ?_
  obtain ⟨q21, h⟩ := h
  obtain ⟨q22, h⟩ := h
  refine go_scrld (show decode code 1829 = .ok (.iaload, 1) by decide +kernel) rfl q21 q22 ?_
  refine go_aload_n (show decode code 1830 = .ok (.aload_n 0, 1) by decide +kernel) (by rfl) ?_
  refine go_iload_n (show decode code 1831 = .ok (.iload_n 3, 1) by decide +kernel) (by rfl) ?_
  refine go_iconst (show decode code 1832 = .ok (.iconst 2, 1) by decide +kernel) (by decide) ?_
  obtain ⟨q23, h⟩ := h
  refine go_iadd (show decode code 1833 = .ok (.iadd, 1) by decide +kernel) q23 ?_
  obtain ⟨q24, h⟩ := h
  obtain ⟨q25, h⟩ := h
  refine go_scrld (show decode code 1834 = .ok (.iaload, 1) by decide +kernel) rfl q24 q25 ?_
  refine go_aload_n (show decode code 1835 = .ok (.aload_n 0, 1) by decide +kernel) (by rfl) ?_
  refine go_iload_n (show decode code 1836 = .ok (.iload_n 3, 1) by decide +kernel) (by rfl) ?_
  refine go_iconst (show decode code 1837 = .ok (.iconst 3, 1) by decide +kernel) (by decide) ?_
  obtain ⟨q26, h⟩ := h
  refine go_iadd (show decode code 1838 = .ok (.iadd, 1) by decide +kernel) q26 ?_
  obtain ⟨q27, h⟩ := h
  obtain ⟨q28, h⟩ := h
  refine go_scrld (show decode code 1839 = .ok (.iaload, 1) by decide +kernel) rfl q27 q28 ?_
  refine go_aload_n (show decode code 1840 = .ok (.aload_n 0, 1) by decide +kernel) (by rfl) ?_
  refine go_iload_n (show decode code 1841 = .ok (.iload_n 3, 1) by decide +kernel) (by rfl) ?_
  refine go_iconst (show decode code 1842 = .ok (.iconst 4, 1) by decide +kernel) (by decide) ?_
  obtain ⟨q29, h⟩ := h
  refine go_iadd (show decode code 1843 = .ok (.iadd, 1) by decide +kernel) q29 ?_
  obtain ⟨q30, h⟩ := h
  obtain ⟨q31, h⟩ := h
  refine go_scrld (show decode code 1844 = .ok (.iaload, 1) by decide +kernel) rfl q30 q31 ?_
  obtain ⟨q36, h⟩ := h
  refine go_callV (d2 := d - 1) (M2 := MX10_ahead) (n := 4) (ci := 10) (av := [vI (sx S15 (a3 + 1)), vI (sx S15 (a3 + 2)), vI (sx S15 (a3 + 3)), vI (sx S15 (a3 + 4))]) (st := [vJ z19]) (show decode code 1845 = .ok (.invokevirtual 130, 3) by decide +kernel) ml_L_130 mt_X10_ahead min_X10_ahead mse_X10_ahead (by decide) q36 rfl (Nat.le_of_ble_eq_true rfl) (by omega) (ok_mono h (fun w32 S33 F34 G35 h => ?_))
  obtain ⟨z37, e9, h⟩ := h
  subst e9
  show Go d Mlaw 1848 [some (vR 999999), some (vR a1), some (vR a2), some (vI a3)] [vJ z37, vJ z19] S33 F34 G35 Q
  obtain ⟨ht, hf⟩ := h
  refine go_jeq (tgt := 2110) (show decode code 1848 = .ok (.lcmp, 1) by decide +kernel) (show decode code 1849 = .ok (.ifCond .eq 261, 3) by decide +kernel) (by decide) (fun hc => ?_) (fun hc => ?_)
  · have h := ht hc
    exact R_law_2110 h
  · have h := hf hc
    refine go_iconst (show decode code 1852 = .ok (.iconst 0, 1) by decide +kernel) (by decide) ?_
    exact go_zret (show decode code 1853 = .ok (.ireturn, 1) by decide +kernel) rfl (by decide) h
set_option maxHeartbeats 4000000 in
set_option maxRecDepth 50000 in
def V_law_1692 (d : Nat) (S : AS) (F : AF) (G : AG) (Q : AQ) (a1 : Nat) (a2 : Nat) (a3 : Int) : Prop :=
  (r32 (a3 + 1)) ∧
  ((0 : Int) ≤ a3 + 1) ∧
  ((a3 + 1 : Int) < (sL S : Int)) ∧
  (r32 (a3 + 2)) ∧
  ((0 : Int) ≤ a3 + 2) ∧
  ((a3 + 2 : Int) < (sL S : Int)) ∧
  (r32 (a3 + 3)) ∧
  ((0 : Int) ≤ a3 + 3) ∧
  ((a3 + 3 : Int) < (sL S : Int)) ∧
  (r32 (a3 + 4)) ∧
  ((0 : Int) ≤ a3 + 4) ∧
  ((a3 + 4 : Int) < (sL S : Int)) ∧
  (r32 (a3 + 5)) ∧
  ((0 : Int) ≤ a3 + 5) ∧
  ((a3 + 5 : Int) < (sL S : Int)) ∧
  (r32 (a3 + 6)) ∧
  ((0 : Int) ≤ a3 + 6) ∧
  ((a3 + 6 : Int) < (sL S : Int)) ∧
  (r32 (a3 + 7)) ∧
  ((0 : Int) ≤ a3 + 7) ∧
  ((a3 + 7 : Int) < (sL S : Int)) ∧
  (1 ≤ d) ∧
  (sK S a1 = 9) ∧
  Ok (d - 1) MX9_touched [vR a1, vI (sx S (a3 + 1)), vI (sx S (a3 + 2)), vI (sx S (a3 + 3)), vI (sx S (a3 + 4)), vI (sx S (a3 + 5)), vJ (jOr (jShl (sx S (a3 + 6)) 32) (jAnd (sx S (a3 + 7)) 4294967295))] S F G (fun w23 S24 F25 G26 =>
  ∃ z28 : Int, w23 = some (vJ z28) ∧
  (r32 (a3 + 1)) ∧
  ((0 : Int) ≤ a3 + 1) ∧
  ((a3 + 1 : Int) < (sL S24 : Int)) ∧
  (r32 (a3 + 2)) ∧
  ((0 : Int) ≤ a3 + 2) ∧
  ((a3 + 2 : Int) < (sL S24 : Int)) ∧
  (r32 (a3 + 3)) ∧
  ((0 : Int) ≤ a3 + 3) ∧
  ((a3 + 3 : Int) < (sL S24 : Int)) ∧
  (r32 (a3 + 4)) ∧
  ((0 : Int) ≤ a3 + 4) ∧
  ((a3 + 4 : Int) < (sL S24 : Int)) ∧
  (r32 (a3 + 5)) ∧
  ((0 : Int) ≤ a3 + 5) ∧
  ((a3 + 5 : Int) < (sL S24 : Int)) ∧
  (r32 (a3 + 6)) ∧
  ((0 : Int) ≤ a3 + 6) ∧
  ((a3 + 6 : Int) < (sL S24 : Int)) ∧
  (r32 (a3 + 7)) ∧
  ((0 : Int) ≤ a3 + 7) ∧
  ((a3 + 7 : Int) < (sL S24 : Int)) ∧
  (sK S24 a2 = 10) ∧
  Ok (d - 1) MX10_touched [vR a2, vI (sx S24 (a3 + 1)), vI (sx S24 (a3 + 2)), vI (sx S24 (a3 + 3)), vI (sx S24 (a3 + 4)), vI (sx S24 (a3 + 5)), vJ (jOr (jShl (sx S24 (a3 + 6)) 32) (jAnd (sx S24 (a3 + 7)) 4294967295))] S24 F25 G26 (fun w50 S51 F52 G53 =>
  ∃ z55 : Int, w50 = some (vJ z55) ∧
  ((z28 = z55) →
    V_law_2110 d S51 F52 G53 Q a1 a2 a3) ∧
  ((¬ z28 = z55) →
    Q (some (vI 0)) S51 F52 G53)))
set_option maxHeartbeats 4000000 in
set_option maxRecDepth 50000 in
theorem R_law_1692 {d : Nat} {S : AS} {F : AF} {G : AG} {Q : AQ} {a1 : Nat} {a2 : Nat} {a3 : Int} (h : V_law_1692 d S F G Q a1 a2 a3) : Go d Mlaw 1692 [some (vR 999999), some (vR a1), some (vR a2), some (vI a3)] [] S F G Q := by
  unfold V_law_1692 at h
  refine go_aload_n (show decode code 1692 = .ok (.aload_n 1, 1) by decide +kernel) (by rfl) ?_
  refine go_aload_n (show decode code 1693 = .ok (.aload_n 0, 1) by decide +kernel) (by rfl) ?_
  refine go_iload_n (show decode code 1694 = .ok (.iload_n 3, 1) by decide +kernel) (by rfl) ?_
  refine go_iconst (show decode code 1695 = .ok (.iconst 1, 1) by decide +kernel) (by decide) ?_
  obtain ⟨q1, h⟩ := h
  refine go_iadd (show decode code 1696 = .ok (.iadd, 1) by decide +kernel) q1 ?_
  obtain ⟨q2, h⟩ := h
  obtain ⟨q3, h⟩ := h
  refine go_scrld (show decode code 1697 = .ok (.iaload, 1) by decide +kernel) rfl q2 q3 ?_
  refine go_aload_n (show decode code 1698 = .ok (.aload_n 0, 1) by decide +kernel) (by rfl) ?_
  refine go_iload_n (show decode code 1699 = .ok (.iload_n 3, 1) by decide +kernel) (by rfl) ?_
  refine go_iconst (show decode code 1700 = .ok (.iconst 2, 1) by decide +kernel) (by decide) ?_
  obtain ⟨q4, h⟩ := h
  refine go_iadd (show decode code 1701 = .ok (.iadd, 1) by decide +kernel) q4 ?_
  obtain ⟨q5, h⟩ := h
  obtain ⟨q6, h⟩ := h
  refine go_scrld (show decode code 1702 = .ok (.iaload, 1) by decide +kernel) rfl q5 q6 ?_
  refine go_aload_n (show decode code 1703 = .ok (.aload_n 0, 1) by decide +kernel) (by rfl) ?_
  refine go_iload_n (show decode code 1704 = .ok (.iload_n 3, 1) by decide +kernel) (by rfl) ?_
  refine go_iconst (show decode code 1705 = .ok (.iconst 3, 1) by decide +kernel) (by decide) ?_
  obtain ⟨q7, h⟩ := h
  refine go_iadd (show decode code 1706 = .ok (.iadd, 1) by decide +kernel) q7 ?_
  obtain ⟨q8, h⟩ := h
  obtain ⟨q9, h⟩ := h
  refine go_scrld (show decode code 1707 = .ok (.iaload, 1) by decide +kernel) rfl q8 q9 ?_
  refine go_aload_n (show decode code 1708 = .ok (.aload_n 0, 1) by decide +kernel) (by rfl) ?_
  refine go_iload_n (show decode code 1709 = .ok (.iload_n 3, 1) by decide +kernel) (by rfl) ?_
  refine go_iconst (show decode code 1710 = .ok (.iconst 4, 1) by decide +kernel) (by decide) ?_
  obtain ⟨q10, h⟩ := h
  refine go_iadd (show decode code 1711 = .ok (.iadd, 1) by decide +kernel) q10 ?_
  obtain ⟨q11, h⟩ := h
  obtain ⟨q12, h⟩ := h
  refine go_scrld (show decode code 1712 = .ok (.iaload, 1) by decide +kernel) rfl q11 q12 ?_
  refine go_aload_n (show decode code 1713 = .ok (.aload_n 0, 1) by decide +kernel) (by rfl) ?_
  refine go_iload_n (show decode code 1714 = .ok (.iload_n 3, 1) by decide +kernel) (by rfl) ?_
  refine go_iconst (show decode code 1715 = .ok (.iconst 5, 1) by decide +kernel) (by decide) ?_
  obtain ⟨q13, h⟩ := h
  refine go_iadd (show decode code 1716 = .ok (.iadd, 1) by decide +kernel) q13 ?_
  obtain ⟨q14, h⟩ := h
  obtain ⟨q15, h⟩ := h
  refine go_scrld (show decode code 1717 = .ok (.iaload, 1) by decide +kernel) rfl q14 q15 ?_
  refine go_aload_n (show decode code 1718 = .ok (.aload_n 0, 1) by decide +kernel) (by rfl) ?_
  refine go_iload_n (show decode code 1719 = .ok (.iload_n 3, 1) by decide +kernel) (by rfl) ?_
  refine go_bipush (show decode code 1720 = .ok (.bipush 6, 2) by decide +kernel) (by decide) ?_
  obtain ⟨q16, h⟩ := h
  refine go_iadd (show decode code 1722 = .ok (.iadd, 1) by decide +kernel) q16 ?_
  obtain ⟨q17, h⟩ := h
  obtain ⟨q18, h⟩ := h
  refine go_scrld (show decode code 1723 = .ok (.iaload, 1) by decide +kernel) rfl q17 q18 ?_
  refine go_i2l (show decode code 1724 = .ok (.i2l, 1) by decide +kernel) ?_
  refine go_bipush (show decode code 1725 = .ok (.bipush 32, 2) by decide +kernel) (by decide) ?_
  refine go_lshl (show decode code 1727 = .ok (.lshl, 1) by decide +kernel) ?_
  refine go_aload_n (show decode code 1728 = .ok (.aload_n 0, 1) by decide +kernel) (by rfl) ?_
  refine go_iload_n (show decode code 1729 = .ok (.iload_n 3, 1) by decide +kernel) (by rfl) ?_
  refine go_bipush (show decode code 1730 = .ok (.bipush 7, 2) by decide +kernel) (by decide) ?_
  obtain ⟨q19, h⟩ := h
  refine go_iadd (show decode code 1732 = .ok (.iadd, 1) by decide +kernel) q19 ?_
  obtain ⟨q20, h⟩ := h
  obtain ⟨q21, h⟩ := h
  refine go_scrld (show decode code 1733 = .ok (.iaload, 1) by decide +kernel) rfl q20 q21 ?_
  refine go_i2l (show decode code 1734 = .ok (.i2l, 1) by decide +kernel) ?_
  refine go_ldc2 (show decode code 1735 = .ok (.ldc2_w 13, 3) by decide +kernel) lc_L_13 (by decide) ?_
  refine go_land (show decode code 1738 = .ok (.land, 1) by decide +kernel) ?_
  refine go_lor (show decode code 1739 = .ok (.lor, 1) by decide +kernel) ?_
  obtain ⟨q22, h⟩ := h
  obtain ⟨q27, h⟩ := h
  refine go_callV (d2 := d - 1) (M2 := MX9_touched) (n := 6) (ci := 9) (av := [vI (sx S (a3 + 1)), vI (sx S (a3 + 2)), vI (sx S (a3 + 3)), vI (sx S (a3 + 4)), vI (sx S (a3 + 5)), vJ (jOr (jShl (sx S (a3 + 6)) 32) (jAnd (sx S (a3 + 7)) 4294967295))]) (st := []) (show decode code 1740 = .ok (.invokevirtual 123, 3) by decide +kernel) ml_L_123 mt_X9_touched min_X9_touched mse_X9_touched (by decide) q27 rfl (Nat.le_of_ble_eq_true rfl) (by omega) (ok_mono h (fun w23 S24 F25 G26 h => ?_))
  obtain ⟨z28, e9, h⟩ := h
  subst e9
  show Go d Mlaw 1743 [some (vR 999999), some (vR a1), some (vR a2), some (vI a3)] [vJ z28] S24 F25 G26 Q
  refine go_aload_n (show decode code 1743 = .ok (.aload_n 2, 1) by decide +kernel) (by rfl) ?_
  refine go_aload_n (show decode code 1744 = .ok (.aload_n 0, 1) by decide +kernel) (by rfl) ?_
  refine go_iload_n (show decode code 1745 = .ok (.iload_n 3, 1) by decide +kernel) (by rfl) ?_
  refine go_iconst (show decode code 1746 = .ok (.iconst 1, 1) by decide +kernel) (by decide) ?_
  obtain ⟨q29, h⟩ := h
  refine go_iadd (show decode code 1747 = .ok (.iadd, 1) by decide +kernel) q29 ?_
  obtain ⟨q30, h⟩ := h
  obtain ⟨q31, h⟩ := h
  refine go_scrld (show decode code 1748 = .ok (.iaload, 1) by decide +kernel) rfl q30 q31 ?_
  refine go_aload_n (show decode code 1749 = .ok (.aload_n 0, 1) by decide +kernel) (by rfl) ?_
  refine go_iload_n (show decode code 1750 = .ok (.iload_n 3, 1) by decide +kernel) (by rfl) ?_
  refine go_iconst (show decode code 1751 = .ok (.iconst 2, 1) by decide +kernel) (by decide) ?_
  obtain ⟨q32, h⟩ := h
  refine go_iadd (show decode code 1752 = .ok (.iadd, 1) by decide +kernel) q32 ?_
  obtain ⟨q33, h⟩ := h
  obtain ⟨q34, h⟩ := h
  refine go_scrld (show decode code 1753 = .ok (.iaload, 1) by decide +kernel) rfl q33 q34 ?_
  refine go_aload_n (show decode code 1754 = .ok (.aload_n 0, 1) by decide +kernel) (by rfl) ?_
  refine go_iload_n (show decode code 1755 = .ok (.iload_n 3, 1) by decide +kernel) (by rfl) ?_
  refine go_iconst (show decode code 1756 = .ok (.iconst 3, 1) by decide +kernel) (by decide) ?_
  obtain ⟨q35, h⟩ := h
  refine go_iadd (show decode code 1757 = .ok (.iadd, 1) by decide +kernel) q35 ?_
  obtain ⟨q36, h⟩ := h
  obtain ⟨q37, h⟩ := h
  refine go_scrld (show decode code 1758 = .ok (.iaload, 1) by decide +kernel) rfl q36 q37 ?_
  refine go_aload_n (show decode code 1759 = .ok (.aload_n 0, 1) by decide +kernel) (by rfl) ?_
  refine go_iload_n (show decode code 1760 = .ok (.iload_n 3, 1) by decide +kernel) (by rfl) ?_
  refine go_iconst (show decode code 1761 = .ok (.iconst 4, 1) by decide +kernel) (by decide) ?_
  obtain ⟨q38, h⟩ := h
  refine go_iadd (show decode code 1762 = .ok (.iadd, 1) by decide +kernel) q38 ?_
  obtain ⟨q39, h⟩ := h
  obtain ⟨q40, h⟩ := h
  refine go_scrld (show decode code 1763 = .ok (.iaload, 1) by decide +kernel) rfl q39 q40 ?_
  refine go_aload_n (show decode code 1764 = .ok (.aload_n 0, 1) by decide +kernel) (by rfl) ?_
  refine go_iload_n (show decode code 1765 = .ok (.iload_n 3, 1) by decide +kernel) (by rfl) ?_
  refine go_iconst (show decode code 1766 = .ok (.iconst 5, 1) by decide +kernel) (by decide) ?_
  obtain ⟨q41, h⟩ := h
  refine go_iadd (show decode code 1767 = .ok (.iadd, 1) by decide +kernel) q41 ?_
  obtain ⟨q42, h⟩ := h
  obtain ⟨q43, h⟩ := h
  refine go_scrld (show decode code 1768 = .ok (.iaload, 1) by decide +kernel) rfl q42 q43 ?_
  refine go_aload_n (show decode code 1769 = .ok (.aload_n 0, 1) by decide +kernel) (by rfl) ?_
  refine go_iload_n (show decode code 1770 = .ok (.iload_n 3, 1) by decide +kernel) (by rfl) ?_
  refine go_bipush (show decode code 1771 = .ok (.bipush 6, 2) by decide +kernel) (by decide) ?_
  obtain ⟨q44, h⟩ := h
  refine go_iadd (show decode code 1773 = .ok (.iadd, 1) by decide +kernel) q44 ?_
  obtain ⟨q45, h⟩ := h
  obtain ⟨q46, h⟩ := h
  refine go_scrld (show decode code 1774 = .ok (.iaload, 1) by decide +kernel) rfl q45 q46 ?_
  refine go_i2l (show decode code 1775 = .ok (.i2l, 1) by decide +kernel) ?_
  refine go_bipush (show decode code 1776 = .ok (.bipush 32, 2) by decide +kernel) (by decide) ?_
  refine go_lshl (show decode code 1778 = .ok (.lshl, 1) by decide +kernel) ?_
  refine go_aload_n (show decode code 1779 = .ok (.aload_n 0, 1) by decide +kernel) (by rfl) ?_
  refine go_iload_n (show decode code 1780 = .ok (.iload_n 3, 1) by decide +kernel) (by rfl) ?_
  refine go_bipush (show decode code 1781 = .ok (.bipush 7, 2) by decide +kernel) (by decide) ?_
  obtain ⟨q47, h⟩ := h
  refine go_iadd (show decode code 1783 = .ok (.iadd, 1) by decide +kernel) q47 ?_
  obtain ⟨q48, h⟩ := h
  obtain ⟨q49, h⟩ := h
  refine go_scrld (show decode code 1784 = .ok (.iaload, 1) by decide +kernel) rfl q48 q49 ?_
  refine go_i2l (show decode code 1785 = .ok (.i2l, 1) by decide +kernel) ?_
  refine go_ldc2 (show decode code 1786 = .ok (.ldc2_w 13, 3) by decide +kernel) lc_L_13 (by decide) ?_
  refine go_land (show decode code 1789 = .ok (.land, 1) by decide +kernel) ?_
  refine go_lor (show decode code 1790 = .ok (.lor, 1) by decide +kernel) ?_
  obtain ⟨q54, h⟩ := h
  refine go_callV (d2 := d - 1) (M2 := MX10_touched) (n := 6) (ci := 10) (av := [vI (sx S24 (a3 + 1)), vI (sx S24 (a3 + 2)), vI (sx S24 (a3 + 3)), vI (sx S24 (a3 + 4)), vI (sx S24 (a3 + 5)), vJ (jOr (jShl (sx S24 (a3 + 6)) 32) (jAnd (sx S24 (a3 + 7)) 4294967295))]) (st := [vJ z28]) (show decode code 1791 = .ok (.invokevirtual 126, 3) by decide +kernel) ml_L_126 mt_X10_touched min_X10_touched mse_X10_touched (by decide) q54 rfl (Nat.le_of_ble_eq_true rfl) (by omega) (ok_mono h (fun w50 S51 F52 G53 h => ?_))
  obtain ⟨z55, e9, h⟩ := h
  subst e9
  show Go d Mlaw 1794 [some (vR 999999), some (vR a1), some (vR a2), some (vI a3)] [vJ z55, vJ z28] S51 F52 G53 Q
  obtain ⟨ht, hf⟩ := h
  refine go_jeq (tgt := 2110) (show decode code 1794 = .ok (.lcmp, 1) by decide +kernel) (show decode code 1795 = .ok (.ifCond .eq 315, 3) by decide +kernel) (by decide) (fun hc => ?_) (fun hc => ?_)
  · have h := ht hc
    exact R_law_2110 h
  · have h := hf hc
    refine go_iconst (show decode code 1798 = .ok (.iconst 0, 1) by decide +kernel) (by decide) ?_
    exact go_zret (show decode code 1799 = .ok (.ireturn, 1) by decide +kernel) rfl (by decide) h
set_option maxHeartbeats 4000000 in
set_option maxRecDepth 50000 in
def V_law_1584 (d : Nat) (S : AS) (F : AF) (G : AG) (Q : AQ) (a1 : Nat) (a2 : Nat) (a3 : Int) : Prop :=
  (r32 (a3 + 1)) ∧
  ((0 : Int) ≤ a3 + 1) ∧
  ((a3 + 1 : Int) < (sL S : Int)) ∧
  (r32 (a3 + 2)) ∧
  ((0 : Int) ≤ a3 + 2) ∧
  ((a3 + 2 : Int) < (sL S : Int)) ∧
  (r32 (a3 + 3)) ∧
  ((0 : Int) ≤ a3 + 3) ∧
  ((a3 + 3 : Int) < (sL S : Int)) ∧
  (r32 (a3 + 4)) ∧
  ((0 : Int) ≤ a3 + 4) ∧
  ((a3 + 4 : Int) < (sL S : Int)) ∧
  (r32 (a3 + 5)) ∧
  ((0 : Int) ≤ a3 + 5) ∧
  ((a3 + 5 : Int) < (sL S : Int)) ∧
  (r32 (a3 + 6)) ∧
  ((0 : Int) ≤ a3 + 6) ∧
  ((a3 + 6 : Int) < (sL S : Int)) ∧
  (r32 (a3 + 7)) ∧
  ((0 : Int) ≤ a3 + 7) ∧
  ((a3 + 7 : Int) < (sL S : Int)) ∧
  (1 ≤ d) ∧
  (sK S a1 = 9) ∧
  Ok (d - 1) MX9_findIn [vR a1, vI (sx S (a3 + 1)), vI (sx S (a3 + 2)), vI (sx S (a3 + 3)), vI (sx S (a3 + 4)), vI (sx S (a3 + 5)), vJ (jOr (jShl (sx S (a3 + 6)) 32) (jAnd (sx S (a3 + 7)) 4294967295))] S F G (fun w23 S24 F25 G26 =>
  ∃ z28 : Int, w23 = some (vJ z28) ∧
  (r32 (a3 + 1)) ∧
  ((0 : Int) ≤ a3 + 1) ∧
  ((a3 + 1 : Int) < (sL S24 : Int)) ∧
  (r32 (a3 + 2)) ∧
  ((0 : Int) ≤ a3 + 2) ∧
  ((a3 + 2 : Int) < (sL S24 : Int)) ∧
  (r32 (a3 + 3)) ∧
  ((0 : Int) ≤ a3 + 3) ∧
  ((a3 + 3 : Int) < (sL S24 : Int)) ∧
  (r32 (a3 + 4)) ∧
  ((0 : Int) ≤ a3 + 4) ∧
  ((a3 + 4 : Int) < (sL S24 : Int)) ∧
  (r32 (a3 + 5)) ∧
  ((0 : Int) ≤ a3 + 5) ∧
  ((a3 + 5 : Int) < (sL S24 : Int)) ∧
  (r32 (a3 + 6)) ∧
  ((0 : Int) ≤ a3 + 6) ∧
  ((a3 + 6 : Int) < (sL S24 : Int)) ∧
  (r32 (a3 + 7)) ∧
  ((0 : Int) ≤ a3 + 7) ∧
  ((a3 + 7 : Int) < (sL S24 : Int)) ∧
  (sK S24 a2 = 10) ∧
  Ok (d - 1) MX10_findIn [vR a2, vI (sx S24 (a3 + 1)), vI (sx S24 (a3 + 2)), vI (sx S24 (a3 + 3)), vI (sx S24 (a3 + 4)), vI (sx S24 (a3 + 5)), vJ (jOr (jShl (sx S24 (a3 + 6)) 32) (jAnd (sx S24 (a3 + 7)) 4294967295))] S24 F25 G26 (fun w50 S51 F52 G53 =>
  ∃ z55 : Int, w50 = some (vJ z55) ∧
  ((z28 = z55) →
    V_law_2110 d S51 F52 G53 Q a1 a2 a3) ∧
  ((¬ z28 = z55) →
    Q (some (vI 0)) S51 F52 G53)))
set_option maxHeartbeats 4000000 in
set_option maxRecDepth 50000 in
theorem R_law_1584 {d : Nat} {S : AS} {F : AF} {G : AG} {Q : AQ} {a1 : Nat} {a2 : Nat} {a3 : Int} (h : V_law_1584 d S F G Q a1 a2 a3) : Go d Mlaw 1584 [some (vR 999999), some (vR a1), some (vR a2), some (vI a3)] [] S F G Q := by
  unfold V_law_1584 at h
  refine go_aload_n (show decode code 1584 = .ok (.aload_n 1, 1) by decide +kernel) (by rfl) ?_
  refine go_aload_n (show decode code 1585 = .ok (.aload_n 0, 1) by decide +kernel) (by rfl) ?_
  refine go_iload_n (show decode code 1586 = .ok (.iload_n 3, 1) by decide +kernel) (by rfl) ?_
  refine go_iconst (show decode code 1587 = .ok (.iconst 1, 1) by decide +kernel) (by decide) ?_
  obtain ⟨q1, h⟩ := h
  refine go_iadd (show decode code 1588 = .ok (.iadd, 1) by decide +kernel) q1 ?_
  obtain ⟨q2, h⟩ := h
  obtain ⟨q3, h⟩ := h
  refine go_scrld (show decode code 1589 = .ok (.iaload, 1) by decide +kernel) rfl q2 q3 ?_
  refine go_aload_n (show decode code 1590 = .ok (.aload_n 0, 1) by decide +kernel) (by rfl) ?_
  refine go_iload_n (show decode code 1591 = .ok (.iload_n 3, 1) by decide +kernel) (by rfl) ?_
  refine go_iconst (show decode code 1592 = .ok (.iconst 2, 1) by decide +kernel) (by decide) ?_
  obtain ⟨q4, h⟩ := h
  refine go_iadd (show decode code 1593 = .ok (.iadd, 1) by decide +kernel) q4 ?_
  obtain ⟨q5, h⟩ := h
  obtain ⟨q6, h⟩ := h
  refine go_scrld (show decode code 1594 = .ok (.iaload, 1) by decide +kernel) rfl q5 q6 ?_
  refine go_aload_n (show decode code 1595 = .ok (.aload_n 0, 1) by decide +kernel) (by rfl) ?_
  refine go_iload_n (show decode code 1596 = .ok (.iload_n 3, 1) by decide +kernel) (by rfl) ?_
  refine go_iconst (show decode code 1597 = .ok (.iconst 3, 1) by decide +kernel) (by decide) ?_
  obtain ⟨q7, h⟩ := h
  refine go_iadd (show decode code 1598 = .ok (.iadd, 1) by decide +kernel) q7 ?_
  obtain ⟨q8, h⟩ := h
  obtain ⟨q9, h⟩ := h
  refine go_scrld (show decode code 1599 = .ok (.iaload, 1) by decide +kernel) rfl q8 q9 ?_
  refine go_aload_n (show decode code 1600 = .ok (.aload_n 0, 1) by decide +kernel) (by rfl) ?_
  refine go_iload_n (show decode code 1601 = .ok (.iload_n 3, 1) by decide +kernel) (by rfl) ?_
  refine go_iconst (show decode code 1602 = .ok (.iconst 4, 1) by decide +kernel) (by decide) ?_
  obtain ⟨q10, h⟩ := h
  refine go_iadd (show decode code 1603 = .ok (.iadd, 1) by decide +kernel) q10 ?_
  obtain ⟨q11, h⟩ := h
  obtain ⟨q12, h⟩ := h
  refine go_scrld (show decode code 1604 = .ok (.iaload, 1) by decide +kernel) rfl q11 q12 ?_
  refine go_aload_n (show decode code 1605 = .ok (.aload_n 0, 1) by decide +kernel) (by rfl) ?_
  refine go_iload_n (show decode code 1606 = .ok (.iload_n 3, 1) by decide +kernel) (by rfl) ?_
  refine go_iconst (show decode code 1607 = .ok (.iconst 5, 1) by decide +kernel) (by decide) ?_
  obtain ⟨q13, h⟩ := h
  refine go_iadd (show decode code 1608 = .ok (.iadd, 1) by decide +kernel) q13 ?_
  obtain ⟨q14, h⟩ := h
  obtain ⟨q15, h⟩ := h
  refine go_scrld (show decode code 1609 = .ok (.iaload, 1) by decide +kernel) rfl q14 q15 ?_
  refine go_aload_n (show decode code 1610 = .ok (.aload_n 0, 1) by decide +kernel) (by rfl) ?_
  refine go_iload_n (show decode code 1611 = .ok (.iload_n 3, 1) by decide +kernel) (by rfl) ?_
  refine go_bipush (show decode code 1612 = .ok (.bipush 6, 2) by decide +kernel) (by decide) ?_
  obtain ⟨q16, h⟩ := h
  refine go_iadd (show decode code 1614 = .ok (.iadd, 1) by decide +kernel) q16 ?_
  obtain ⟨q17, h⟩ := h
  obtain ⟨q18, h⟩ := h
  refine go_scrld (show decode code 1615 = .ok (.iaload, 1) by decide +kernel) rfl q17 q18 ?_
  refine go_i2l (show decode code 1616 = .ok (.i2l, 1) by decide +kernel) ?_
  refine go_bipush (show decode code 1617 = .ok (.bipush 32, 2) by decide +kernel) (by decide) ?_
  refine go_lshl (show decode code 1619 = .ok (.lshl, 1) by decide +kernel) ?_
  refine go_aload_n (show decode code 1620 = .ok (.aload_n 0, 1) by decide +kernel) (by rfl) ?_
  refine go_iload_n (show decode code 1621 = .ok (.iload_n 3, 1) by decide +kernel) (by rfl) ?_
  refine go_bipush (show decode code 1622 = .ok (.bipush 7, 2) by decide +kernel) (by decide) ?_
  obtain ⟨q19, h⟩ := h
  refine go_iadd (show decode code 1624 = .ok (.iadd, 1) by decide +kernel) q19 ?_
  obtain ⟨q20, h⟩ := h
  obtain ⟨q21, h⟩ := h
  refine go_scrld (show decode code 1625 = .ok (.iaload, 1) by decide +kernel) rfl q20 q21 ?_
  refine go_i2l (show decode code 1626 = .ok (.i2l, 1) by decide +kernel) ?_
  refine go_ldc2 (show decode code 1627 = .ok (.ldc2_w 13, 3) by decide +kernel) lc_L_13 (by decide) ?_
  refine go_land (show decode code 1630 = .ok (.land, 1) by decide +kernel) ?_
  refine go_lor (show decode code 1631 = .ok (.lor, 1) by decide +kernel) ?_
  obtain ⟨q22, h⟩ := h
  obtain ⟨q27, h⟩ := h
  refine go_callV (d2 := d - 1) (M2 := MX9_findIn) (n := 6) (ci := 9) (av := [vI (sx S (a3 + 1)), vI (sx S (a3 + 2)), vI (sx S (a3 + 3)), vI (sx S (a3 + 4)), vI (sx S (a3 + 5)), vJ (jOr (jShl (sx S (a3 + 6)) 32) (jAnd (sx S (a3 + 7)) 4294967295))]) (st := []) (show decode code 1632 = .ok (.invokevirtual 119, 3) by decide +kernel) ml_L_119 mt_X9_findIn min_X9_findIn mse_X9_findIn (by decide) q27 rfl (Nat.le_of_ble_eq_true rfl) (by omega) (ok_mono h (fun w23 S24 F25 G26 h => ?_))
  obtain ⟨z28, e9, h⟩ := h
  subst e9
  show Go d Mlaw 1635 [some (vR 999999), some (vR a1), some (vR a2), some (vI a3)] [vJ z28] S24 F25 G26 Q
  refine go_aload_n (show decode code 1635 = .ok (.aload_n 2, 1) by decide +kernel) (by rfl) ?_
  refine go_aload_n (show decode code 1636 = .ok (.aload_n 0, 1) by decide +kernel) (by rfl) ?_
  refine go_iload_n (show decode code 1637 = .ok (.iload_n 3, 1) by decide +kernel) (by rfl) ?_
  refine go_iconst (show decode code 1638 = .ok (.iconst 1, 1) by decide +kernel) (by decide) ?_
  obtain ⟨q29, h⟩ := h
  refine go_iadd (show decode code 1639 = .ok (.iadd, 1) by decide +kernel) q29 ?_
  obtain ⟨q30, h⟩ := h
  obtain ⟨q31, h⟩ := h
  refine go_scrld (show decode code 1640 = .ok (.iaload, 1) by decide +kernel) rfl q30 q31 ?_
  refine go_aload_n (show decode code 1641 = .ok (.aload_n 0, 1) by decide +kernel) (by rfl) ?_
  refine go_iload_n (show decode code 1642 = .ok (.iload_n 3, 1) by decide +kernel) (by rfl) ?_
  refine go_iconst (show decode code 1643 = .ok (.iconst 2, 1) by decide +kernel) (by decide) ?_
  obtain ⟨q32, h⟩ := h
  refine go_iadd (show decode code 1644 = .ok (.iadd, 1) by decide +kernel) q32 ?_
  obtain ⟨q33, h⟩ := h
  obtain ⟨q34, h⟩ := h
  refine go_scrld (show decode code 1645 = .ok (.iaload, 1) by decide +kernel) rfl q33 q34 ?_
  refine go_aload_n (show decode code 1646 = .ok (.aload_n 0, 1) by decide +kernel) (by rfl) ?_
  refine go_iload_n (show decode code 1647 = .ok (.iload_n 3, 1) by decide +kernel) (by rfl) ?_
  refine go_iconst (show decode code 1648 = .ok (.iconst 3, 1) by decide +kernel) (by decide) ?_
  obtain ⟨q35, h⟩ := h
  refine go_iadd (show decode code 1649 = .ok (.iadd, 1) by decide +kernel) q35 ?_
  obtain ⟨q36, h⟩ := h
  obtain ⟨q37, h⟩ := h
  refine go_scrld (show decode code 1650 = .ok (.iaload, 1) by decide +kernel) rfl q36 q37 ?_
  refine go_aload_n (show decode code 1651 = .ok (.aload_n 0, 1) by decide +kernel) (by rfl) ?_
  refine go_iload_n (show decode code 1652 = .ok (.iload_n 3, 1) by decide +kernel) (by rfl) ?_
  refine go_iconst (show decode code 1653 = .ok (.iconst 4, 1) by decide +kernel) (by decide) ?_
  obtain ⟨q38, h⟩ := h
  refine go_iadd (show decode code 1654 = .ok (.iadd, 1) by decide +kernel) q38 ?_
  obtain ⟨q39, h⟩ := h
  obtain ⟨q40, h⟩ := h
  refine go_scrld (show decode code 1655 = .ok (.iaload, 1) by decide +kernel) rfl q39 q40 ?_
  refine go_aload_n (show decode code 1656 = .ok (.aload_n 0, 1) by decide +kernel) (by rfl) ?_
  refine go_iload_n (show decode code 1657 = .ok (.iload_n 3, 1) by decide +kernel) (by rfl) ?_
  refine go_iconst (show decode code 1658 = .ok (.iconst 5, 1) by decide +kernel) (by decide) ?_
  obtain ⟨q41, h⟩ := h
  refine go_iadd (show decode code 1659 = .ok (.iadd, 1) by decide +kernel) q41 ?_
  obtain ⟨q42, h⟩ := h
  obtain ⟨q43, h⟩ := h
  refine go_scrld (show decode code 1660 = .ok (.iaload, 1) by decide +kernel) rfl q42 q43 ?_
  refine go_aload_n (show decode code 1661 = .ok (.aload_n 0, 1) by decide +kernel) (by rfl) ?_
  refine go_iload_n (show decode code 1662 = .ok (.iload_n 3, 1) by decide +kernel) (by rfl) ?_
  refine go_bipush (show decode code 1663 = .ok (.bipush 6, 2) by decide +kernel) (by decide) ?_
  obtain ⟨q44, h⟩ := h
  refine go_iadd (show decode code 1665 = .ok (.iadd, 1) by decide +kernel) q44 ?_
  obtain ⟨q45, h⟩ := h
  obtain ⟨q46, h⟩ := h
  refine go_scrld (show decode code 1666 = .ok (.iaload, 1) by decide +kernel) rfl q45 q46 ?_
  refine go_i2l (show decode code 1667 = .ok (.i2l, 1) by decide +kernel) ?_
  refine go_bipush (show decode code 1668 = .ok (.bipush 32, 2) by decide +kernel) (by decide) ?_
  refine go_lshl (show decode code 1670 = .ok (.lshl, 1) by decide +kernel) ?_
  refine go_aload_n (show decode code 1671 = .ok (.aload_n 0, 1) by decide +kernel) (by rfl) ?_
  refine go_iload_n (show decode code 1672 = .ok (.iload_n 3, 1) by decide +kernel) (by rfl) ?_
  refine go_bipush (show decode code 1673 = .ok (.bipush 7, 2) by decide +kernel) (by decide) ?_
  obtain ⟨q47, h⟩ := h
  refine go_iadd (show decode code 1675 = .ok (.iadd, 1) by decide +kernel) q47 ?_
  obtain ⟨q48, h⟩ := h
  obtain ⟨q49, h⟩ := h
  refine go_scrld (show decode code 1676 = .ok (.iaload, 1) by decide +kernel) rfl q48 q49 ?_
  refine go_i2l (show decode code 1677 = .ok (.i2l, 1) by decide +kernel) ?_
  refine go_ldc2 (show decode code 1678 = .ok (.ldc2_w 13, 3) by decide +kernel) lc_L_13 (by decide) ?_
  refine go_land (show decode code 1681 = .ok (.land, 1) by decide +kernel) ?_
  refine go_lor (show decode code 1682 = .ok (.lor, 1) by decide +kernel) ?_
  obtain ⟨q54, h⟩ := h
  refine go_callV (d2 := d - 1) (M2 := MX10_findIn) (n := 6) (ci := 10) (av := [vI (sx S24 (a3 + 1)), vI (sx S24 (a3 + 2)), vI (sx S24 (a3 + 3)), vI (sx S24 (a3 + 4)), vI (sx S24 (a3 + 5)), vJ (jOr (jShl (sx S24 (a3 + 6)) 32) (jAnd (sx S24 (a3 + 7)) 4294967295))]) (st := [vJ z28]) (show decode code 1683 = .ok (.invokevirtual 122, 3) by decide +kernel) ml_L_122 mt_X10_findIn min_X10_findIn mse_X10_findIn (by decide) q54 rfl (Nat.le_of_ble_eq_true rfl) (by omega) (ok_mono h (fun w50 S51 F52 G53 h => ?_))
  obtain ⟨z55, e9, h⟩ := h
  subst e9
  show Go d Mlaw 1686 [some (vR 999999), some (vR a1), some (vR a2), some (vI a3)] [vJ z55, vJ z28] S51 F52 G53 Q
  obtain ⟨ht, hf⟩ := h
  refine go_jeq (tgt := 2110) (show decode code 1686 = .ok (.lcmp, 1) by decide +kernel) (show decode code 1687 = .ok (.ifCond .eq 423, 3) by decide +kernel) (by decide) (fun hc => ?_) (fun hc => ?_)
  · have h := ht hc
    exact R_law_2110 h
  · have h := hf hc
    refine go_iconst (show decode code 1690 = .ok (.iconst 0, 1) by decide +kernel) (by decide) ?_
    exact go_zret (show decode code 1691 = .ok (.ireturn, 1) by decide +kernel) rfl (by decide) h
set_option maxHeartbeats 4000000 in
set_option maxRecDepth 50000 in
def V_law_1510 (d : Nat) (S : AS) (F : AF) (G : AG) (Q : AQ) (a1 : Nat) (a2 : Nat) (a3 : Int) : Prop :=
  (r32 (a3 + 1)) ∧
  ((0 : Int) ≤ a3 + 1) ∧
  ((a3 + 1 : Int) < (sL S : Int)) ∧
  (r32 (a3 + 2)) ∧
  ((0 : Int) ≤ a3 + 2) ∧
  ((a3 + 2 : Int) < (sL S : Int)) ∧
  (r32 (a3 + 3)) ∧
  ((0 : Int) ≤ a3 + 3) ∧
  ((a3 + 3 : Int) < (sL S : Int)) ∧
  (r32 (a3 + 4)) ∧
  ((0 : Int) ≤ a3 + 4) ∧
  ((a3 + 4 : Int) < (sL S : Int)) ∧
  (1 ≤ d) ∧
  (sK S a1 = 9) ∧
  Ok (d - 1) MX9_find [vR a1, vI (sx S (a3 + 1)), vI (sx S (a3 + 2)), vJ (jOr (jShl (sx S (a3 + 3)) 32) (jAnd (sx S (a3 + 4)) 4294967295))] S F G (fun w14 S15 F16 G17 =>
  ∃ z19 : Int, w14 = some (vJ z19) ∧
  (r32 (a3 + 1)) ∧
  ((0 : Int) ≤ a3 + 1) ∧
  ((a3 + 1 : Int) < (sL S15 : Int)) ∧
  (r32 (a3 + 2)) ∧
  ((0 : Int) ≤ a3 + 2) ∧
  ((a3 + 2 : Int) < (sL S15 : Int)) ∧
  (r32 (a3 + 3)) ∧
  ((0 : Int) ≤ a3 + 3) ∧
  ((a3 + 3 : Int) < (sL S15 : Int)) ∧
  (r32 (a3 + 4)) ∧
  ((0 : Int) ≤ a3 + 4) ∧
  ((a3 + 4 : Int) < (sL S15 : Int)) ∧
  (sK S15 a2 = 10) ∧
  Ok (d - 1) MX10_find [vR a2, vI (sx S15 (a3 + 1)), vI (sx S15 (a3 + 2)), vJ (jOr (jShl (sx S15 (a3 + 3)) 32) (jAnd (sx S15 (a3 + 4)) 4294967295))] S15 F16 G17 (fun w32 S33 F34 G35 =>
  ∃ z37 : Int, w32 = some (vJ z37) ∧
  ((z19 = z37) →
    V_law_2110 d S33 F34 G35 Q a1 a2 a3) ∧
  ((¬ z19 = z37) →
    Q (some (vI 0)) S33 F34 G35)))
set_option maxHeartbeats 4000000 in
set_option maxRecDepth 50000 in
theorem R_law_1510 {d : Nat} {S : AS} {F : AF} {G : AG} {Q : AQ} {a1 : Nat} {a2 : Nat} {a3 : Int} (h : V_law_1510 d S F G Q a1 a2 a3) : Go d Mlaw 1510 [some (vR 999999), some (vR a1), some (vR a2), some (vI a3)] [] S F G Q := by
  unfold V_law_1510 at h
  refine go_aload_n (show decode code 1510 = .ok (.aload_n 1, 1) by decide +kernel) (by rfl) ?_
  refine go_aload_n (show decode code 1511 = .ok (.aload_n 0, 1) by decide +kernel) (by rfl) ?_
  refine go_iload_n (show decode code 1512 = .ok (.iload_n 3, 1) by decide +kernel) (by rfl) ?_
  refine go_iconst (show decode code 1513 = .ok (.iconst 1, 1) by decide +kernel) (by decide) ?_
  obtain ⟨q1, h⟩ := h
  refine go_iadd (show decode code 1514 = .ok (.iadd, 1) by decide +kernel) q1 ?_
  obtain ⟨q2, h⟩ := h
  obtain ⟨q3, h⟩ := h
  refine go_scrld (show decode code 1515 = .ok (.iaload, 1) by decide +kernel) rfl q2 q3 ?_
  refine go_aload_n (show decode code 1516 = .ok (.aload_n 0, 1) by decide +kernel) (by rfl) ?_
  refine go_iload_n (show decode code 1517 = .ok (.iload_n 3, 1) by decide +kernel) (by rfl) ?_
  refine go_iconst (show decode code 1518 = .ok (.iconst 2, 1) by decide +kernel) (by decide) ?_
  obtain ⟨q4, h⟩ := h
  refine go_iadd (show decode code 1519 = .ok (.iadd, 1) by decide +kernel) q4 ?_
  obtain ⟨q5, h⟩ := h
  obtain ⟨q6, h⟩ := h
  refine go_scrld (show decode code 1520 = .ok (.iaload, 1) by decide +kernel) rfl q5 q6 ?_
  refine go_aload_n (show decode code 1521 = .ok (.aload_n 0, 1) by decide +kernel) (by rfl) ?_
  refine go_iload_n (show decode code 1522 = .ok (.iload_n 3, 1) by decide +kernel) (by rfl) ?_
  refine go_iconst (show decode code 1523 = .ok (.iconst 3, 1) by decide +kernel) (by decide) ?_
  obtain ⟨q7, h⟩ := h
  refine go_iadd (show decode code 1524 = .ok (.iadd, 1) by decide +kernel) q7 ?_
  obtain ⟨q8, h⟩ := h
  obtain ⟨q9, h⟩ := h
  refine go_scrld (show decode code 1525 = .ok (.iaload, 1) by decide +kernel) rfl q8 q9 ?_
  refine go_i2l (show decode code 1526 = .ok (.i2l, 1) by decide +kernel) ?_
  refine go_bipush (show decode code 1527 = .ok (.bipush 32, 2) by decide +kernel) (by decide) ?_
  refine go_lshl (show decode code 1529 = .ok (.lshl, 1) by decide +kernel) ?_
  refine go_aload_n (show decode code 1530 = .ok (.aload_n 0, 1) by decide +kernel) (by rfl) ?_
  refine go_iload_n (show decode code 1531 = .ok (.iload_n 3, 1) by decide +kernel) (by rfl) ?_
  refine go_iconst (show decode code 1532 = .ok (.iconst 4, 1) by decide +kernel) (by decide) ?_
  obtain ⟨q10, h⟩ := h
  refine go_iadd (show decode code 1533 = .ok (.iadd, 1) by decide +kernel) q10 ?_
  obtain ⟨q11, h⟩ := h
  obtain ⟨q12, h⟩ := h
  refine go_scrld (show decode code 1534 = .ok (.iaload, 1) by decide +kernel) rfl q11 q12 ?_
  refine go_i2l (show decode code 1535 = .ok (.i2l, 1) by decide +kernel) ?_
  refine go_ldc2 (show decode code 1536 = .ok (.ldc2_w 13, 3) by decide +kernel) lc_L_13 (by decide) ?_
  refine go_land (show decode code 1539 = .ok (.land, 1) by decide +kernel) ?_
  refine go_lor (show decode code 1540 = .ok (.lor, 1) by decide +kernel) ?_
  obtain ⟨q13, h⟩ := h
  obtain ⟨q18, h⟩ := h
  refine go_callV (d2 := d - 1) (M2 := MX9_find) (n := 3) (ci := 9) (av := [vI (sx S (a3 + 1)), vI (sx S (a3 + 2)), vJ (jOr (jShl (sx S (a3 + 3)) 32) (jAnd (sx S (a3 + 4)) 4294967295))]) (st := []) (show decode code 1541 = .ok (.invokevirtual 115, 3) by decide +kernel) ml_L_115 mt_X9_find min_X9_find mse_X9_find (by decide) q18 rfl (Nat.le_of_ble_eq_true rfl) (by omega) (ok_mono h (fun w14 S15 F16 G17 h => ?_))
  obtain ⟨z19, e9, h⟩ := h
  subst e9
  show Go d Mlaw 1544 [some (vR 999999), some (vR a1), some (vR a2), some (vI a3)] [vJ z19] S15 F16 G17 Q
  refine go_aload_n (show decode code 1544 = .ok (.aload_n 2, 1) by decide +kernel) (by rfl) ?_
  refine go_aload_n (show decode code 1545 = .ok (.aload_n 0, 1) by decide +kernel) (by rfl) ?_
  refine go_iload_n (show decode code 1546 = .ok (.iload_n 3, 1) by decide +kernel) (by rfl) ?_
  refine go_iconst (show decode code 1547 = .ok (.iconst 1, 1) by decide +kernel) (by decide) ?_
  obtain ⟨q20, h⟩ := h
  refine go_iadd (show decode code 1548 = .ok (.iadd, 1) by decide +kernel) q20 ?_
  obtain ⟨q21, h⟩ := h
  obtain ⟨q22, h⟩ := h
  refine go_scrld (show decode code 1549 = .ok (.iaload, 1) by decide +kernel) rfl q21 q22 ?_
  refine go_aload_n (show decode code 1550 = .ok (.aload_n 0, 1) by decide +kernel) (by rfl) ?_
  refine go_iload_n (show decode code 1551 = .ok (.iload_n 3, 1) by decide +kernel) (by rfl) ?_
  refine go_iconst (show decode code 1552 = .ok (.iconst 2, 1) by decide +kernel) (by decide) ?_
  obtain ⟨q23, h⟩ := h
  refine go_iadd (show decode code 1553 = .ok (.iadd, 1) by decide +kernel) q23 ?_
  obtain ⟨q24, h⟩ := h
  obtain ⟨q25, h⟩ := h
  refine go_scrld (show decode code 1554 = .ok (.iaload, 1) by decide +kernel) rfl q24 q25 ?_
  refine go_aload_n (show decode code 1555 = .ok (.aload_n 0, 1) by decide +kernel) (by rfl) ?_
  refine go_iload_n (show decode code 1556 = .ok (.iload_n 3, 1) by decide +kernel) (by rfl) ?_
  refine go_iconst (show decode code 1557 = .ok (.iconst 3, 1) by decide +kernel) (by decide) ?_
  obtain ⟨q26, h⟩ := h
  refine go_iadd (show decode code 1558 = .ok (.iadd, 1) by decide +kernel) q26 ?_
  obtain ⟨q27, h⟩ := h
  obtain ⟨q28, h⟩ := h
  refine go_scrld (show decode code 1559 = .ok (.iaload, 1) by decide +kernel) rfl q27 q28 ?_
  refine go_i2l (show decode code 1560 = .ok (.i2l, 1) by decide +kernel) ?_
  refine go_bipush (show decode code 1561 = .ok (.bipush 32, 2) by decide +kernel) (by decide) ?_
  refine go_lshl (show decode code 1563 = .ok (.lshl, 1) by decide +kernel) ?_
  refine go_aload_n (show decode code 1564 = .ok (.aload_n 0, 1) by decide +kernel) (by rfl) ?_
  refine go_iload_n (show decode code 1565 = .ok (.iload_n 3, 1) by decide +kernel) (by rfl) ?_
  refine go_iconst (show decode code 1566 = .ok (.iconst 4, 1) by decide +kernel) (by decide) ?_
  obtain ⟨q29, h⟩ := h
  refine go_iadd (show decode code 1567 = .ok (.iadd, 1) by decide +kernel) q29 ?_
  obtain ⟨q30, h⟩ := h
  obtain ⟨q31, h⟩ := h
  refine go_scrld (show decode code 1568 = .ok (.iaload, 1) by decide +kernel) rfl q30 q31 ?_
  refine go_i2l (show decode code 1569 = .ok (.i2l, 1) by decide +kernel) ?_
  refine go_ldc2 (show decode code 1570 = .ok (.ldc2_w 13, 3) by decide +kernel) lc_L_13 (by decide) ?_
  refine go_land (show decode code 1573 = .ok (.land, 1) by decide +kernel) ?_
  refine go_lor (show decode code 1574 = .ok (.lor, 1) by decide +kernel) ?_
  obtain ⟨q36, h⟩ := h
  refine go_callV (d2 := d - 1) (M2 := MX10_find) (n := 3) (ci := 10) (av := [vI (sx S15 (a3 + 1)), vI (sx S15 (a3 + 2)), vJ (jOr (jShl (sx S15 (a3 + 3)) 32) (jAnd (sx S15 (a3 + 4)) 4294967295))]) (st := [vJ z19]) (show decode code 1575 = .ok (.invokevirtual 118, 3) by decide +kernel) ml_L_118 mt_X10_find min_X10_find mse_X10_find (by decide) q36 rfl (Nat.le_of_ble_eq_true rfl) (by omega) (ok_mono h (fun w32 S33 F34 G35 h => ?_))
  obtain ⟨z37, e9, h⟩ := h
  subst e9
  show Go d Mlaw 1578 [some (vR 999999), some (vR a1), some (vR a2), some (vI a3)] [vJ z37, vJ z19] S33 F34 G35 Q
  obtain ⟨ht, hf⟩ := h
  refine go_jeq (tgt := 2110) (show decode code 1578 = .ok (.lcmp, 1) by decide +kernel) (show decode code 1579 = .ok (.ifCond .eq 531, 3) by decide +kernel) (by decide) (fun hc => ?_) (fun hc => ?_)
  · have h := ht hc
    exact R_law_2110 h
  · have h := hf hc
    refine go_iconst (show decode code 1582 = .ok (.iconst 0, 1) by decide +kernel) (by decide) ?_
    exact go_zret (show decode code 1583 = .ok (.ireturn, 1) by decide +kernel) rfl (by decide) h
set_option maxHeartbeats 4000000 in
set_option maxRecDepth 50000 in
def V_law_1434 (d : Nat) (S : AS) (F : AF) (G : AG) (Q : AQ) (a1 : Nat) (a2 : Nat) (a3 : Int) : Prop :=
  (r32 (a3 + 1)) ∧
  ((0 : Int) ≤ a3 + 1) ∧
  ((a3 + 1 : Int) < (sL S : Int)) ∧
  (r32 (a3 + 2)) ∧
  ((0 : Int) ≤ a3 + 2) ∧
  ((a3 + 2 : Int) < (sL S : Int)) ∧
  (r32 (a3 + 3)) ∧
  ((0 : Int) ≤ a3 + 3) ∧
  ((a3 + 3 : Int) < (sL S : Int)) ∧
  (r32 (a3 + 4)) ∧
  ((0 : Int) ≤ a3 + 4) ∧
  ((a3 + 4 : Int) < (sL S : Int)) ∧
  (r32 (a3 + 5)) ∧
  ((0 : Int) ≤ a3 + 5) ∧
  ((a3 + 5 : Int) < (sL S : Int)) ∧
  (r32 (a3 + 6)) ∧
  ((0 : Int) ≤ a3 + 6) ∧
  ((a3 + 6 : Int) < (sL S : Int)) ∧
  (1 ≤ d) ∧
  (sK S a1 = 9) ∧
  Ok (d - 1) MX9_before [vR a1, vI (sx S (a3 + 1)), vI (sx S (a3 + 2)), vI (sx S (a3 + 3)), vI (sx S (a3 + 4)), vI (sx S (a3 + 5)), vI (sx S (a3 + 6))] S F G (fun w20 S21 F22 G23 =>
  ∃ z25 : Int, w20 = some (vJ z25) ∧
  (r32 (a3 + 1)) ∧
  ((0 : Int) ≤ a3 + 1) ∧
  ((a3 + 1 : Int) < (sL S21 : Int)) ∧
  (r32 (a3 + 2)) ∧
  ((0 : Int) ≤ a3 + 2) ∧
  ((a3 + 2 : Int) < (sL S21 : Int)) ∧
  (r32 (a3 + 3)) ∧
  ((0 : Int) ≤ a3 + 3) ∧
  ((a3 + 3 : Int) < (sL S21 : Int)) ∧
  (r32 (a3 + 4)) ∧
  ((0 : Int) ≤ a3 + 4) ∧
  ((a3 + 4 : Int) < (sL S21 : Int)) ∧
  (r32 (a3 + 5)) ∧
  ((0 : Int) ≤ a3 + 5) ∧
  ((a3 + 5 : Int) < (sL S21 : Int)) ∧
  (r32 (a3 + 6)) ∧
  ((0 : Int) ≤ a3 + 6) ∧
  ((a3 + 6 : Int) < (sL S21 : Int)) ∧
  (sK S21 a2 = 10) ∧
  Ok (d - 1) MX10_before [vR a2, vI (sx S21 (a3 + 1)), vI (sx S21 (a3 + 2)), vI (sx S21 (a3 + 3)), vI (sx S21 (a3 + 4)), vI (sx S21 (a3 + 5)), vI (sx S21 (a3 + 6))] S21 F22 G23 (fun w44 S45 F46 G47 =>
  ∃ z49 : Int, w44 = some (vJ z49) ∧
  ((z25 = z49) →
    V_law_2110 d S45 F46 G47 Q a1 a2 a3) ∧
  ((¬ z25 = z49) →
    Q (some (vI 0)) S45 F46 G47)))
set_option maxHeartbeats 4000000 in
set_option maxRecDepth 50000 in
theorem R_law_1434 {d : Nat} {S : AS} {F : AF} {G : AG} {Q : AQ} {a1 : Nat} {a2 : Nat} {a3 : Int} (h : V_law_1434 d S F G Q a1 a2 a3) : Go d Mlaw 1434 [some (vR 999999), some (vR a1), some (vR a2), some (vI a3)] [] S F G Q := by
  unfold V_law_1434 at h
  refine go_aload_n (show decode code 1434 = .ok (.aload_n 1, 1) by decide +kernel) (by rfl) ?_
  refine go_aload_n (show decode code 1435 = .ok (.aload_n 0, 1) by decide +kernel) (by rfl) ?_
  refine go_iload_n (show decode code 1436 = .ok (.iload_n 3, 1) by decide +kernel) (by rfl) ?_
  refine go_iconst (show decode code 1437 = .ok (.iconst 1, 1) by decide +kernel) (by decide) ?_
  obtain ⟨q1, h⟩ := h
  refine go_iadd (show decode code 1438 = .ok (.iadd, 1) by decide +kernel) q1 ?_
  obtain ⟨q2, h⟩ := h
  obtain ⟨q3, h⟩ := h
  refine go_scrld (show decode code 1439 = .ok (.iaload, 1) by decide +kernel) rfl q2 q3 ?_
  refine go_aload_n (show decode code 1440 = .ok (.aload_n 0, 1) by decide +kernel) (by rfl) ?_
  refine go_iload_n (show decode code 1441 = .ok (.iload_n 3, 1) by decide +kernel) (by rfl) ?_
  refine go_iconst (show decode code 1442 = .ok (.iconst 2, 1) by decide +kernel) (by decide) ?_
  obtain ⟨q4, h⟩ := h
  refine go_iadd (show decode code 1443 = .ok (.iadd, 1) by decide +kernel) q4 ?_
  obtain ⟨q5, h⟩ := h
  obtain ⟨q6, h⟩ := h
  refine go_scrld (show decode code 1444 = .ok (.iaload, 1) by decide +kernel) rfl q5 q6 ?_
  refine go_aload_n (show decode code 1445 = .ok (.aload_n 0, 1) by decide +kernel) (by rfl) ?_
  refine go_iload_n (show decode code 1446 = .ok (.iload_n 3, 1) by decide +kernel) (by rfl) ?_
  refine go_iconst (show decode code 1447 = .ok (.iconst 3, 1) by decide +kernel) (by decide) ?_
  obtain ⟨q7, h⟩ := h
  refine go_iadd (show decode code 1448 = .ok (.iadd, 1) by decide +kernel) q7 ?_
  obtain ⟨q8, h⟩ := h
  obtain ⟨q9, h⟩ := h
  refine go_scrld (show decode code 1449 = .ok (.iaload, 1) by decide +kernel) rfl q8 q9 ?_
  refine go_aload_n (show decode code 1450 = .ok (.aload_n 0, 1) by decide +kernel) (by rfl) ?_
  refine go_iload_n (show decode code 1451 = .ok (.iload_n 3, 1) by decide +kernel) (by rfl) ?_
  refine go_iconst (show decode code 1452 = .ok (.iconst 4, 1) by decide +kernel) (by decide) ?_
  obtain ⟨q10, h⟩ := h
  refine go_iadd (show decode code 1453 = .ok (.iadd, 1) by decide +kernel) q10 ?_
  obtain ⟨q11, h⟩ := h
  obtain ⟨q12, h⟩ := h
  refine go_scrld (show decode code 1454 = .ok (.iaload, 1) by decide +kernel) rfl q11 q12 ?_
  refine go_aload_n (show decode code 1455 = .ok (.aload_n 0, 1) by decide +kernel) (by rfl) ?_
  refine go_iload_n (show decode code 1456 = .ok (.iload_n 3, 1) by decide +kernel) (by rfl) ?_
  refine go_iconst (show decode code 1457 = .ok (.iconst 5, 1) by decide +kernel) (by decide) ?_
  obtain ⟨q13, h⟩ := h
  refine go_iadd (show decode code 1458 = .ok (.iadd, 1) by decide +kernel) q13 ?_
  obtain ⟨q14, h⟩ := h
  obtain ⟨q15, h⟩ := h
  refine go_scrld (show decode code 1459 = .ok (.iaload, 1) by decide +kernel) rfl q14 q15 ?_
  refine go_aload_n (show decode code 1460 = .ok (.aload_n 0, 1) by decide +kernel) (by rfl) ?_
  refine go_iload_n (show decode code 1461 = .ok (.iload_n 3, 1) by decide +kernel) (by rfl) ?_
  refine go_bipush (show decode code 1462 = .ok (.bipush 6, 2) by decide +kernel) (by decide) ?_
  obtain ⟨q16, h⟩ := h
  refine go_iadd (show decode code 1464 = .ok (.iadd, 1) by decide +kernel) q16 ?_
  obtain ⟨q17, h⟩ := h
  obtain ⟨q18, h⟩ := h
  refine go_scrld (show decode code 1465 = .ok (.iaload, 1) by decide +kernel) rfl q17 q18 ?_
  obtain ⟨q19, h⟩ := h
  obtain ⟨q24, h⟩ := h
  refine go_callV (d2 := d - 1) (M2 := MX9_before) (n := 6) (ci := 9) (av := [vI (sx S (a3 + 1)), vI (sx S (a3 + 2)), vI (sx S (a3 + 3)), vI (sx S (a3 + 4)), vI (sx S (a3 + 5)), vI (sx S (a3 + 6))]) (st := []) (show decode code 1466 = .ok (.invokevirtual 111, 3) by decide +kernel) ml_L_111 mt_X9_before min_X9_before mse_X9_before (by decide) q24 rfl (Nat.le_of_ble_eq_true rfl) (by omega) (ok_mono h (fun w20 S21 F22 G23 h => ?_))
  obtain ⟨z25, e9, h⟩ := h
  subst e9
  show Go d Mlaw 1469 [some (vR 999999), some (vR a1), some (vR a2), some (vI a3)] [vJ z25] S21 F22 G23 Q
  refine go_aload_n (show decode code 1469 = .ok (.aload_n 2, 1) by decide +kernel) (by rfl) ?_
  refine go_aload_n (show decode code 1470 = .ok (.aload_n 0, 1) by decide +kernel) (by rfl) ?_
  refine go_iload_n (show decode code 1471 = .ok (.iload_n 3, 1) by decide +kernel) (by rfl) ?_
  refine go_iconst (show decode code 1472 = .ok (.iconst 1, 1) by decide +kernel) (by decide) ?_
  obtain ⟨q26, h⟩ := h
  refine go_iadd (show decode code 1473 = .ok (.iadd, 1) by decide +kernel) q26 ?_
  obtain ⟨q27, h⟩ := h
  obtain ⟨q28, h⟩ := h
  refine go_scrld (show decode code 1474 = .ok (.iaload, 1) by decide +kernel) rfl q27 q28 ?_
  refine go_aload_n (show decode code 1475 = .ok (.aload_n 0, 1) by decide +kernel) (by rfl) ?_
  refine go_iload_n (show decode code 1476 = .ok (.iload_n 3, 1) by decide +kernel) (by rfl) ?_
  refine go_iconst (show decode code 1477 = .ok (.iconst 2, 1) by decide +kernel) (by decide) ?_
  obtain ⟨q29, h⟩ := h
  refine go_iadd (show decode code 1478 = .ok (.iadd, 1) by decide +kernel) q29 ?_
  obtain ⟨q30, h⟩ := h
  obtain ⟨q31, h⟩ := h
  refine go_scrld (show decode code 1479 = .ok (.iaload, 1) by decide +kernel) rfl q30 q31 ?_
  refine go_aload_n (show decode code 1480 = .ok (.aload_n 0, 1) by decide +kernel) (by rfl) ?_
  refine go_iload_n (show decode code 1481 = .ok (.iload_n 3, 1) by decide +kernel) (by rfl) ?_
  refine go_iconst (show decode code 1482 = .ok (.iconst 3, 1) by decide +kernel) (by decide) ?_
  obtain ⟨q32, h⟩ := h
  refine go_iadd (show decode code 1483 = .ok (.iadd, 1) by decide +kernel) q32 ?_
  obtain ⟨q33, h⟩ := h
  obtain ⟨q34, h⟩ := h
  refine go_scrld (show decode code 1484 = .ok (.iaload, 1) by decide +kernel) rfl q33 q34 ?_
  refine go_aload_n (show decode code 1485 = .ok (.aload_n 0, 1) by decide +kernel) (by rfl) ?_
  refine go_iload_n (show decode code 1486 = .ok (.iload_n 3, 1) by decide +kernel) (by rfl) ?_
  refine go_iconst (show decode code 1487 = .ok (.iconst 4, 1) by decide +kernel) (by decide) ?_
  obtain ⟨q35, h⟩ := h
  refine go_iadd (show decode code 1488 = .ok (.iadd, 1) by decide +kernel) q35 ?_
  obtain ⟨q36, h⟩ := h
  obtain ⟨q37, h⟩ := h
  refine go_scrld (show decode code 1489 = .ok (.iaload, 1) by decide +kernel) rfl q36 q37 ?_
  refine go_aload_n (show decode code 1490 = .ok (.aload_n 0, 1) by decide +kernel) (by rfl) ?_
  refine go_iload_n (show decode code 1491 = .ok (.iload_n 3, 1) by decide +kernel) (by rfl) ?_
  refine go_iconst (show decode code 1492 = .ok (.iconst 5, 1) by decide +kernel) (by decide) ?_
  obtain ⟨q38, h⟩ := h
  refine go_iadd (show decode code 1493 = .ok (.iadd, 1) by decide +kernel) q38 ?_
  obtain ⟨q39, h⟩ := h
  obtain ⟨q40, h⟩ := h
  refine go_scrld (show decode code 1494 = .ok (.iaload, 1) by decide +kernel) rfl q39 q40 ?_
  refine go_aload_n (show decode code 1495 = .ok (.aload_n 0, 1) by decide +kernel) (by rfl) ?_
  refine go_iload_n (show decode code 1496 = .ok (.iload_n 3, 1) by decide +kernel) (by rfl) ?_
  refine go_bipush (show decode code 1497 = .ok (.bipush 6, 2) by decide +kernel) (by decide) ?_
  obtain ⟨q41, h⟩ := h
  refine go_iadd (show decode code 1499 = .ok (.iadd, 1) by decide +kernel) q41 ?_
  obtain ⟨q42, h⟩ := h
  obtain ⟨q43, h⟩ := h
  refine go_scrld (show decode code 1500 = .ok (.iaload, 1) by decide +kernel) rfl q42 q43 ?_
  obtain ⟨q48, h⟩ := h
  refine go_callV (d2 := d - 1) (M2 := MX10_before) (n := 6) (ci := 10) (av := [vI (sx S21 (a3 + 1)), vI (sx S21 (a3 + 2)), vI (sx S21 (a3 + 3)), vI (sx S21 (a3 + 4)), vI (sx S21 (a3 + 5)), vI (sx S21 (a3 + 6))]) (st := [vJ z25]) (show decode code 1501 = .ok (.invokevirtual 114, 3) by decide +kernel) ml_L_114 mt_X10_before min_X10_before mse_X10_before (by decide) q48 rfl (Nat.le_of_ble_eq_true rfl) (by omega) (ok_mono h (fun w44 S45 F46 G47 h => ?_))
  obtain ⟨z49, e9, h⟩ := h
  subst e9
  show Go d Mlaw 1504 [some (vR 999999), some (vR a1), some (vR a2), some (vI a3)] [vJ z49, vJ z25] S45 F46 G47 Q
  obtain ⟨ht, hf⟩ := h
  refine go_jeq (tgt := 2110) (show decode code 1504 = .ok (.lcmp, 1) by decide +kernel) (show decode code 1505 = .ok (.ifCond .eq 605, 3) by decide +kernel) (by decide) (fun hc => ?_) (fun hc => ?_)
  · have h := ht hc
    exact R_law_2110 h
  · have h := hf hc
    refine go_iconst (show decode code 1508 = .ok (.iconst 0, 1) by decide +kernel) (by decide) ?_
    exact go_zret (show decode code 1509 = .ok (.ireturn, 1) by decide +kernel) rfl (by decide) h
set_option maxHeartbeats 4000000 in
set_option maxRecDepth 50000 in
def V_law_1410 (d : Nat) (S : AS) (F : AF) (G : AG) (Q : AQ) (a1 : Nat) (a2 : Nat) (a3 : Int) : Prop :=
  (r32 (a3 + 1)) ∧
  ((0 : Int) ≤ a3 + 1) ∧
  ((a3 + 1 : Int) < (sL S : Int)) ∧
  (1 ≤ d) ∧
  (sK S a1 = 9) ∧
  Ok (d - 1) MX9_hole [vR a1, vI (sx S (a3 + 1))] S F G (fun w5 S6 F7 G8 =>
  ∃ z10 : Int, w5 = some (vJ z10) ∧
  (r32 (a3 + 1)) ∧
  ((0 : Int) ≤ a3 + 1) ∧
  ((a3 + 1 : Int) < (sL S6 : Int)) ∧
  (sK S6 a2 = 10) ∧
  Ok (d - 1) MX10_hole [vR a2, vI (sx S6 (a3 + 1))] S6 F7 G8 (fun w14 S15 F16 G17 =>
  ∃ z19 : Int, w14 = some (vJ z19) ∧
  ((z10 = z19) →
    V_law_2110 d S15 F16 G17 Q a1 a2 a3) ∧
  ((¬ z10 = z19) →
    Q (some (vI 0)) S15 F16 G17)))
set_option maxHeartbeats 4000000 in
set_option maxRecDepth 50000 in
theorem R_law_1410 {d : Nat} {S : AS} {F : AF} {G : AG} {Q : AQ} {a1 : Nat} {a2 : Nat} {a3 : Int} (h : V_law_1410 d S F G Q a1 a2 a3) : Go d Mlaw 1410 [some (vR 999999), some (vR a1), some (vR a2), some (vI a3)] [] S F G Q := by
  unfold V_law_1410 at h
  refine go_aload_n (show decode code 1410 = .ok (.aload_n 1, 1) by decide +kernel) (by rfl) ?_
  refine go_aload_n (show decode code 1411 = .ok (.aload_n 0, 1) by decide +kernel) (by rfl) ?_
  refine go_iload_n (show decode code 1412 = .ok (.iload_n 3, 1) by decide +kernel) (by rfl) ?_
  refine go_iconst (show decode code 1413 = .ok (.iconst 1, 1) by decide +kernel) (by decide) ?_
  obtain ⟨q1, h⟩ := h
  refine go_iadd (show decode code 1414 = .ok (.iadd, 1) by decide +kernel) q1 ?_
  obtain ⟨q2, h⟩ := h
  obtain ⟨q3, h⟩ := h
  refine go_scrld (show decode code 1415 = .ok (.iaload, 1) by decide +kernel) rfl q2 q3 ?_
  obtain ⟨q4, h⟩ := h
  obtain ⟨q9, h⟩ := h
  refine go_callV (d2 := d - 1) (M2 := MX9_hole) (n := 1) (ci := 9) (av := [vI (sx S (a3 + 1))]) (st := []) (show decode code 1416 = .ok (.invokevirtual 106, 3) by decide +kernel) ml_L_106 mt_X9_hole min_X9_hole mse_X9_hole (by decide) q9 rfl (Nat.le_of_ble_eq_true rfl) (by omega) (ok_mono h (fun w5 S6 F7 G8 h => ?_))
  obtain ⟨z10, e9, h⟩ := h
  subst e9
  show Go d Mlaw 1419 [some (vR 999999), some (vR a1), some (vR a2), some (vI a3)] [vJ z10] S6 F7 G8 Q
  refine go_aload_n (show decode code 1419 = .ok (.aload_n 2, 1) by decide +kernel) (by rfl) ?_
  refine go_aload_n (show decode code 1420 = .ok (.aload_n 0, 1) by decide +kernel) (by rfl) ?_
  refine go_iload_n (show decode code 1421 = .ok (.iload_n 3, 1) by decide +kernel) (by rfl) ?_
  refine go_iconst (show decode code 1422 = .ok (.iconst 1, 1) by decide +kernel) (by decide) ?_
  obtain ⟨q11, h⟩ := h
  refine go_iadd (show decode code 1423 = .ok (.iadd, 1) by decide +kernel) q11 ?_
  obtain ⟨q12, h⟩ := h
  obtain ⟨q13, h⟩ := h
  refine go_scrld (show decode code 1424 = .ok (.iaload, 1) by decide +kernel) rfl q12 q13 ?_
  obtain ⟨q18, h⟩ := h
  refine go_callV (d2 := d - 1) (M2 := MX10_hole) (n := 1) (ci := 10) (av := [vI (sx S6 (a3 + 1))]) (st := [vJ z10]) (show decode code 1425 = .ok (.invokevirtual 110, 3) by decide +kernel) ml_L_110 mt_X10_hole min_X10_hole mse_X10_hole (by decide) q18 rfl (Nat.le_of_ble_eq_true rfl) (by omega) (ok_mono h (fun w14 S15 F16 G17 h => ?_))
  obtain ⟨z19, e9, h⟩ := h
  subst e9
  show Go d Mlaw 1428 [some (vR 999999), some (vR a1), some (vR a2), some (vI a3)] [vJ z19, vJ z10] S15 F16 G17 Q
  obtain ⟨ht, hf⟩ := h
  refine go_jeq (tgt := 2110) (show decode code 1428 = .ok (.lcmp, 1) by decide +kernel) (show decode code 1429 = .ok (.ifCond .eq 681, 3) by decide +kernel) (by decide) (fun hc => ?_) (fun hc => ?_)
  · have h := ht hc
    exact R_law_2110 h
  · have h := hf hc
    refine go_iconst (show decode code 1432 = .ok (.iconst 0, 1) by decide +kernel) (by decide) ?_
    exact go_zret (show decode code 1433 = .ok (.ireturn, 1) by decide +kernel) rfl (by decide) h
set_option maxHeartbeats 4000000 in
set_option maxRecDepth 50000 in
def V_law_1302 (d : Nat) (S : AS) (F : AF) (G : AG) (Q : AQ) (a1 : Nat) (a2 : Nat) (a3 : Int) : Prop :=
  (r32 (a3 + 1)) ∧
  ((0 : Int) ≤ a3 + 1) ∧
  ((a3 + 1 : Int) < (sL S : Int)) ∧
  (r32 (a3 + 2)) ∧
  ((0 : Int) ≤ a3 + 2) ∧
  ((a3 + 2 : Int) < (sL S : Int)) ∧
  (r32 (a3 + 3)) ∧
  ((0 : Int) ≤ a3 + 3) ∧
  ((a3 + 3 : Int) < (sL S : Int)) ∧
  (r32 (a3 + 4)) ∧
  ((0 : Int) ≤ a3 + 4) ∧
  ((a3 + 4 : Int) < (sL S : Int)) ∧
  (r32 (a3 + 5)) ∧
  ((0 : Int) ≤ a3 + 5) ∧
  ((a3 + 5 : Int) < (sL S : Int)) ∧
  (r32 (a3 + 6)) ∧
  ((0 : Int) ≤ a3 + 6) ∧
  ((a3 + 6 : Int) < (sL S : Int)) ∧
  (r32 (a3 + 7)) ∧
  ((0 : Int) ≤ a3 + 7) ∧
  ((a3 + 7 : Int) < (sL S : Int)) ∧
  (1 ≤ d) ∧
  (sK S a1 = 9) ∧
  Ok (d - 1) MX9_value [vR a1, vI (sx S (a3 + 1)), vI (sx S (a3 + 2)), vI (sx S (a3 + 3)), vI (sx S (a3 + 4)), vI (sx S (a3 + 5)), vJ (jOr (jShl (sx S (a3 + 6)) 32) (jAnd (sx S (a3 + 7)) 4294967295))] S F G (fun w23 S24 F25 G26 =>
  ∃ z28 : Int, w23 = some (vJ z28) ∧
  (r32 (a3 + 1)) ∧
  ((0 : Int) ≤ a3 + 1) ∧
  ((a3 + 1 : Int) < (sL S24 : Int)) ∧
  (r32 (a3 + 2)) ∧
  ((0 : Int) ≤ a3 + 2) ∧
  ((a3 + 2 : Int) < (sL S24 : Int)) ∧
  (r32 (a3 + 3)) ∧
  ((0 : Int) ≤ a3 + 3) ∧
  ((a3 + 3 : Int) < (sL S24 : Int)) ∧
  (r32 (a3 + 4)) ∧
  ((0 : Int) ≤ a3 + 4) ∧
  ((a3 + 4 : Int) < (sL S24 : Int)) ∧
  (r32 (a3 + 5)) ∧
  ((0 : Int) ≤ a3 + 5) ∧
  ((a3 + 5 : Int) < (sL S24 : Int)) ∧
  (r32 (a3 + 6)) ∧
  ((0 : Int) ≤ a3 + 6) ∧
  ((a3 + 6 : Int) < (sL S24 : Int)) ∧
  (r32 (a3 + 7)) ∧
  ((0 : Int) ≤ a3 + 7) ∧
  ((a3 + 7 : Int) < (sL S24 : Int)) ∧
  (sK S24 a2 = 10) ∧
  Ok (d - 1) MX10_value [vR a2, vI (sx S24 (a3 + 1)), vI (sx S24 (a3 + 2)), vI (sx S24 (a3 + 3)), vI (sx S24 (a3 + 4)), vI (sx S24 (a3 + 5)), vJ (jOr (jShl (sx S24 (a3 + 6)) 32) (jAnd (sx S24 (a3 + 7)) 4294967295))] S24 F25 G26 (fun w50 S51 F52 G53 =>
  ∃ z55 : Int, w50 = some (vJ z55) ∧
  ((z28 = z55) →
    V_law_2110 d S51 F52 G53 Q a1 a2 a3) ∧
  ((¬ z28 = z55) →
    Q (some (vI 0)) S51 F52 G53)))
set_option maxHeartbeats 4000000 in
set_option maxRecDepth 50000 in
theorem R_law_1302 {d : Nat} {S : AS} {F : AF} {G : AG} {Q : AQ} {a1 : Nat} {a2 : Nat} {a3 : Int} (h : V_law_1302 d S F G Q a1 a2 a3) : Go d Mlaw 1302 [some (vR 999999), some (vR a1), some (vR a2), some (vI a3)] [] S F G Q := by
  unfold V_law_1302 at h
  refine go_aload_n (show decode code 1302 = .ok (.aload_n 1, 1) by decide +kernel) (by rfl) ?_
  refine go_aload_n (show decode code 1303 = .ok (.aload_n 0, 1) by decide +kernel) (by rfl) ?_
  refine go_iload_n (show decode code 1304 = .ok (.iload_n 3, 1) by decide +kernel) (by rfl) ?_
  refine go_iconst (show decode code 1305 = .ok (.iconst 1, 1) by decide +kernel) (by decide) ?_
  obtain ⟨q1, h⟩ := h
  refine go_iadd (show decode code 1306 = .ok (.iadd, 1) by decide +kernel) q1 ?_
  obtain ⟨q2, h⟩ := h
  obtain ⟨q3, h⟩ := h
  refine go_scrld (show decode code 1307 = .ok (.iaload, 1) by decide +kernel) rfl q2 q3 ?_
  refine go_aload_n (show decode code 1308 = .ok (.aload_n 0, 1) by decide +kernel) (by rfl) ?_
  refine go_iload_n (show decode code 1309 = .ok (.iload_n 3, 1) by decide +kernel) (by rfl) ?_
  refine go_iconst (show decode code 1310 = .ok (.iconst 2, 1) by decide +kernel) (by decide) ?_
  obtain ⟨q4, h⟩ := h
  refine go_iadd (show decode code 1311 = .ok (.iadd, 1) by decide +kernel) q4 ?_
  obtain ⟨q5, h⟩ := h
  obtain ⟨q6, h⟩ := h
  refine go_scrld (show decode code 1312 = .ok (.iaload, 1) by decide +kernel) rfl q5 q6 ?_
  refine go_aload_n (show decode code 1313 = .ok (.aload_n 0, 1) by decide +kernel) (by rfl) ?_
  refine go_iload_n (show decode code 1314 = .ok (.iload_n 3, 1) by decide +kernel) (by rfl) ?_
  refine go_iconst (show decode code 1315 = .ok (.iconst 3, 1) by decide +kernel) (by decide) ?_
  obtain ⟨q7, h⟩ := h
  refine go_iadd (show decode code 1316 = .ok (.iadd, 1) by decide +kernel) q7 ?_
  obtain ⟨q8, h⟩ := h
  obtain ⟨q9, h⟩ := h
  refine go_scrld (show decode code 1317 = .ok (.iaload, 1) by decide +kernel) rfl q8 q9 ?_
  refine go_aload_n (show decode code 1318 = .ok (.aload_n 0, 1) by decide +kernel) (by rfl) ?_
  refine go_iload_n (show decode code 1319 = .ok (.iload_n 3, 1) by decide +kernel) (by rfl) ?_
  refine go_iconst (show decode code 1320 = .ok (.iconst 4, 1) by decide +kernel) (by decide) ?_
  obtain ⟨q10, h⟩ := h
  refine go_iadd (show decode code 1321 = .ok (.iadd, 1) by decide +kernel) q10 ?_
  obtain ⟨q11, h⟩ := h
  obtain ⟨q12, h⟩ := h
  refine go_scrld (show decode code 1322 = .ok (.iaload, 1) by decide +kernel) rfl q11 q12 ?_
  refine go_aload_n (show decode code 1323 = .ok (.aload_n 0, 1) by decide +kernel) (by rfl) ?_
  refine go_iload_n (show decode code 1324 = .ok (.iload_n 3, 1) by decide +kernel) (by rfl) ?_
  refine go_iconst (show decode code 1325 = .ok (.iconst 5, 1) by decide +kernel) (by decide) ?_
  obtain ⟨q13, h⟩ := h
  refine go_iadd (show decode code 1326 = .ok (.iadd, 1) by decide +kernel) q13 ?_
  obtain ⟨q14, h⟩ := h
  obtain ⟨q15, h⟩ := h
  refine go_scrld (show decode code 1327 = .ok (.iaload, 1) by decide +kernel) rfl q14 q15 ?_
  refine go_aload_n (show decode code 1328 = .ok (.aload_n 0, 1) by decide +kernel) (by rfl) ?_
  refine go_iload_n (show decode code 1329 = .ok (.iload_n 3, 1) by decide +kernel) (by rfl) ?_
  refine go_bipush (show decode code 1330 = .ok (.bipush 6, 2) by decide +kernel) (by decide) ?_
  obtain ⟨q16, h⟩ := h
  refine go_iadd (show decode code 1332 = .ok (.iadd, 1) by decide +kernel) q16 ?_
  obtain ⟨q17, h⟩ := h
  obtain ⟨q18, h⟩ := h
  refine go_scrld (show decode code 1333 = .ok (.iaload, 1) by decide +kernel) rfl q17 q18 ?_
  refine go_i2l (show decode code 1334 = .ok (.i2l, 1) by decide +kernel) ?_
  refine go_bipush (show decode code 1335 = .ok (.bipush 32, 2) by decide +kernel) (by decide) ?_
  refine go_lshl (show decode code 1337 = .ok (.lshl, 1) by decide +kernel) ?_
  refine go_aload_n (show decode code 1338 = .ok (.aload_n 0, 1) by decide +kernel) (by rfl) ?_
  refine go_iload_n (show decode code 1339 = .ok (.iload_n 3, 1) by decide +kernel) (by rfl) ?_
  refine go_bipush (show decode code 1340 = .ok (.bipush 7, 2) by decide +kernel) (by decide) ?_
  obtain ⟨q19, h⟩ := h
  refine go_iadd (show decode code 1342 = .ok (.iadd, 1) by decide +kernel) q19 ?_
  obtain ⟨q20, h⟩ := h
  obtain ⟨q21, h⟩ := h
  refine go_scrld (show decode code 1343 = .ok (.iaload, 1) by decide +kernel) rfl q20 q21 ?_
  refine go_i2l (show decode code 1344 = .ok (.i2l, 1) by decide +kernel) ?_
  refine go_ldc2 (show decode code 1345 = .ok (.ldc2_w 13, 3) by decide +kernel) lc_L_13 (by decide) ?_
  refine go_land (show decode code 1348 = .ok (.land, 1) by decide +kernel) ?_
  refine go_lor (show decode code 1349 = .ok (.lor, 1) by decide +kernel) ?_
  obtain ⟨q22, h⟩ := h
  obtain ⟨q27, h⟩ := h
  refine go_callV (d2 := d - 1) (M2 := MX9_value) (n := 6) (ci := 9) (av := [vI (sx S (a3 + 1)), vI (sx S (a3 + 2)), vI (sx S (a3 + 3)), vI (sx S (a3 + 4)), vI (sx S (a3 + 5)), vJ (jOr (jShl (sx S (a3 + 6)) 32) (jAnd (sx S (a3 + 7)) 4294967295))]) (st := []) (show decode code 1350 = .ok (.invokevirtual 102, 3) by decide +kernel) ml_L_102 mt_X9_value min_X9_value mse_X9_value (by decide) q27 rfl (Nat.le_of_ble_eq_true rfl) (by omega) (ok_mono h (fun w23 S24 F25 G26 h => ?_))
  obtain ⟨z28, e9, h⟩ := h
  subst e9
  show Go d Mlaw 1353 [some (vR 999999), some (vR a1), some (vR a2), some (vI a3)] [vJ z28] S24 F25 G26 Q
  refine go_aload_n (show decode code 1353 = .ok (.aload_n 2, 1) by decide +kernel) (by rfl) ?_
  refine go_aload_n (show decode code 1354 = .ok (.aload_n 0, 1) by decide +kernel) (by rfl) ?_
  refine go_iload_n (show decode code 1355 = .ok (.iload_n 3, 1) by decide +kernel) (by rfl) ?_
  refine go_iconst (show decode code 1356 = .ok (.iconst 1, 1) by decide +kernel) (by decide) ?_
  obtain ⟨q29, h⟩ := h
  refine go_iadd (show decode code 1357 = .ok (.iadd, 1) by decide +kernel) q29 ?_
  obtain ⟨q30, h⟩ := h
  obtain ⟨q31, h⟩ := h
  refine go_scrld (show decode code 1358 = .ok (.iaload, 1) by decide +kernel) rfl q30 q31 ?_
  refine go_aload_n (show decode code 1359 = .ok (.aload_n 0, 1) by decide +kernel) (by rfl) ?_
  refine go_iload_n (show decode code 1360 = .ok (.iload_n 3, 1) by decide +kernel) (by rfl) ?_
  refine go_iconst (show decode code 1361 = .ok (.iconst 2, 1) by decide +kernel) (by decide) ?_
  obtain ⟨q32, h⟩ := h
  refine go_iadd (show decode code 1362 = .ok (.iadd, 1) by decide +kernel) q32 ?_
  obtain ⟨q33, h⟩ := h
  obtain ⟨q34, h⟩ := h
  refine go_scrld (show decode code 1363 = .ok (.iaload, 1) by decide +kernel) rfl q33 q34 ?_
  refine go_aload_n (show decode code 1364 = .ok (.aload_n 0, 1) by decide +kernel) (by rfl) ?_
  refine go_iload_n (show decode code 1365 = .ok (.iload_n 3, 1) by decide +kernel) (by rfl) ?_
  refine go_iconst (show decode code 1366 = .ok (.iconst 3, 1) by decide +kernel) (by decide) ?_
  obtain ⟨q35, h⟩ := h
  refine go_iadd (show decode code 1367 = .ok (.iadd, 1) by decide +kernel) q35 ?_
  obtain ⟨q36, h⟩ := h
  obtain ⟨q37, h⟩ := h
  refine go_scrld (show decode code 1368 = .ok (.iaload, 1) by decide +kernel) rfl q36 q37 ?_
  refine go_aload_n (show decode code 1369 = .ok (.aload_n 0, 1) by decide +kernel) (by rfl) ?_
  refine go_iload_n (show decode code 1370 = .ok (.iload_n 3, 1) by decide +kernel) (by rfl) ?_
  refine go_iconst (show decode code 1371 = .ok (.iconst 4, 1) by decide +kernel) (by decide) ?_
  obtain ⟨q38, h⟩ := h
  refine go_iadd (show decode code 1372 = .ok (.iadd, 1) by decide +kernel) q38 ?_
  obtain ⟨q39, h⟩ := h
  obtain ⟨q40, h⟩ := h
  refine go_scrld (show decode code 1373 = .ok (.iaload, 1) by decide +kernel) rfl q39 q40 ?_
  refine go_aload_n (show decode code 1374 = .ok (.aload_n 0, 1) by decide +kernel) (by rfl) ?_
  refine go_iload_n (show decode code 1375 = .ok (.iload_n 3, 1) by decide +kernel) (by rfl) ?_
  refine go_iconst (show decode code 1376 = .ok (.iconst 5, 1) by decide +kernel) (by decide) ?_
  obtain ⟨q41, h⟩ := h
  refine go_iadd (show decode code 1377 = .ok (.iadd, 1) by decide +kernel) q41 ?_
  obtain ⟨q42, h⟩ := h
  obtain ⟨q43, h⟩ := h
  refine go_scrld (show decode code 1378 = .ok (.iaload, 1) by decide +kernel) rfl q42 q43 ?_
  refine go_aload_n (show decode code 1379 = .ok (.aload_n 0, 1) by decide +kernel) (by rfl) ?_
  refine go_iload_n (show decode code 1380 = .ok (.iload_n 3, 1) by decide +kernel) (by rfl) ?_
  refine go_bipush (show decode code 1381 = .ok (.bipush 6, 2) by decide +kernel) (by decide) ?_
  obtain ⟨q44, h⟩ := h
  refine go_iadd (show decode code 1383 = .ok (.iadd, 1) by decide +kernel) q44 ?_
  obtain ⟨q45, h⟩ := h
  obtain ⟨q46, h⟩ := h
  refine go_scrld (show decode code 1384 = .ok (.iaload, 1) by decide +kernel) rfl q45 q46 ?_
  refine go_i2l (show decode code 1385 = .ok (.i2l, 1) by decide +kernel) ?_
  refine go_bipush (show decode code 1386 = .ok (.bipush 32, 2) by decide +kernel) (by decide) ?_
  refine go_lshl (show decode code 1388 = .ok (.lshl, 1) by decide +kernel) ?_
  refine go_aload_n (show decode code 1389 = .ok (.aload_n 0, 1) by decide +kernel) (by rfl) ?_
  refine go_iload_n (show decode code 1390 = .ok (.iload_n 3, 1) by decide +kernel) (by rfl) ?_
  refine go_bipush (show decode code 1391 = .ok (.bipush 7, 2) by decide +kernel) (by decide) ?_
  obtain ⟨q47, h⟩ := h
  refine go_iadd (show decode code 1393 = .ok (.iadd, 1) by decide +kernel) q47 ?_
  obtain ⟨q48, h⟩ := h
  obtain ⟨q49, h⟩ := h
  refine go_scrld (show decode code 1394 = .ok (.iaload, 1) by decide +kernel) rfl q48 q49 ?_
  refine go_i2l (show decode code 1395 = .ok (.i2l, 1) by decide +kernel) ?_
  refine go_ldc2 (show decode code 1396 = .ok (.ldc2_w 13, 3) by decide +kernel) lc_L_13 (by decide) ?_
  refine go_land (show decode code 1399 = .ok (.land, 1) by decide +kernel) ?_
  refine go_lor (show decode code 1400 = .ok (.lor, 1) by decide +kernel) ?_
  obtain ⟨q54, h⟩ := h
  refine go_callV (d2 := d - 1) (M2 := MX10_value) (n := 6) (ci := 10) (av := [vI (sx S24 (a3 + 1)), vI (sx S24 (a3 + 2)), vI (sx S24 (a3 + 3)), vI (sx S24 (a3 + 4)), vI (sx S24 (a3 + 5)), vJ (jOr (jShl (sx S24 (a3 + 6)) 32) (jAnd (sx S24 (a3 + 7)) 4294967295))]) (st := [vJ z28]) (show decode code 1401 = .ok (.invokevirtual 105, 3) by decide +kernel) ml_L_105 mt_X10_value min_X10_value mse_X10_value (by decide) q54 rfl (Nat.le_of_ble_eq_true rfl) (by omega) (ok_mono h (fun w50 S51 F52 G53 h => ?_))
  obtain ⟨z55, e9, h⟩ := h
  subst e9
  show Go d Mlaw 1404 [some (vR 999999), some (vR a1), some (vR a2), some (vI a3)] [vJ z55, vJ z28] S51 F52 G53 Q
  obtain ⟨ht, hf⟩ := h
  refine go_jeq (tgt := 2110) (show decode code 1404 = .ok (.lcmp, 1) by decide +kernel) (show decode code 1405 = .ok (.ifCond .eq 705, 3) by decide +kernel) (by decide) (fun hc => ?_) (fun hc => ?_)
  · have h := ht hc
    exact R_law_2110 h
  · have h := hf hc
    refine go_iconst (show decode code 1408 = .ok (.iconst 0, 1) by decide +kernel) (by decide) ?_
    exact go_zret (show decode code 1409 = .ok (.ireturn, 1) by decide +kernel) rfl (by decide) h
set_option maxHeartbeats 4000000 in
set_option maxRecDepth 50000 in
def V_law_1194 (d : Nat) (S : AS) (F : AF) (G : AG) (Q : AQ) (a1 : Nat) (a2 : Nat) (a3 : Int) : Prop :=
  (r32 (a3 + 1)) ∧
  ((0 : Int) ≤ a3 + 1) ∧
  ((a3 + 1 : Int) < (sL S : Int)) ∧
  (r32 (a3 + 2)) ∧
  ((0 : Int) ≤ a3 + 2) ∧
  ((a3 + 2 : Int) < (sL S : Int)) ∧
  (r32 (a3 + 3)) ∧
  ((0 : Int) ≤ a3 + 3) ∧
  ((a3 + 3 : Int) < (sL S : Int)) ∧
  (r32 (a3 + 4)) ∧
  ((0 : Int) ≤ a3 + 4) ∧
  ((a3 + 4 : Int) < (sL S : Int)) ∧
  (r32 (a3 + 5)) ∧
  ((0 : Int) ≤ a3 + 5) ∧
  ((a3 + 5 : Int) < (sL S : Int)) ∧
  (r32 (a3 + 6)) ∧
  ((0 : Int) ≤ a3 + 6) ∧
  ((a3 + 6 : Int) < (sL S : Int)) ∧
  (r32 (a3 + 7)) ∧
  ((0 : Int) ≤ a3 + 7) ∧
  ((a3 + 7 : Int) < (sL S : Int)) ∧
  (1 ≤ d) ∧
  (sK S a1 = 9) ∧
  Ok (d - 1) MX9_atLeast [vR a1, vI (sx S (a3 + 1)), vI (sx S (a3 + 2)), vI (sx S (a3 + 3)), vI (sx S (a3 + 4)), vI (sx S (a3 + 5)), vJ (jOr (jShl (sx S (a3 + 6)) 32) (jAnd (sx S (a3 + 7)) 4294967295))] S F G (fun w23 S24 F25 G26 =>
  ∃ z28 : Int, w23 = some (vJ z28) ∧
  (r32 (a3 + 1)) ∧
  ((0 : Int) ≤ a3 + 1) ∧
  ((a3 + 1 : Int) < (sL S24 : Int)) ∧
  (r32 (a3 + 2)) ∧
  ((0 : Int) ≤ a3 + 2) ∧
  ((a3 + 2 : Int) < (sL S24 : Int)) ∧
  (r32 (a3 + 3)) ∧
  ((0 : Int) ≤ a3 + 3) ∧
  ((a3 + 3 : Int) < (sL S24 : Int)) ∧
  (r32 (a3 + 4)) ∧
  ((0 : Int) ≤ a3 + 4) ∧
  ((a3 + 4 : Int) < (sL S24 : Int)) ∧
  (r32 (a3 + 5)) ∧
  ((0 : Int) ≤ a3 + 5) ∧
  ((a3 + 5 : Int) < (sL S24 : Int)) ∧
  (r32 (a3 + 6)) ∧
  ((0 : Int) ≤ a3 + 6) ∧
  ((a3 + 6 : Int) < (sL S24 : Int)) ∧
  (r32 (a3 + 7)) ∧
  ((0 : Int) ≤ a3 + 7) ∧
  ((a3 + 7 : Int) < (sL S24 : Int)) ∧
  (sK S24 a2 = 10) ∧
  Ok (d - 1) MX10_atLeast [vR a2, vI (sx S24 (a3 + 1)), vI (sx S24 (a3 + 2)), vI (sx S24 (a3 + 3)), vI (sx S24 (a3 + 4)), vI (sx S24 (a3 + 5)), vJ (jOr (jShl (sx S24 (a3 + 6)) 32) (jAnd (sx S24 (a3 + 7)) 4294967295))] S24 F25 G26 (fun w50 S51 F52 G53 =>
  ∃ z55 : Int, w50 = some (vJ z55) ∧
  ((z28 = z55) →
    V_law_2110 d S51 F52 G53 Q a1 a2 a3) ∧
  ((¬ z28 = z55) →
    Q (some (vI 0)) S51 F52 G53)))
set_option maxHeartbeats 4000000 in
set_option maxRecDepth 50000 in
theorem R_law_1194 {d : Nat} {S : AS} {F : AF} {G : AG} {Q : AQ} {a1 : Nat} {a2 : Nat} {a3 : Int} (h : V_law_1194 d S F G Q a1 a2 a3) : Go d Mlaw 1194 [some (vR 999999), some (vR a1), some (vR a2), some (vI a3)] [] S F G Q := by
  unfold V_law_1194 at h
  refine go_aload_n (show decode code 1194 = .ok (.aload_n 1, 1) by decide +kernel) (by rfl) ?_
  refine go_aload_n (show decode code 1195 = .ok (.aload_n 0, 1) by decide +kernel) (by rfl) ?_
  refine go_iload_n (show decode code 1196 = .ok (.iload_n 3, 1) by decide +kernel) (by rfl) ?_
  refine go_iconst (show decode code 1197 = .ok (.iconst 1, 1) by decide +kernel) (by decide) ?_
  obtain ⟨q1, h⟩ := h
  refine go_iadd (show decode code 1198 = .ok (.iadd, 1) by decide +kernel) q1 ?_
  obtain ⟨q2, h⟩ := h
  obtain ⟨q3, h⟩ := h
  refine go_scrld (show decode code 1199 = .ok (.iaload, 1) by decide +kernel) rfl q2 q3 ?_
  refine go_aload_n (show decode code 1200 = .ok (.aload_n 0, 1) by decide +kernel) (by rfl) ?_
  refine go_iload_n (show decode code 1201 = .ok (.iload_n 3, 1) by decide +kernel) (by rfl) ?_
  refine go_iconst (show decode code 1202 = .ok (.iconst 2, 1) by decide +kernel) (by decide) ?_
  obtain ⟨q4, h⟩ := h
  refine go_iadd (show decode code 1203 = .ok (.iadd, 1) by decide +kernel) q4 ?_
  obtain ⟨q5, h⟩ := h
  obtain ⟨q6, h⟩ := h
  refine go_scrld (show decode code 1204 = .ok (.iaload, 1) by decide +kernel) rfl q5 q6 ?_
  refine go_aload_n (show decode code 1205 = .ok (.aload_n 0, 1) by decide +kernel) (by rfl) ?_
  refine go_iload_n (show decode code 1206 = .ok (.iload_n 3, 1) by decide +kernel) (by rfl) ?_
  refine go_iconst (show decode code 1207 = .ok (.iconst 3, 1) by decide +kernel) (by decide) ?_
  obtain ⟨q7, h⟩ := h
  refine go_iadd (show decode code 1208 = .ok (.iadd, 1) by decide +kernel) q7 ?_
  obtain ⟨q8, h⟩ := h
  obtain ⟨q9, h⟩ := h
  refine go_scrld (show decode code 1209 = .ok (.iaload, 1) by decide +kernel) rfl q8 q9 ?_
  refine go_aload_n (show decode code 1210 = .ok (.aload_n 0, 1) by decide +kernel) (by rfl) ?_
  refine go_iload_n (show decode code 1211 = .ok (.iload_n 3, 1) by decide +kernel) (by rfl) ?_
  refine go_iconst (show decode code 1212 = .ok (.iconst 4, 1) by decide +kernel) (by decide) ?_
  obtain ⟨q10, h⟩ := h
  refine go_iadd (show decode code 1213 = .ok (.iadd, 1) by decide +kernel) q10 ?_
  obtain ⟨q11, h⟩ := h
  obtain ⟨q12, h⟩ := h
  refine go_scrld (show decode code 1214 = .ok (.iaload, 1) by decide +kernel) rfl q11 q12 ?_
  refine go_aload_n (show decode code 1215 = .ok (.aload_n 0, 1) by decide +kernel) (by rfl) ?_
  refine go_iload_n (show decode code 1216 = .ok (.iload_n 3, 1) by decide +kernel) (by rfl) ?_
  refine go_iconst (show decode code 1217 = .ok (.iconst 5, 1) by decide +kernel) (by decide) ?_
  obtain ⟨q13, h⟩ := h
  refine go_iadd (show decode code 1218 = .ok (.iadd, 1) by decide +kernel) q13 ?_
  obtain ⟨q14, h⟩ := h
  obtain ⟨q15, h⟩ := h
  refine go_scrld (show decode code 1219 = .ok (.iaload, 1) by decide +kernel) rfl q14 q15 ?_
  refine go_aload_n (show decode code 1220 = .ok (.aload_n 0, 1) by decide +kernel) (by rfl) ?_
  refine go_iload_n (show decode code 1221 = .ok (.iload_n 3, 1) by decide +kernel) (by rfl) ?_
  refine go_bipush (show decode code 1222 = .ok (.bipush 6, 2) by decide +kernel) (by decide) ?_
  obtain ⟨q16, h⟩ := h
  refine go_iadd (show decode code 1224 = .ok (.iadd, 1) by decide +kernel) q16 ?_
  obtain ⟨q17, h⟩ := h
  obtain ⟨q18, h⟩ := h
  refine go_scrld (show decode code 1225 = .ok (.iaload, 1) by decide +kernel) rfl q17 q18 ?_
  refine go_i2l (show decode code 1226 = .ok (.i2l, 1) by decide +kernel) ?_
  refine go_bipush (show decode code 1227 = .ok (.bipush 32, 2) by decide +kernel) (by decide) ?_
  refine go_lshl (show decode code 1229 = .ok (.lshl, 1) by decide +kernel) ?_
  refine go_aload_n (show decode code 1230 = .ok (.aload_n 0, 1) by decide +kernel) (by rfl) ?_
  refine go_iload_n (show decode code 1231 = .ok (.iload_n 3, 1) by decide +kernel) (by rfl) ?_
  refine go_bipush (show decode code 1232 = .ok (.bipush 7, 2) by decide +kernel) (by decide) ?_
  obtain ⟨q19, h⟩ := h
  refine go_iadd (show decode code 1234 = .ok (.iadd, 1) by decide +kernel) q19 ?_
  obtain ⟨q20, h⟩ := h
  obtain ⟨q21, h⟩ := h
  refine go_scrld (show decode code 1235 = .ok (.iaload, 1) by decide +kernel) rfl q20 q21 ?_
  refine go_i2l (show decode code 1236 = .ok (.i2l, 1) by decide +kernel) ?_
  refine go_ldc2 (show decode code 1237 = .ok (.ldc2_w 13, 3) by decide +kernel) lc_L_13 (by decide) ?_
  refine go_land (show decode code 1240 = .ok (.land, 1) by decide +kernel) ?_
  refine go_lor (show decode code 1241 = .ok (.lor, 1) by decide +kernel) ?_
  obtain ⟨q22, h⟩ := h
  obtain ⟨q27, h⟩ := h
  refine go_callV (d2 := d - 1) (M2 := MX9_atLeast) (n := 6) (ci := 9) (av := [vI (sx S (a3 + 1)), vI (sx S (a3 + 2)), vI (sx S (a3 + 3)), vI (sx S (a3 + 4)), vI (sx S (a3 + 5)), vJ (jOr (jShl (sx S (a3 + 6)) 32) (jAnd (sx S (a3 + 7)) 4294967295))]) (st := []) (show decode code 1242 = .ok (.invokevirtual 98, 3) by decide +kernel) ml_L_98 mt_X9_atLeast min_X9_atLeast mse_X9_atLeast (by decide) q27 rfl (Nat.le_of_ble_eq_true rfl) (by omega) (ok_mono h (fun w23 S24 F25 G26 h => ?_))
  obtain ⟨z28, e9, h⟩ := h
  subst e9
  show Go d Mlaw 1245 [some (vR 999999), some (vR a1), some (vR a2), some (vI a3)] [vJ z28] S24 F25 G26 Q
  refine go_aload_n (show decode code 1245 = .ok (.aload_n 2, 1) by decide +kernel) (by rfl) ?_
  refine go_aload_n (show decode code 1246 = .ok (.aload_n 0, 1) by decide +kernel) (by rfl) ?_
  refine go_iload_n (show decode code 1247 = .ok (.iload_n 3, 1) by decide +kernel) (by rfl) ?_
  refine go_iconst (show decode code 1248 = .ok (.iconst 1, 1) by decide +kernel) (by decide) ?_
  obtain ⟨q29, h⟩ := h
  refine go_iadd (show decode code 1249 = .ok (.iadd, 1) by decide +kernel) q29 ?_
  obtain ⟨q30, h⟩ := h
  obtain ⟨q31, h⟩ := h
  refine go_scrld (show decode code 1250 = .ok (.iaload, 1) by decide +kernel) rfl q30 q31 ?_
  refine go_aload_n (show decode code 1251 = .ok (.aload_n 0, 1) by decide +kernel) (by rfl) ?_
  refine go_iload_n (show decode code 1252 = .ok (.iload_n 3, 1) by decide +kernel) (by rfl) ?_
  refine go_iconst (show decode code 1253 = .ok (.iconst 2, 1) by decide +kernel) (by decide) ?_
  obtain ⟨q32, h⟩ := h
  refine go_iadd (show decode code 1254 = .ok (.iadd, 1) by decide +kernel) q32 ?_
  obtain ⟨q33, h⟩ := h
  obtain ⟨q34, h⟩ := h
  refine go_scrld (show decode code 1255 = .ok (.iaload, 1) by decide +kernel) rfl q33 q34 ?_
  refine go_aload_n (show decode code 1256 = .ok (.aload_n 0, 1) by decide +kernel) (by rfl) ?_
  refine go_iload_n (show decode code 1257 = .ok (.iload_n 3, 1) by decide +kernel) (by rfl) ?_
  refine go_iconst (show decode code 1258 = .ok (.iconst 3, 1) by decide +kernel) (by decide) ?_
  obtain ⟨q35, h⟩ := h
  refine go_iadd (show decode code 1259 = .ok (.iadd, 1) by decide +kernel) q35 ?_
  obtain ⟨q36, h⟩ := h
  obtain ⟨q37, h⟩ := h
  refine go_scrld (show decode code 1260 = .ok (.iaload, 1) by decide +kernel) rfl q36 q37 ?_
  refine go_aload_n (show decode code 1261 = .ok (.aload_n 0, 1) by decide +kernel) (by rfl) ?_
  refine go_iload_n (show decode code 1262 = .ok (.iload_n 3, 1) by decide +kernel) (by rfl) ?_
  refine go_iconst (show decode code 1263 = .ok (.iconst 4, 1) by decide +kernel) (by decide) ?_
  obtain ⟨q38, h⟩ := h
  refine go_iadd (show decode code 1264 = .ok (.iadd, 1) by decide +kernel) q38 ?_
  obtain ⟨q39, h⟩ := h
  obtain ⟨q40, h⟩ := h
  refine go_scrld (show decode code 1265 = .ok (.iaload, 1) by decide +kernel) rfl q39 q40 ?_
  refine go_aload_n (show decode code 1266 = .ok (.aload_n 0, 1) by decide +kernel) (by rfl) ?_
  refine go_iload_n (show decode code 1267 = .ok (.iload_n 3, 1) by decide +kernel) (by rfl) ?_
  refine go_iconst (show decode code 1268 = .ok (.iconst 5, 1) by decide +kernel) (by decide) ?_
  obtain ⟨q41, h⟩ := h
  refine go_iadd (show decode code 1269 = .ok (.iadd, 1) by decide +kernel) q41 ?_
  obtain ⟨q42, h⟩ := h
  obtain ⟨q43, h⟩ := h
  refine go_scrld (show decode code 1270 = .ok (.iaload, 1) by decide +kernel) rfl q42 q43 ?_
  refine go_aload_n (show decode code 1271 = .ok (.aload_n 0, 1) by decide +kernel) (by rfl) ?_
  refine go_iload_n (show decode code 1272 = .ok (.iload_n 3, 1) by decide +kernel) (by rfl) ?_
  refine go_bipush (show decode code 1273 = .ok (.bipush 6, 2) by decide +kernel) (by decide) ?_
  obtain ⟨q44, h⟩ := h
  refine go_iadd (show decode code 1275 = .ok (.iadd, 1) by decide +kernel) q44 ?_
  obtain ⟨q45, h⟩ := h
  obtain ⟨q46, h⟩ := h
  refine go_scrld (show decode code 1276 = .ok (.iaload, 1) by decide +kernel) rfl q45 q46 ?_
  refine go_i2l (show decode code 1277 = .ok (.i2l, 1) by decide +kernel) ?_
  refine go_bipush (show decode code 1278 = .ok (.bipush 32, 2) by decide +kernel) (by decide) ?_
  refine go_lshl (show decode code 1280 = .ok (.lshl, 1) by decide +kernel) ?_
  refine go_aload_n (show decode code 1281 = .ok (.aload_n 0, 1) by decide +kernel) (by rfl) ?_
  refine go_iload_n (show decode code 1282 = .ok (.iload_n 3, 1) by decide +kernel) (by rfl) ?_
  refine go_bipush (show decode code 1283 = .ok (.bipush 7, 2) by decide +kernel) (by decide) ?_
  obtain ⟨q47, h⟩ := h
  refine go_iadd (show decode code 1285 = .ok (.iadd, 1) by decide +kernel) q47 ?_
  obtain ⟨q48, h⟩ := h
  obtain ⟨q49, h⟩ := h
  refine go_scrld (show decode code 1286 = .ok (.iaload, 1) by decide +kernel) rfl q48 q49 ?_
  refine go_i2l (show decode code 1287 = .ok (.i2l, 1) by decide +kernel) ?_
  refine go_ldc2 (show decode code 1288 = .ok (.ldc2_w 13, 3) by decide +kernel) lc_L_13 (by decide) ?_
  refine go_land (show decode code 1291 = .ok (.land, 1) by decide +kernel) ?_
  refine go_lor (show decode code 1292 = .ok (.lor, 1) by decide +kernel) ?_
  obtain ⟨q54, h⟩ := h
  refine go_callV (d2 := d - 1) (M2 := MX10_atLeast) (n := 6) (ci := 10) (av := [vI (sx S24 (a3 + 1)), vI (sx S24 (a3 + 2)), vI (sx S24 (a3 + 3)), vI (sx S24 (a3 + 4)), vI (sx S24 (a3 + 5)), vJ (jOr (jShl (sx S24 (a3 + 6)) 32) (jAnd (sx S24 (a3 + 7)) 4294967295))]) (st := [vJ z28]) (show decode code 1293 = .ok (.invokevirtual 101, 3) by decide +kernel) ml_L_101 mt_X10_atLeast min_X10_atLeast mse_X10_atLeast (by decide) q54 rfl (Nat.le_of_ble_eq_true rfl) (by omega) (ok_mono h (fun w50 S51 F52 G53 h => ?_))
  obtain ⟨z55, e9, h⟩ := h
  subst e9
  show Go d Mlaw 1296 [some (vR 999999), some (vR a1), some (vR a2), some (vI a3)] [vJ z55, vJ z28] S51 F52 G53 Q
  obtain ⟨ht, hf⟩ := h
  refine go_jeq (tgt := 2110) (show decode code 1296 = .ok (.lcmp, 1) by decide +kernel) (show decode code 1297 = .ok (.ifCond .eq 813, 3) by decide +kernel) (by decide) (fun hc => ?_) (fun hc => ?_)
  · have h := ht hc
    exact R_law_2110 h
  · have h := hf hc
    refine go_iconst (show decode code 1300 = .ok (.iconst 0, 1) by decide +kernel) (by decide) ?_
    exact go_zret (show decode code 1301 = .ok (.ireturn, 1) by decide +kernel) rfl (by decide) h
set_option maxHeartbeats 4000000 in
set_option maxRecDepth 50000 in
def V_law_1118 (d : Nat) (S : AS) (F : AF) (G : AG) (Q : AQ) (a1 : Nat) (a2 : Nat) (a3 : Int) : Prop :=
  (r32 (a3 + 1)) ∧
  ((0 : Int) ≤ a3 + 1) ∧
  ((a3 + 1 : Int) < (sL S : Int)) ∧
  (r32 (a3 + 2)) ∧
  ((0 : Int) ≤ a3 + 2) ∧
  ((a3 + 2 : Int) < (sL S : Int)) ∧
  (r32 (a3 + 3)) ∧
  ((0 : Int) ≤ a3 + 3) ∧
  ((a3 + 3 : Int) < (sL S : Int)) ∧
  (r32 (a3 + 4)) ∧
  ((0 : Int) ≤ a3 + 4) ∧
  ((a3 + 4 : Int) < (sL S : Int)) ∧
  (r32 (a3 + 5)) ∧
  ((0 : Int) ≤ a3 + 5) ∧
  ((a3 + 5 : Int) < (sL S : Int)) ∧
  (r32 (a3 + 6)) ∧
  ((0 : Int) ≤ a3 + 6) ∧
  ((a3 + 6 : Int) < (sL S : Int)) ∧
  (1 ≤ d) ∧
  (sK S a1 = 9) ∧
  Ok (d - 1) MX9_share [vR a1, vI (sx S (a3 + 1)), vI (sx S (a3 + 2)), vI (sx S (a3 + 3)), vI (sx S (a3 + 4)), vI (sx S (a3 + 5)), vI (sx S (a3 + 6))] S F G (fun w20 S21 F22 G23 =>
  ∃ z25 : Int, w20 = some (vJ z25) ∧
  (r32 (a3 + 1)) ∧
  ((0 : Int) ≤ a3 + 1) ∧
  ((a3 + 1 : Int) < (sL S21 : Int)) ∧
  (r32 (a3 + 2)) ∧
  ((0 : Int) ≤ a3 + 2) ∧
  ((a3 + 2 : Int) < (sL S21 : Int)) ∧
  (r32 (a3 + 3)) ∧
  ((0 : Int) ≤ a3 + 3) ∧
  ((a3 + 3 : Int) < (sL S21 : Int)) ∧
  (r32 (a3 + 4)) ∧
  ((0 : Int) ≤ a3 + 4) ∧
  ((a3 + 4 : Int) < (sL S21 : Int)) ∧
  (r32 (a3 + 5)) ∧
  ((0 : Int) ≤ a3 + 5) ∧
  ((a3 + 5 : Int) < (sL S21 : Int)) ∧
  (r32 (a3 + 6)) ∧
  ((0 : Int) ≤ a3 + 6) ∧
  ((a3 + 6 : Int) < (sL S21 : Int)) ∧
  (sK S21 a2 = 10) ∧
  Ok (d - 1) MX10_share [vR a2, vI (sx S21 (a3 + 1)), vI (sx S21 (a3 + 2)), vI (sx S21 (a3 + 3)), vI (sx S21 (a3 + 4)), vI (sx S21 (a3 + 5)), vI (sx S21 (a3 + 6))] S21 F22 G23 (fun w44 S45 F46 G47 =>
  ∃ z49 : Int, w44 = some (vJ z49) ∧
  ((z25 = z49) →
    V_law_2110 d S45 F46 G47 Q a1 a2 a3) ∧
  ((¬ z25 = z49) →
    Q (some (vI 0)) S45 F46 G47)))
set_option maxHeartbeats 4000000 in
set_option maxRecDepth 50000 in
theorem R_law_1118 {d : Nat} {S : AS} {F : AF} {G : AG} {Q : AQ} {a1 : Nat} {a2 : Nat} {a3 : Int} (h : V_law_1118 d S F G Q a1 a2 a3) : Go d Mlaw 1118 [some (vR 999999), some (vR a1), some (vR a2), some (vI a3)] [] S F G Q := by
  unfold V_law_1118 at h
  refine go_aload_n (show decode code 1118 = .ok (.aload_n 1, 1) by decide +kernel) (by rfl) ?_
  refine go_aload_n (show decode code 1119 = .ok (.aload_n 0, 1) by decide +kernel) (by rfl) ?_
  refine go_iload_n (show decode code 1120 = .ok (.iload_n 3, 1) by decide +kernel) (by rfl) ?_
  refine go_iconst (show decode code 1121 = .ok (.iconst 1, 1) by decide +kernel) (by decide) ?_
  obtain ⟨q1, h⟩ := h
  refine go_iadd (show decode code 1122 = .ok (.iadd, 1) by decide +kernel) q1 ?_
  obtain ⟨q2, h⟩ := h
  obtain ⟨q3, h⟩ := h
  refine go_scrld (show decode code 1123 = .ok (.iaload, 1) by decide +kernel) rfl q2 q3 ?_
  refine go_aload_n (show decode code 1124 = .ok (.aload_n 0, 1) by decide +kernel) (by rfl) ?_
  refine go_iload_n (show decode code 1125 = .ok (.iload_n 3, 1) by decide +kernel) (by rfl) ?_
  refine go_iconst (show decode code 1126 = .ok (.iconst 2, 1) by decide +kernel) (by decide) ?_
  obtain ⟨q4, h⟩ := h
  refine go_iadd (show decode code 1127 = .ok (.iadd, 1) by decide +kernel) q4 ?_
  obtain ⟨q5, h⟩ := h
  obtain ⟨q6, h⟩ := h
  refine go_scrld (show decode code 1128 = .ok (.iaload, 1) by decide +kernel) rfl q5 q6 ?_
  refine go_aload_n (show decode code 1129 = .ok (.aload_n 0, 1) by decide +kernel) (by rfl) ?_
  refine go_iload_n (show decode code 1130 = .ok (.iload_n 3, 1) by decide +kernel) (by rfl) ?_
  refine go_iconst (show decode code 1131 = .ok (.iconst 3, 1) by decide +kernel) (by decide) ?_
  obtain ⟨q7, h⟩ := h
  refine go_iadd (show decode code 1132 = .ok (.iadd, 1) by decide +kernel) q7 ?_
  obtain ⟨q8, h⟩ := h
  obtain ⟨q9, h⟩ := h
  refine go_scrld (show decode code 1133 = .ok (.iaload, 1) by decide +kernel) rfl q8 q9 ?_
  refine go_aload_n (show decode code 1134 = .ok (.aload_n 0, 1) by decide +kernel) (by rfl) ?_
  refine go_iload_n (show decode code 1135 = .ok (.iload_n 3, 1) by decide +kernel) (by rfl) ?_
  refine go_iconst (show decode code 1136 = .ok (.iconst 4, 1) by decide +kernel) (by decide) ?_
  obtain ⟨q10, h⟩ := h
  refine go_iadd (show decode code 1137 = .ok (.iadd, 1) by decide +kernel) q10 ?_
  obtain ⟨q11, h⟩ := h
  obtain ⟨q12, h⟩ := h
  refine go_scrld (show decode code 1138 = .ok (.iaload, 1) by decide +kernel) rfl q11 q12 ?_
  refine go_aload_n (show decode code 1139 = .ok (.aload_n 0, 1) by decide +kernel) (by rfl) ?_
  refine go_iload_n (show decode code 1140 = .ok (.iload_n 3, 1) by decide +kernel) (by rfl) ?_
  refine go_iconst (show decode code 1141 = .ok (.iconst 5, 1) by decide +kernel) (by decide) ?_
  obtain ⟨q13, h⟩ := h
  refine go_iadd (show decode code 1142 = .ok (.iadd, 1) by decide +kernel) q13 ?_
  obtain ⟨q14, h⟩ := h
  obtain ⟨q15, h⟩ := h
  refine go_scrld (show decode code 1143 = .ok (.iaload, 1) by decide +kernel) rfl q14 q15 ?_
  refine go_aload_n (show decode code 1144 = .ok (.aload_n 0, 1) by decide +kernel) (by rfl) ?_
  refine go_iload_n (show decode code 1145 = .ok (.iload_n 3, 1) by decide +kernel) (by rfl) ?_
  refine go_bipush (show decode code 1146 = .ok (.bipush 6, 2) by decide +kernel) (by decide) ?_
  obtain ⟨q16, h⟩ := h
  refine go_iadd (show decode code 1148 = .ok (.iadd, 1) by decide +kernel) q16 ?_
  obtain ⟨q17, h⟩ := h
  obtain ⟨q18, h⟩ := h
  refine go_scrld (show decode code 1149 = .ok (.iaload, 1) by decide +kernel) rfl q17 q18 ?_
  obtain ⟨q19, h⟩ := h
  obtain ⟨q24, h⟩ := h
  refine go_callV (d2 := d - 1) (M2 := MX9_share) (n := 6) (ci := 9) (av := [vI (sx S (a3 + 1)), vI (sx S (a3 + 2)), vI (sx S (a3 + 3)), vI (sx S (a3 + 4)), vI (sx S (a3 + 5)), vI (sx S (a3 + 6))]) (st := []) (show decode code 1150 = .ok (.invokevirtual 94, 3) by decide +kernel) ml_L_94 mt_X9_share min_X9_share mse_X9_share (by decide) q24 rfl (Nat.le_of_ble_eq_true rfl) (by omega) (ok_mono h (fun w20 S21 F22 G23 h => ?_))
  obtain ⟨z25, e9, h⟩ := h
  subst e9
  show Go d Mlaw 1153 [some (vR 999999), some (vR a1), some (vR a2), some (vI a3)] [vJ z25] S21 F22 G23 Q
  refine go_aload_n (show decode code 1153 = .ok (.aload_n 2, 1) by decide +kernel) (by rfl) ?_
  refine go_aload_n (show decode code 1154 = .ok (.aload_n 0, 1) by decide +kernel) (by rfl) ?_
  refine go_iload_n (show decode code 1155 = .ok (.iload_n 3, 1) by decide +kernel) (by rfl) ?_
  refine go_iconst (show decode code 1156 = .ok (.iconst 1, 1) by decide +kernel) (by decide) ?_
  obtain ⟨q26, h⟩ := h
  refine go_iadd (show decode code 1157 = .ok (.iadd, 1) by decide +kernel) q26 ?_
  obtain ⟨q27, h⟩ := h
  obtain ⟨q28, h⟩ := h
  refine go_scrld (show decode code 1158 = .ok (.iaload, 1) by decide +kernel) rfl q27 q28 ?_
  refine go_aload_n (show decode code 1159 = .ok (.aload_n 0, 1) by decide +kernel) (by rfl) ?_
  refine go_iload_n (show decode code 1160 = .ok (.iload_n 3, 1) by decide +kernel) (by rfl) ?_
  refine go_iconst (show decode code 1161 = .ok (.iconst 2, 1) by decide +kernel) (by decide) ?_
  obtain ⟨q29, h⟩ := h
  refine go_iadd (show decode code 1162 = .ok (.iadd, 1) by decide +kernel) q29 ?_
  obtain ⟨q30, h⟩ := h
  obtain ⟨q31, h⟩ := h
  refine go_scrld (show decode code 1163 = .ok (.iaload, 1) by decide +kernel) rfl q30 q31 ?_
  refine go_aload_n (show decode code 1164 = .ok (.aload_n 0, 1) by decide +kernel) (by rfl) ?_
  refine go_iload_n (show decode code 1165 = .ok (.iload_n 3, 1) by decide +kernel) (by rfl) ?_
  refine go_iconst (show decode code 1166 = .ok (.iconst 3, 1) by decide +kernel) (by decide) ?_
  obtain ⟨q32, h⟩ := h
  refine go_iadd (show decode code 1167 = .ok (.iadd, 1) by decide +kernel) q32 ?_
  obtain ⟨q33, h⟩ := h
  obtain ⟨q34, h⟩ := h
  refine go_scrld (show decode code 1168 = .ok (.iaload, 1) by decide +kernel) rfl q33 q34 ?_
  refine go_aload_n (show decode code 1169 = .ok (.aload_n 0, 1) by decide +kernel) (by rfl) ?_
  refine go_iload_n (show decode code 1170 = .ok (.iload_n 3, 1) by decide +kernel) (by rfl) ?_
  refine go_iconst (show decode code 1171 = .ok (.iconst 4, 1) by decide +kernel) (by decide) ?_
  obtain ⟨q35, h⟩ := h
  refine go_iadd (show decode code 1172 = .ok (.iadd, 1) by decide +kernel) q35 ?_
  obtain ⟨q36, h⟩ := h
  obtain ⟨q37, h⟩ := h
  refine go_scrld (show decode code 1173 = .ok (.iaload, 1) by decide +kernel) rfl q36 q37 ?_
  refine go_aload_n (show decode code 1174 = .ok (.aload_n 0, 1) by decide +kernel) (by rfl) ?_
  refine go_iload_n (show decode code 1175 = .ok (.iload_n 3, 1) by decide +kernel) (by rfl) ?_
  refine go_iconst (show decode code 1176 = .ok (.iconst 5, 1) by decide +kernel) (by decide) ?_
  obtain ⟨q38, h⟩ := h
  refine go_iadd (show decode code 1177 = .ok (.iadd, 1) by decide +kernel) q38 ?_
  obtain ⟨q39, h⟩ := h
  obtain ⟨q40, h⟩ := h
  refine go_scrld (show decode code 1178 = .ok (.iaload, 1) by decide +kernel) rfl q39 q40 ?_
  refine go_aload_n (show decode code 1179 = .ok (.aload_n 0, 1) by decide +kernel) (by rfl) ?_
  refine go_iload_n (show decode code 1180 = .ok (.iload_n 3, 1) by decide +kernel) (by rfl) ?_
  refine go_bipush (show decode code 1181 = .ok (.bipush 6, 2) by decide +kernel) (by decide) ?_
  obtain ⟨q41, h⟩ := h
  refine go_iadd (show decode code 1183 = .ok (.iadd, 1) by decide +kernel) q41 ?_
  obtain ⟨q42, h⟩ := h
  obtain ⟨q43, h⟩ := h
  refine go_scrld (show decode code 1184 = .ok (.iaload, 1) by decide +kernel) rfl q42 q43 ?_
  obtain ⟨q48, h⟩ := h
  refine go_callV (d2 := d - 1) (M2 := MX10_share) (n := 6) (ci := 10) (av := [vI (sx S21 (a3 + 1)), vI (sx S21 (a3 + 2)), vI (sx S21 (a3 + 3)), vI (sx S21 (a3 + 4)), vI (sx S21 (a3 + 5)), vI (sx S21 (a3 + 6))]) (st := [vJ z25]) (show decode code 1185 = .ok (.invokevirtual 97, 3) by decide +kernel) ml_L_97 mt_X10_share min_X10_share mse_X10_share (by decide) q48 rfl (Nat.le_of_ble_eq_true rfl) (by omega) (ok_mono h (fun w44 S45 F46 G47 h => ?_))
  obtain ⟨z49, e9, h⟩ := h
  subst e9
  show Go d Mlaw 1188 [some (vR 999999), some (vR a1), some (vR a2), some (vI a3)] [vJ z49, vJ z25] S45 F46 G47 Q
  obtain ⟨ht, hf⟩ := h
  refine go_jeq (tgt := 2110) (show decode code 1188 = .ok (.lcmp, 1) by decide +kernel) (show decode code 1189 = .ok (.ifCond .eq 921, 3) by decide +kernel) (by decide) (fun hc => ?_) (fun hc => ?_)
  · have h := ht hc
    exact R_law_2110 h
  · have h := hf hc
    refine go_iconst (show decode code 1192 = .ok (.iconst 0, 1) by decide +kernel) (by decide) ?_
    exact go_zret (show decode code 1193 = .ok (.ireturn, 1) by decide +kernel) rfl (by decide) h
set_option maxHeartbeats 4000000 in
set_option maxRecDepth 50000 in
def V_law_1064 (d : Nat) (S : AS) (F : AF) (G : AG) (Q : AQ) (a1 : Nat) (a2 : Nat) (a3 : Int) : Prop :=
  (r32 (a3 + 1)) ∧
  ((0 : Int) ≤ a3 + 1) ∧
  ((a3 + 1 : Int) < (sL S : Int)) ∧
  (r32 (a3 + 2)) ∧
  ((0 : Int) ≤ a3 + 2) ∧
  ((a3 + 2 : Int) < (sL S : Int)) ∧
  (r32 (a3 + 3)) ∧
  ((0 : Int) ≤ a3 + 3) ∧
  ((a3 + 3 : Int) < (sL S : Int)) ∧
  (r32 (a3 + 4)) ∧
  ((0 : Int) ≤ a3 + 4) ∧
  ((a3 + 4 : Int) < (sL S : Int)) ∧
  (1 ≤ d) ∧
  (sK S a1 = 9) ∧
  Ok (d - 1) MX9_empty [vR a1, vI (sx S (a3 + 1)), vI (sx S (a3 + 2)), vI (sx S (a3 + 3)), vI (sx S (a3 + 4))] S F G (fun w14 S15 F16 G17 =>
  ∃ z19 : Int, w14 = some (vJ z19) ∧
  (r32 (a3 + 1)) ∧
  ((0 : Int) ≤ a3 + 1) ∧
  ((a3 + 1 : Int) < (sL S15 : Int)) ∧
  (r32 (a3 + 2)) ∧
  ((0 : Int) ≤ a3 + 2) ∧
  ((a3 + 2 : Int) < (sL S15 : Int)) ∧
  (r32 (a3 + 3)) ∧
  ((0 : Int) ≤ a3 + 3) ∧
  ((a3 + 3 : Int) < (sL S15 : Int)) ∧
  (r32 (a3 + 4)) ∧
  ((0 : Int) ≤ a3 + 4) ∧
  ((a3 + 4 : Int) < (sL S15 : Int)) ∧
  (sK S15 a2 = 10) ∧
  Ok (d - 1) MX10_empty [vR a2, vI (sx S15 (a3 + 1)), vI (sx S15 (a3 + 2)), vI (sx S15 (a3 + 3)), vI (sx S15 (a3 + 4))] S15 F16 G17 (fun w32 S33 F34 G35 =>
  ∃ z37 : Int, w32 = some (vJ z37) ∧
  ((z19 = z37) →
    V_law_2110 d S33 F34 G35 Q a1 a2 a3) ∧
  ((¬ z19 = z37) →
    Q (some (vI 0)) S33 F34 G35)))
set_option maxHeartbeats 4000000 in
set_option maxRecDepth 50000 in
theorem R_law_1064 {d : Nat} {S : AS} {F : AF} {G : AG} {Q : AQ} {a1 : Nat} {a2 : Nat} {a3 : Int} (h : V_law_1064 d S F G Q a1 a2 a3) : Go d Mlaw 1064 [some (vR 999999), some (vR a1), some (vR a2), some (vI a3)] [] S F G Q := by
  unfold V_law_1064 at h
  refine go_aload_n (show decode code 1064 = .ok (.aload_n 1, 1) by decide +kernel) (by rfl) ?_
  refine go_aload_n (show decode code 1065 = .ok (.aload_n 0, 1) by decide +kernel) (by rfl) ?_
  refine go_iload_n (show decode code 1066 = .ok (.iload_n 3, 1) by decide +kernel) (by rfl) ?_
  refine go_iconst (show decode code 1067 = .ok (.iconst 1, 1) by decide +kernel) (by decide) ?_
  obtain ⟨q1, h⟩ := h
  refine go_iadd (show decode code 1068 = .ok (.iadd, 1) by decide +kernel) q1 ?_
  obtain ⟨q2, h⟩ := h
  obtain ⟨q3, h⟩ := h
  refine go_scrld (show decode code 1069 = .ok (.iaload, 1) by decide +kernel) rfl q2 q3 ?_
  refine go_aload_n (show decode code 1070 = .ok (.aload_n 0, 1) by decide +kernel) (by rfl) ?_
  refine go_iload_n (show decode code 1071 = .ok (.iload_n 3, 1) by decide +kernel) (by rfl) ?_
  refine go_iconst (show decode code 1072 = .ok (.iconst 2, 1) by decide +kernel) (by decide) ?_
  obtain ⟨q4, h⟩ := h
  refine go_iadd (show decode code 1073 = .ok (.iadd, 1) by decide +kernel) q4 ?_
  obtain ⟨q5, h⟩ := h
  obtain ⟨q6, h⟩ := h
  refine go_scrld (show decode code 1074 = .ok (.iaload, 1) by decide +kernel) rfl q5 q6 ?_
  refine go_aload_n (show decode code 1075 = .ok (.aload_n 0, 1) by decide +kernel) (by rfl) ?_
  refine go_iload_n (show decode code 1076 = .ok (.iload_n 3, 1) by decide +kernel) (by rfl) ?_
  refine go_iconst (show decode code 1077 = .ok (.iconst 3, 1) by decide +kernel) (by decide) ?_
  obtain ⟨q7, h⟩ := h
  refine go_iadd (show decode code 1078 = .ok (.iadd, 1) by decide +kernel) q7 ?_
  obtain ⟨q8, h⟩ := h
  obtain ⟨q9, h⟩ := h
  refine go_scrld (show decode code 1079 = .ok (.iaload, 1) by decide +kernel) rfl q8 q9 ?_
  refine go_aload_n (show decode code 1080 = .ok (.aload_n 0, 1) by decide +kernel) (by rfl) ?_
  refine go_iload_n (show decode code 1081 = .ok (.iload_n 3, 1) by decide +kernel) (by rfl) ?_
  refine go_iconst (show decode code 1082 = .ok (.iconst 4, 1) by decide +kernel) (by decide) ?_
  obtain ⟨q10, h⟩ := h
  refine go_iadd (show decode code 1083 = .ok (.iadd, 1) by decide +kernel) q10 ?_
  obtain ⟨q11, h⟩ := h
  obtain ⟨q12, h⟩ := h
  refine go_scrld (show decode code 1084 = .ok (.iaload, 1) by decide +kernel) rfl q11 q12 ?_
  obtain ⟨q13, h⟩ := h
  obtain ⟨q18, h⟩ := h
  refine go_callV (d2 := d - 1) (M2 := MX9_empty) (n := 4) (ci := 9) (av := [vI (sx S (a3 + 1)), vI (sx S (a3 + 2)), vI (sx S (a3 + 3)), vI (sx S (a3 + 4))]) (st := []) (show decode code 1085 = .ok (.invokevirtual 89, 3) by decide +kernel) ml_L_89 mt_X9_empty min_X9_empty mse_X9_empty (by decide) q18 rfl (Nat.le_of_ble_eq_true rfl) (by omega) (ok_mono h (fun w14 S15 F16 G17 h => ?_))
  obtain ⟨z19, e9, h⟩ := h
  subst e9
  show Go d Mlaw 1088 [some (vR 999999), some (vR a1), some (vR a2), some (vI a3)] [vJ z19] S15 F16 G17 Q
  refine go_aload_n (show decode code 1088 = .ok (.aload_n 2, 1) by decide +kernel) (by rfl) ?_
  refine go_aload_n (show decode code 1089 = .ok (.aload_n 0, 1) by decide +kernel) (by rfl) ?_
  refine go_iload_n (show decode code 1090 = .ok (.iload_n 3, 1) by decide +kernel) (by rfl) ?_
  refine go_iconst (show decode code 1091 = .ok (.iconst 1, 1) by decide +kernel) (by decide) ?_
  obtain ⟨q20, h⟩ := h
  refine go_iadd (show decode code 1092 = .ok (.iadd, 1) by decide +kernel) q20 ?_
  obtain ⟨q21, h⟩ := h
  obtain ⟨q22, h⟩ := h
  refine go_scrld (show decode code 1093 = .ok (.iaload, 1) by decide +kernel) rfl q21 q22 ?_
  refine go_aload_n (show decode code 1094 = .ok (.aload_n 0, 1) by decide +kernel) (by rfl) ?_
  refine go_iload_n (show decode code 1095 = .ok (.iload_n 3, 1) by decide +kernel) (by rfl) ?_
  refine go_iconst (show decode code 1096 = .ok (.iconst 2, 1) by decide +kernel) (by decide) ?_
  obtain ⟨q23, h⟩ := h
  refine go_iadd (show decode code 1097 = .ok (.iadd, 1) by decide +kernel) q23 ?_
  obtain ⟨q24, h⟩ := h
  obtain ⟨q25, h⟩ := h
  refine go_scrld (show decode code 1098 = .ok (.iaload, 1) by decide +kernel) rfl q24 q25 ?_
  refine go_aload_n (show decode code 1099 = .ok (.aload_n 0, 1) by decide +kernel) (by rfl) ?_
  refine go_iload_n (show decode code 1100 = .ok (.iload_n 3, 1) by decide +kernel) (by rfl) ?_
  refine go_iconst (show decode code 1101 = .ok (.iconst 3, 1) by decide +kernel) (by decide) ?_
  obtain ⟨q26, h⟩ := h
  refine go_iadd (show decode code 1102 = .ok (.iadd, 1) by decide +kernel) q26 ?_
  obtain ⟨q27, h⟩ := h
  obtain ⟨q28, h⟩ := h
  refine go_scrld (show decode code 1103 = .ok (.iaload, 1) by decide +kernel) rfl q27 q28 ?_
  refine go_aload_n (show decode code 1104 = .ok (.aload_n 0, 1) by decide +kernel) (by rfl) ?_
  refine go_iload_n (show decode code 1105 = .ok (.iload_n 3, 1) by decide +kernel) (by rfl) ?_
  refine go_iconst (show decode code 1106 = .ok (.iconst 4, 1) by decide +kernel) (by decide) ?_
  obtain ⟨q29, h⟩ := h
  refine go_iadd (show decode code 1107 = .ok (.iadd, 1) by decide +kernel) q29 ?_
  obtain ⟨q30, h⟩ := h
  obtain ⟨q31, h⟩ := h
  refine go_scrld (show decode code 1108 = .ok (.iaload, 1) by decide +kernel) rfl q30 q31 ?_
  obtain ⟨q36, h⟩ := h
  refine go_callV (d2 := d - 1) (M2 := MX10_empty) (n := 4) (ci := 10) (av := [vI (sx S15 (a3 + 1)), vI (sx S15 (a3 + 2)), vI (sx S15 (a3 + 3)), vI (sx S15 (a3 + 4))]) (st := [vJ z19]) (show decode code 1109 = .ok (.invokevirtual 93, 3) by decide +kernel) ml_L_93 mt_X10_empty min_X10_empty mse_X10_empty (by decide) q36 rfl (Nat.le_of_ble_eq_true rfl) (by omega) (ok_mono h (fun w32 S33 F34 G35 h => ?_))
  obtain ⟨z37, e9, h⟩ := h
  subst e9
  show Go d Mlaw 1112 [some (vR 999999), some (vR a1), some (vR a2), some (vI a3)] [vJ z37, vJ z19] S33 F34 G35 Q
  obtain ⟨ht, hf⟩ := h
  refine go_jeq (tgt := 2110) (show decode code 1112 = .ok (.lcmp, 1) by decide +kernel) (show decode code 1113 = .ok (.ifCond .eq 997, 3) by decide +kernel) (by decide) (fun hc => ?_) (fun hc => ?_)
  · have h := ht hc
    exact R_law_2110 h
  · have h := hf hc
    refine go_iconst (show decode code 1116 = .ok (.iconst 0, 1) by decide +kernel) (by decide) ?_
    exact go_zret (show decode code 1117 = .ok (.ireturn, 1) by decide +kernel) rfl (by decide) h
set_option maxHeartbeats 4000000 in
set_option maxRecDepth 50000 in
def V_law_988 (d : Nat) (S : AS) (F : AF) (G : AG) (Q : AQ) (a1 : Nat) (a2 : Nat) (a3 : Int) : Prop :=
  (r32 (a3 + 1)) ∧
  ((0 : Int) ≤ a3 + 1) ∧
  ((a3 + 1 : Int) < (sL S : Int)) ∧
  (r32 (a3 + 2)) ∧
  ((0 : Int) ≤ a3 + 2) ∧
  ((a3 + 2 : Int) < (sL S : Int)) ∧
  (r32 (a3 + 3)) ∧
  ((0 : Int) ≤ a3 + 3) ∧
  ((a3 + 3 : Int) < (sL S : Int)) ∧
  (r32 (a3 + 4)) ∧
  ((0 : Int) ≤ a3 + 4) ∧
  ((a3 + 4 : Int) < (sL S : Int)) ∧
  (r32 (a3 + 5)) ∧
  ((0 : Int) ≤ a3 + 5) ∧
  ((a3 + 5 : Int) < (sL S : Int)) ∧
  (r32 (a3 + 6)) ∧
  ((0 : Int) ≤ a3 + 6) ∧
  ((a3 + 6 : Int) < (sL S : Int)) ∧
  (1 ≤ d) ∧
  (sK S a1 = 9) ∧
  Ok (d - 1) MX9_bound [vR a1, vI (sx S (a3 + 1)), vI (sx S (a3 + 2)), vI (sx S (a3 + 3)), vI (sx S (a3 + 4)), vI (sx S (a3 + 5)), vI (sx S (a3 + 6))] S F G (fun w20 S21 F22 G23 =>
  ∃ z25 : Int, w20 = some (vJ z25) ∧
  (r32 (a3 + 1)) ∧
  ((0 : Int) ≤ a3 + 1) ∧
  ((a3 + 1 : Int) < (sL S21 : Int)) ∧
  (r32 (a3 + 2)) ∧
  ((0 : Int) ≤ a3 + 2) ∧
  ((a3 + 2 : Int) < (sL S21 : Int)) ∧
  (r32 (a3 + 3)) ∧
  ((0 : Int) ≤ a3 + 3) ∧
  ((a3 + 3 : Int) < (sL S21 : Int)) ∧
  (r32 (a3 + 4)) ∧
  ((0 : Int) ≤ a3 + 4) ∧
  ((a3 + 4 : Int) < (sL S21 : Int)) ∧
  (r32 (a3 + 5)) ∧
  ((0 : Int) ≤ a3 + 5) ∧
  ((a3 + 5 : Int) < (sL S21 : Int)) ∧
  (r32 (a3 + 6)) ∧
  ((0 : Int) ≤ a3 + 6) ∧
  ((a3 + 6 : Int) < (sL S21 : Int)) ∧
  (sK S21 a2 = 10) ∧
  Ok (d - 1) MX10_bound [vR a2, vI (sx S21 (a3 + 1)), vI (sx S21 (a3 + 2)), vI (sx S21 (a3 + 3)), vI (sx S21 (a3 + 4)), vI (sx S21 (a3 + 5)), vI (sx S21 (a3 + 6))] S21 F22 G23 (fun w44 S45 F46 G47 =>
  ∃ z49 : Int, w44 = some (vJ z49) ∧
  ((z25 = z49) →
    V_law_2110 d S45 F46 G47 Q a1 a2 a3) ∧
  ((¬ z25 = z49) →
    Q (some (vI 0)) S45 F46 G47)))
set_option maxHeartbeats 4000000 in
set_option maxRecDepth 50000 in
theorem R_law_988 {d : Nat} {S : AS} {F : AF} {G : AG} {Q : AQ} {a1 : Nat} {a2 : Nat} {a3 : Int} (h : V_law_988 d S F G Q a1 a2 a3) : Go d Mlaw 988 [some (vR 999999), some (vR a1), some (vR a2), some (vI a3)] [] S F G Q := by
  unfold V_law_988 at h
  refine go_aload_n (show decode code 988 = .ok (.aload_n 1, 1) by decide +kernel) (by rfl) ?_
  refine go_aload_n (show decode code 989 = .ok (.aload_n 0, 1) by decide +kernel) (by rfl) ?_
  refine go_iload_n (show decode code 990 = .ok (.iload_n 3, 1) by decide +kernel) (by rfl) ?_
  refine go_iconst (show decode code 991 = .ok (.iconst 1, 1) by decide +kernel) (by decide) ?_
  obtain ⟨q1, h⟩ := h
  refine go_iadd (show decode code 992 = .ok (.iadd, 1) by decide +kernel) q1 ?_
  obtain ⟨q2, h⟩ := h
  obtain ⟨q3, h⟩ := h
  refine go_scrld (show decode code 993 = .ok (.iaload, 1) by decide +kernel) rfl q2 q3 ?_
  refine go_aload_n (show decode code 994 = .ok (.aload_n 0, 1) by decide +kernel) (by rfl) ?_
  refine go_iload_n (show decode code 995 = .ok (.iload_n 3, 1) by decide +kernel) (by rfl) ?_
  refine go_iconst (show decode code 996 = .ok (.iconst 2, 1) by decide +kernel) (by decide) ?_
  obtain ⟨q4, h⟩ := h
  refine go_iadd (show decode code 997 = .ok (.iadd, 1) by decide +kernel) q4 ?_
  obtain ⟨q5, h⟩ := h
  obtain ⟨q6, h⟩ := h
  refine go_scrld (show decode code 998 = .ok (.iaload, 1) by decide +kernel) rfl q5 q6 ?_
  refine go_aload_n (show decode code 999 = .ok (.aload_n 0, 1) by decide +kernel) (by rfl) ?_
  refine go_iload_n (show decode code 1000 = .ok (.iload_n 3, 1) by decide +kernel) (by rfl) ?_
  refine go_iconst (show decode code 1001 = .ok (.iconst 3, 1) by decide +kernel) (by decide) ?_
  obtain ⟨q7, h⟩ := h
  refine go_iadd (show decode code 1002 = .ok (.iadd, 1) by decide +kernel) q7 ?_
  obtain ⟨q8, h⟩ := h
  obtain ⟨q9, h⟩ := h
  refine go_scrld (show decode code 1003 = .ok (.iaload, 1) by decide +kernel) rfl q8 q9 ?_
  refine go_aload_n (show decode code 1004 = .ok (.aload_n 0, 1) by decide +kernel) (by rfl) ?_
  refine go_iload_n (show decode code 1005 = .ok (.iload_n 3, 1) by decide +kernel) (by rfl) ?_
  refine go_iconst (show decode code 1006 = .ok (.iconst 4, 1) by decide +kernel) (by decide) ?_
  obtain ⟨q10, h⟩ := h
  refine go_iadd (show decode code 1007 = .ok (.iadd, 1) by decide +kernel) q10 ?_
  obtain ⟨q11, h⟩ := h
  obtain ⟨q12, h⟩ := h
  refine go_scrld (show decode code 1008 = .ok (.iaload, 1) by decide +kernel) rfl q11 q12 ?_
  refine go_aload_n (show decode code 1009 = .ok (.aload_n 0, 1) by decide +kernel) (by rfl) ?_
  refine go_iload_n (show decode code 1010 = .ok (.iload_n 3, 1) by decide +kernel) (by rfl) ?_
  refine go_iconst (show decode code 1011 = .ok (.iconst 5, 1) by decide +kernel) (by decide) ?_
  obtain ⟨q13, h⟩ := h
  refine go_iadd (show decode code 1012 = .ok (.iadd, 1) by decide +kernel) q13 ?_
  obtain ⟨q14, h⟩ := h
  obtain ⟨q15, h⟩ := h
  refine go_scrld (show decode code 1013 = .ok (.iaload, 1) by decide +kernel) rfl q14 q15 ?_
  refine go_aload_n (show decode code 1014 = .ok (.aload_n 0, 1) by decide +kernel) (by rfl) ?_
  refine go_iload_n (show decode code 1015 = .ok (.iload_n 3, 1) by decide +kernel) (by rfl) ?_
  refine go_bipush (show decode code 1016 = .ok (.bipush 6, 2) by decide +kernel) (by decide) ?_
  obtain ⟨q16, h⟩ := h
  refine go_iadd (show decode code 1018 = .ok (.iadd, 1) by decide +kernel) q16 ?_
  obtain ⟨q17, h⟩ := h
  obtain ⟨q18, h⟩ := h
  refine go_scrld (show decode code 1019 = .ok (.iaload, 1) by decide +kernel) rfl q17 q18 ?_
  obtain ⟨q19, h⟩ := h
  obtain ⟨q24, h⟩ := h
  refine go_callV (d2 := d - 1) (M2 := MX9_bound) (n := 6) (ci := 9) (av := [vI (sx S (a3 + 1)), vI (sx S (a3 + 2)), vI (sx S (a3 + 3)), vI (sx S (a3 + 4)), vI (sx S (a3 + 5)), vI (sx S (a3 + 6))]) (st := []) (show decode code 1020 = .ok (.invokevirtual 85, 3) by decide +kernel) ml_L_85 mt_X9_bound min_X9_bound mse_X9_bound (by decide) q24 rfl (Nat.le_of_ble_eq_true rfl) (by omega) (ok_mono h (fun w20 S21 F22 G23 h => ?_))
  obtain ⟨z25, e9, h⟩ := h
  subst e9
  show Go d Mlaw 1023 [some (vR 999999), some (vR a1), some (vR a2), some (vI a3)] [vJ z25] S21 F22 G23 Q
  refine go_aload_n (show decode code 1023 = .ok (.aload_n 2, 1) by decide +kernel) (by rfl) ?_
  refine go_aload_n (show decode code 1024 = .ok (.aload_n 0, 1) by decide +kernel) (by rfl) ?_
  refine go_iload_n (show decode code 1025 = .ok (.iload_n 3, 1) by decide +kernel) (by rfl) ?_
  refine go_iconst (show decode code 1026 = .ok (.iconst 1, 1) by decide +kernel) (by decide) ?_
  obtain ⟨q26, h⟩ := h
  refine go_iadd (show decode code 1027 = .ok (.iadd, 1) by decide +kernel) q26 ?_
  obtain ⟨q27, h⟩ := h
  obtain ⟨q28, h⟩ := h
  refine go_scrld (show decode code 1028 = .ok (.iaload, 1) by decide +kernel) rfl q27 q28 ?_
  refine go_aload_n (show decode code 1029 = .ok (.aload_n 0, 1) by decide +kernel) (by rfl) ?_
  refine go_iload_n (show decode code 1030 = .ok (.iload_n 3, 1) by decide +kernel) (by rfl) ?_
  refine go_iconst (show decode code 1031 = .ok (.iconst 2, 1) by decide +kernel) (by decide) ?_
  obtain ⟨q29, h⟩ := h
  refine go_iadd (show decode code 1032 = .ok (.iadd, 1) by decide +kernel) q29 ?_
  obtain ⟨q30, h⟩ := h
  obtain ⟨q31, h⟩ := h
  refine go_scrld (show decode code 1033 = .ok (.iaload, 1) by decide +kernel) rfl q30 q31 ?_
  refine go_aload_n (show decode code 1034 = .ok (.aload_n 0, 1) by decide +kernel) (by rfl) ?_
  refine go_iload_n (show decode code 1035 = .ok (.iload_n 3, 1) by decide +kernel) (by rfl) ?_
  refine go_iconst (show decode code 1036 = .ok (.iconst 3, 1) by decide +kernel) (by decide) ?_
  obtain ⟨q32, h⟩ := h
  refine go_iadd (show decode code 1037 = .ok (.iadd, 1) by decide +kernel) q32 ?_
  obtain ⟨q33, h⟩ := h
  obtain ⟨q34, h⟩ := h
  refine go_scrld (show decode code 1038 = .ok (.iaload, 1) by decide +kernel) rfl q33 q34 ?_
  refine go_aload_n (show decode code 1039 = .ok (.aload_n 0, 1) by decide +kernel) (by rfl) ?_
  refine go_iload_n (show decode code 1040 = .ok (.iload_n 3, 1) by decide +kernel) (by rfl) ?_
  refine go_iconst (show decode code 1041 = .ok (.iconst 4, 1) by decide +kernel) (by decide) ?_
  obtain ⟨q35, h⟩ := h
  refine go_iadd (show decode code 1042 = .ok (.iadd, 1) by decide +kernel) q35 ?_
  obtain ⟨q36, h⟩ := h
  obtain ⟨q37, h⟩ := h
  refine go_scrld (show decode code 1043 = .ok (.iaload, 1) by decide +kernel) rfl q36 q37 ?_
  refine go_aload_n (show decode code 1044 = .ok (.aload_n 0, 1) by decide +kernel) (by rfl) ?_
  refine go_iload_n (show decode code 1045 = .ok (.iload_n 3, 1) by decide +kernel) (by rfl) ?_
  refine go_iconst (show decode code 1046 = .ok (.iconst 5, 1) by decide +kernel) (by decide) ?_
  obtain ⟨q38, h⟩ := h
  refine go_iadd (show decode code 1047 = .ok (.iadd, 1) by decide +kernel) q38 ?_
  obtain ⟨q39, h⟩ := h
  obtain ⟨q40, h⟩ := h
  refine go_scrld (show decode code 1048 = .ok (.iaload, 1) by decide +kernel) rfl q39 q40 ?_
  refine go_aload_n (show decode code 1049 = .ok (.aload_n 0, 1) by decide +kernel) (by rfl) ?_
  refine go_iload_n (show decode code 1050 = .ok (.iload_n 3, 1) by decide +kernel) (by rfl) ?_
  refine go_bipush (show decode code 1051 = .ok (.bipush 6, 2) by decide +kernel) (by decide) ?_
  obtain ⟨q41, h⟩ := h
  refine go_iadd (show decode code 1053 = .ok (.iadd, 1) by decide +kernel) q41 ?_
  obtain ⟨q42, h⟩ := h
  obtain ⟨q43, h⟩ := h
  refine go_scrld (show decode code 1054 = .ok (.iaload, 1) by decide +kernel) rfl q42 q43 ?_
  obtain ⟨q48, h⟩ := h
  refine go_callV (d2 := d - 1) (M2 := MX10_bound) (n := 6) (ci := 10) (av := [vI (sx S21 (a3 + 1)), vI (sx S21 (a3 + 2)), vI (sx S21 (a3 + 3)), vI (sx S21 (a3 + 4)), vI (sx S21 (a3 + 5)), vI (sx S21 (a3 + 6))]) (st := [vJ z25]) (show decode code 1055 = .ok (.invokevirtual 88, 3) by decide +kernel) ml_L_88 mt_X10_bound min_X10_bound mse_X10_bound (by decide) q48 rfl (Nat.le_of_ble_eq_true rfl) (by omega) (ok_mono h (fun w44 S45 F46 G47 h => ?_))
  obtain ⟨z49, e9, h⟩ := h
  subst e9
  show Go d Mlaw 1058 [some (vR 999999), some (vR a1), some (vR a2), some (vI a3)] [vJ z49, vJ z25] S45 F46 G47 Q
  obtain ⟨ht, hf⟩ := h
  refine go_jeq (tgt := 2110) (show decode code 1058 = .ok (.lcmp, 1) by decide +kernel) (show decode code 1059 = .ok (.ifCond .eq 1051, 3) by decide +kernel) (by decide) (fun hc => ?_) (fun hc => ?_)
  · have h := ht hc
    exact R_law_2110 h
  · have h := hf hc
    refine go_iconst (show decode code 1062 = .ok (.iconst 0, 1) by decide +kernel) (by decide) ?_
    exact go_zret (show decode code 1063 = .ok (.ireturn, 1) by decide +kernel) rfl (by decide) h
set_option maxHeartbeats 4000000 in
set_option maxRecDepth 50000 in
def V_law_944 (d : Nat) (S : AS) (F : AF) (G : AG) (Q : AQ) (a1 : Nat) (a2 : Nat) (a3 : Int) : Prop :=
  (r32 (a3 + 1)) ∧
  ((0 : Int) ≤ a3 + 1) ∧
  ((a3 + 1 : Int) < (sL S : Int)) ∧
  (r32 (a3 + 2)) ∧
  ((0 : Int) ≤ a3 + 2) ∧
  ((a3 + 2 : Int) < (sL S : Int)) ∧
  (r32 (a3 + 3)) ∧
  ((0 : Int) ≤ a3 + 3) ∧
  ((a3 + 3 : Int) < (sL S : Int)) ∧
  (1 ≤ d) ∧
  (sK S a1 = 9) ∧
  Ok (d - 1) MX9_at [vR a1, vI (sx S (a3 + 1)), vI (sx S (a3 + 2)), vI (sx S (a3 + 3))] S F G (fun w11 S12 F13 G14 =>
  ∃ z16 : Int, w11 = some (vJ z16) ∧
  (r32 (a3 + 1)) ∧
  ((0 : Int) ≤ a3 + 1) ∧
  ((a3 + 1 : Int) < (sL S12 : Int)) ∧
  (r32 (a3 + 2)) ∧
  ((0 : Int) ≤ a3 + 2) ∧
  ((a3 + 2 : Int) < (sL S12 : Int)) ∧
  (r32 (a3 + 3)) ∧
  ((0 : Int) ≤ a3 + 3) ∧
  ((a3 + 3 : Int) < (sL S12 : Int)) ∧
  (sK S12 a2 = 10) ∧
  Ok (d - 1) MX10_at [vR a2, vI (sx S12 (a3 + 1)), vI (sx S12 (a3 + 2)), vI (sx S12 (a3 + 3))] S12 F13 G14 (fun w26 S27 F28 G29 =>
  ∃ z31 : Int, w26 = some (vJ z31) ∧
  ((z16 = z31) →
    V_law_2110 d S27 F28 G29 Q a1 a2 a3) ∧
  ((¬ z16 = z31) →
    Q (some (vI 0)) S27 F28 G29)))
set_option maxHeartbeats 4000000 in
set_option maxRecDepth 50000 in
theorem R_law_944 {d : Nat} {S : AS} {F : AF} {G : AG} {Q : AQ} {a1 : Nat} {a2 : Nat} {a3 : Int} (h : V_law_944 d S F G Q a1 a2 a3) : Go d Mlaw 944 [some (vR 999999), some (vR a1), some (vR a2), some (vI a3)] [] S F G Q := by
  unfold V_law_944 at h
  refine go_aload_n (show decode code 944 = .ok (.aload_n 1, 1) by decide +kernel) (by rfl) ?_
  refine go_aload_n (show decode code 945 = .ok (.aload_n 0, 1) by decide +kernel) (by rfl) ?_
  refine go_iload_n (show decode code 946 = .ok (.iload_n 3, 1) by decide +kernel) (by rfl) ?_
  refine go_iconst (show decode code 947 = .ok (.iconst 1, 1) by decide +kernel) (by decide) ?_
  obtain ⟨q1, h⟩ := h
  refine go_iadd (show decode code 948 = .ok (.iadd, 1) by decide +kernel) q1 ?_
  obtain ⟨q2, h⟩ := h
  obtain ⟨q3, h⟩ := h
  refine go_scrld (show decode code 949 = .ok (.iaload, 1) by decide +kernel) rfl q2 q3 ?_
  refine go_aload_n (show decode code 950 = .ok (.aload_n 0, 1) by decide +kernel) (by rfl) ?_
  refine go_iload_n (show decode code 951 = .ok (.iload_n 3, 1) by decide +kernel) (by rfl) ?_
  refine go_iconst (show decode code 952 = .ok (.iconst 2, 1) by decide +kernel) (by decide) ?_
  obtain ⟨q4, h⟩ := h
  refine go_iadd (show decode code 953 = .ok (.iadd, 1) by decide +kernel) q4 ?_
  obtain ⟨q5, h⟩ := h
  obtain ⟨q6, h⟩ := h
  refine go_scrld (show decode code 954 = .ok (.iaload, 1) by decide +kernel) rfl q5 q6 ?_
  refine go_aload_n (show decode code 955 = .ok (.aload_n 0, 1) by decide +kernel) (by rfl) ?_
  refine go_iload_n (show decode code 956 = .ok (.iload_n 3, 1) by decide +kernel) (by rfl) ?_
  refine go_iconst (show decode code 957 = .ok (.iconst 3, 1) by decide +kernel) (by decide) ?_
  obtain ⟨q7, h⟩ := h
  refine go_iadd (show decode code 958 = .ok (.iadd, 1) by decide +kernel) q7 ?_
  obtain ⟨q8, h⟩ := h
  obtain ⟨q9, h⟩ := h
  refine go_scrld (show decode code 959 = .ok (.iaload, 1) by decide +kernel) rfl q8 q9 ?_
  obtain ⟨q10, h⟩ := h
  obtain ⟨q15, h⟩ := h
  refine go_callV (d2 := d - 1) (M2 := MX9_at) (n := 3) (ci := 9) (av := [vI (sx S (a3 + 1)), vI (sx S (a3 + 2)), vI (sx S (a3 + 3))]) (st := []) (show decode code 960 = .ok (.invokevirtual 80, 3) by decide +kernel) ml_L_80 mt_X9_at min_X9_at mse_X9_at (by decide) q15 rfl (Nat.le_of_ble_eq_true rfl) (by omega) (ok_mono h (fun w11 S12 F13 G14 h => ?_))
  obtain ⟨z16, e9, h⟩ := h
  subst e9
  show Go d Mlaw 963 [some (vR 999999), some (vR a1), some (vR a2), some (vI a3)] [vJ z16] S12 F13 G14 Q
  refine go_aload_n (show decode code 963 = .ok (.aload_n 2, 1) by decide +kernel) (by rfl) ?_
  refine go_aload_n (show decode code 964 = .ok (.aload_n 0, 1) by decide +kernel) (by rfl) ?_
  refine go_iload_n (show decode code 965 = .ok (.iload_n 3, 1) by decide +kernel) (by rfl) ?_
  refine go_iconst (show decode code 966 = .ok (.iconst 1, 1) by decide +kernel) (by decide) ?_
  obtain ⟨q17, h⟩ := h
  refine go_iadd (show decode code 967 = .ok (.iadd, 1) by decide +kernel) q17 ?_
  obtain ⟨q18, h⟩ := h
  obtain ⟨q19, h⟩ := h
  refine go_scrld (show decode code 968 = .ok (.iaload, 1) by decide +kernel) rfl q18 q19 ?_
  refine go_aload_n (show decode code 969 = .ok (.aload_n 0, 1) by decide +kernel) (by rfl) ?_
  refine go_iload_n (show decode code 970 = .ok (.iload_n 3, 1) by decide +kernel) (by rfl) ?_
  refine go_iconst (show decode code 971 = .ok (.iconst 2, 1) by decide +kernel) (by decide) ?_
  obtain ⟨q20, h⟩ := h
  refine go_iadd (show decode code 972 = .ok (.iadd, 1) by decide +kernel) q20 ?_
  obtain ⟨q21, h⟩ := h
  obtain ⟨q22, h⟩ := h
  refine go_scrld (show decode code 973 = .ok (.iaload, 1) by decide +kernel) rfl q21 q22 ?_
  refine go_aload_n (show decode code 974 = .ok (.aload_n 0, 1) by decide +kernel) (by rfl) ?_
  refine go_iload_n (show decode code 975 = .ok (.iload_n 3, 1) by decide +kernel) (by rfl) ?_
  refine go_iconst (show decode code 976 = .ok (.iconst 3, 1) by decide +kernel) (by decide) ?_
  obtain ⟨q23, h⟩ := h
  refine go_iadd (show decode code 977 = .ok (.iadd, 1) by decide +kernel) q23 ?_
  obtain ⟨q24, h⟩ := h
  obtain ⟨q25, h⟩ := h
  refine go_scrld (show decode code 978 = .ok (.iaload, 1) by decide +kernel) rfl q24 q25 ?_
  obtain ⟨q30, h⟩ := h
  refine go_callV (d2 := d - 1) (M2 := MX10_at) (n := 3) (ci := 10) (av := [vI (sx S12 (a3 + 1)), vI (sx S12 (a3 + 2)), vI (sx S12 (a3 + 3))]) (st := [vJ z16]) (show decode code 979 = .ok (.invokevirtual 84, 3) by decide +kernel) ml_L_84 mt_X10_at min_X10_at mse_X10_at (by decide) q30 rfl (Nat.le_of_ble_eq_true rfl) (by omega) (ok_mono h (fun w26 S27 F28 G29 h => ?_))
  obtain ⟨z31, e9, h⟩ := h
  subst e9
  show Go d Mlaw 982 [some (vR 999999), some (vR a1), some (vR a2), some (vI a3)] [vJ z31, vJ z16] S27 F28 G29 Q
  obtain ⟨ht, hf⟩ := h
  refine go_jeq (tgt := 2110) (show decode code 982 = .ok (.lcmp, 1) by decide +kernel) (show decode code 983 = .ok (.ifCond .eq 1127, 3) by decide +kernel) (by decide) (fun hc => ?_) (fun hc => ?_)
  · have h := ht hc
    exact R_law_2110 h
  · have h := hf hc
    refine go_iconst (show decode code 986 = .ok (.iconst 0, 1) by decide +kernel) (by decide) ?_
    exact go_zret (show decode code 987 = .ok (.ireturn, 1) by decide +kernel) rfl (by decide) h
set_option maxHeartbeats 4000000 in
set_option maxRecDepth 50000 in
def V_law_880 (d : Nat) (S : AS) (F : AF) (G : AG) (Q : AQ) (a1 : Nat) (a2 : Nat) (a3 : Int) : Prop :=
  (r32 (a3 + 1)) ∧
  ((0 : Int) ≤ a3 + 1) ∧
  ((a3 + 1 : Int) < (sL S : Int)) ∧
  (r32 (a3 + 2)) ∧
  ((0 : Int) ≤ a3 + 2) ∧
  ((a3 + 2 : Int) < (sL S : Int)) ∧
  (r32 (a3 + 3)) ∧
  ((0 : Int) ≤ a3 + 3) ∧
  ((a3 + 3 : Int) < (sL S : Int)) ∧
  (r32 (a3 + 4)) ∧
  ((0 : Int) ≤ a3 + 4) ∧
  ((a3 + 4 : Int) < (sL S : Int)) ∧
  (r32 (a3 + 5)) ∧
  ((0 : Int) ≤ a3 + 5) ∧
  ((a3 + 5 : Int) < (sL S : Int)) ∧
  (1 ≤ d) ∧
  (sK S a1 = 9) ∧
  Ok (d - 1) MX9_sum [vR a1, vI (sx S (a3 + 1)), vI (sx S (a3 + 2)), vI (sx S (a3 + 3)), vI (sx S (a3 + 4)), vI (sx S (a3 + 5))] S F G (fun w17 S18 F19 G20 =>
  ∃ z22 : Int, w17 = some (vJ z22) ∧
  (r32 (a3 + 1)) ∧
  ((0 : Int) ≤ a3 + 1) ∧
  ((a3 + 1 : Int) < (sL S18 : Int)) ∧
  (r32 (a3 + 2)) ∧
  ((0 : Int) ≤ a3 + 2) ∧
  ((a3 + 2 : Int) < (sL S18 : Int)) ∧
  (r32 (a3 + 3)) ∧
  ((0 : Int) ≤ a3 + 3) ∧
  ((a3 + 3 : Int) < (sL S18 : Int)) ∧
  (r32 (a3 + 4)) ∧
  ((0 : Int) ≤ a3 + 4) ∧
  ((a3 + 4 : Int) < (sL S18 : Int)) ∧
  (r32 (a3 + 5)) ∧
  ((0 : Int) ≤ a3 + 5) ∧
  ((a3 + 5 : Int) < (sL S18 : Int)) ∧
  (sK S18 a2 = 10) ∧
  Ok (d - 1) MX10_sum [vR a2, vI (sx S18 (a3 + 1)), vI (sx S18 (a3 + 2)), vI (sx S18 (a3 + 3)), vI (sx S18 (a3 + 4)), vI (sx S18 (a3 + 5))] S18 F19 G20 (fun w38 S39 F40 G41 =>
  ∃ z43 : Int, w38 = some (vJ z43) ∧
  ((z22 = z43) →
    V_law_2110 d S39 F40 G41 Q a1 a2 a3) ∧
  ((¬ z22 = z43) →
    Q (some (vI 0)) S39 F40 G41)))
set_option maxHeartbeats 4000000 in
set_option maxRecDepth 50000 in
theorem R_law_880 {d : Nat} {S : AS} {F : AF} {G : AG} {Q : AQ} {a1 : Nat} {a2 : Nat} {a3 : Int} (h : V_law_880 d S F G Q a1 a2 a3) : Go d Mlaw 880 [some (vR 999999), some (vR a1), some (vR a2), some (vI a3)] [] S F G Q := by
  unfold V_law_880 at h
  refine go_aload_n (show decode code 880 = .ok (.aload_n 1, 1) by decide +kernel) (by rfl) ?_
  refine go_aload_n (show decode code 881 = .ok (.aload_n 0, 1) by decide +kernel) (by rfl) ?_
  refine go_iload_n (show decode code 882 = .ok (.iload_n 3, 1) by decide +kernel) (by rfl) ?_
  refine go_iconst (show decode code 883 = .ok (.iconst 1, 1) by decide +kernel) (by decide) ?_
  obtain ⟨q1, h⟩ := h
  refine go_iadd (show decode code 884 = .ok (.iadd, 1) by decide +kernel) q1 ?_
  obtain ⟨q2, h⟩ := h
  obtain ⟨q3, h⟩ := h
  refine go_scrld (show decode code 885 = .ok (.iaload, 1) by decide +kernel) rfl q2 q3 ?_
  refine go_aload_n (show decode code 886 = .ok (.aload_n 0, 1) by decide +kernel) (by rfl) ?_
  refine go_iload_n (show decode code 887 = .ok (.iload_n 3, 1) by decide +kernel) (by rfl) ?_
  refine go_iconst (show decode code 888 = .ok (.iconst 2, 1) by decide +kernel) (by decide) ?_
  obtain ⟨q4, h⟩ := h
  refine go_iadd (show decode code 889 = .ok (.iadd, 1) by decide +kernel) q4 ?_
  obtain ⟨q5, h⟩ := h
  obtain ⟨q6, h⟩ := h
  refine go_scrld (show decode code 890 = .ok (.iaload, 1) by decide +kernel) rfl q5 q6 ?_
  refine go_aload_n (show decode code 891 = .ok (.aload_n 0, 1) by decide +kernel) (by rfl) ?_
  refine go_iload_n (show decode code 892 = .ok (.iload_n 3, 1) by decide +kernel) (by rfl) ?_
  refine go_iconst (show decode code 893 = .ok (.iconst 3, 1) by decide +kernel) (by decide) ?_
  obtain ⟨q7, h⟩ := h
  refine go_iadd (show decode code 894 = .ok (.iadd, 1) by decide +kernel) q7 ?_
  obtain ⟨q8, h⟩ := h
  obtain ⟨q9, h⟩ := h
  refine go_scrld (show decode code 895 = .ok (.iaload, 1) by decide +kernel) rfl q8 q9 ?_
  refine go_aload_n (show decode code 896 = .ok (.aload_n 0, 1) by decide +kernel) (by rfl) ?_
  refine go_iload_n (show decode code 897 = .ok (.iload_n 3, 1) by decide +kernel) (by rfl) ?_
  refine go_iconst (show decode code 898 = .ok (.iconst 4, 1) by decide +kernel) (by decide) ?_
  obtain ⟨q10, h⟩ := h
  refine go_iadd (show decode code 899 = .ok (.iadd, 1) by decide +kernel) q10 ?_
  obtain ⟨q11, h⟩ := h
  obtain ⟨q12, h⟩ := h
  refine go_scrld (show decode code 900 = .ok (.iaload, 1) by decide +kernel) rfl q11 q12 ?_
  refine go_aload_n (show decode code 901 = .ok (.aload_n 0, 1) by decide +kernel) (by rfl) ?_
  refine go_iload_n (show decode code 902 = .ok (.iload_n 3, 1) by decide +kernel) (by rfl) ?_
  refine go_iconst (show decode code 903 = .ok (.iconst 5, 1) by decide +kernel) (by decide) ?_
  obtain ⟨q13, h⟩ := h
  refine go_iadd (show decode code 904 = .ok (.iadd, 1) by decide +kernel) q13 ?_
  obtain ⟨q14, h⟩ := h
  obtain ⟨q15, h⟩ := h
  refine go_scrld (show decode code 905 = .ok (.iaload, 1) by decide +kernel) rfl q14 q15 ?_
  obtain ⟨q16, h⟩ := h
  obtain ⟨q21, h⟩ := h
  refine go_callV (d2 := d - 1) (M2 := MX9_sum) (n := 5) (ci := 9) (av := [vI (sx S (a3 + 1)), vI (sx S (a3 + 2)), vI (sx S (a3 + 3)), vI (sx S (a3 + 4)), vI (sx S (a3 + 5))]) (st := []) (show decode code 906 = .ok (.invokevirtual 76, 3) by decide +kernel) ml_L_76 mt_X9_sum min_X9_sum mse_X9_sum (by decide) q21 rfl (Nat.le_of_ble_eq_true rfl) (by omega) (ok_mono h (fun w17 S18 F19 G20 h => ?_))
  obtain ⟨z22, e9, h⟩ := h
  subst e9
  show Go d Mlaw 909 [some (vR 999999), some (vR a1), some (vR a2), some (vI a3)] [vJ z22] S18 F19 G20 Q
  refine go_aload_n (show decode code 909 = .ok (.aload_n 2, 1) by decide +kernel) (by rfl) ?_
  refine go_aload_n (show decode code 910 = .ok (.aload_n 0, 1) by decide +kernel) (by rfl) ?_
  refine go_iload_n (show decode code 911 = .ok (.iload_n 3, 1) by decide +kernel) (by rfl) ?_
  refine go_iconst (show decode code 912 = .ok (.iconst 1, 1) by decide +kernel) (by decide) ?_
  obtain ⟨q23, h⟩ := h
  refine go_iadd (show decode code 913 = .ok (.iadd, 1) by decide +kernel) q23 ?_
  obtain ⟨q24, h⟩ := h
  obtain ⟨q25, h⟩ := h
  refine go_scrld (show decode code 914 = .ok (.iaload, 1) by decide +kernel) rfl q24 q25 ?_
  refine go_aload_n (show decode code 915 = .ok (.aload_n 0, 1) by decide +kernel) (by rfl) ?_
  refine go_iload_n (show decode code 916 = .ok (.iload_n 3, 1) by decide +kernel) (by rfl) ?_
  refine go_iconst (show decode code 917 = .ok (.iconst 2, 1) by decide +kernel) (by decide) ?_
  obtain ⟨q26, h⟩ := h
  refine go_iadd (show decode code 918 = .ok (.iadd, 1) by decide +kernel) q26 ?_
  obtain ⟨q27, h⟩ := h
  obtain ⟨q28, h⟩ := h
  refine go_scrld (show decode code 919 = .ok (.iaload, 1) by decide +kernel) rfl q27 q28 ?_
  refine go_aload_n (show decode code 920 = .ok (.aload_n 0, 1) by decide +kernel) (by rfl) ?_
  refine go_iload_n (show decode code 921 = .ok (.iload_n 3, 1) by decide +kernel) (by rfl) ?_
  refine go_iconst (show decode code 922 = .ok (.iconst 3, 1) by decide +kernel) (by decide) ?_
  obtain ⟨q29, h⟩ := h
  refine go_iadd (show decode code 923 = .ok (.iadd, 1) by decide +kernel) q29 ?_
  obtain ⟨q30, h⟩ := h
  obtain ⟨q31, h⟩ := h
  refine go_scrld (show decode code 924 = .ok (.iaload, 1) by decide +kernel) rfl q30 q31 ?_
  refine go_aload_n (show decode code 925 = .ok (.aload_n 0, 1) by decide +kernel) (by rfl) ?_
  refine go_iload_n (show decode code 926 = .ok (.iload_n 3, 1) by decide +kernel) (by rfl) ?_
  refine go_iconst (show decode code 927 = .ok (.iconst 4, 1) by decide +kernel) (by decide) ?_
  obtain ⟨q32, h⟩ := h
  refine go_iadd (show decode code 928 = .ok (.iadd, 1) by decide +kernel) q32 ?_
  obtain ⟨q33, h⟩ := h
  obtain ⟨q34, h⟩ := h
  refine go_scrld (show decode code 929 = .ok (.iaload, 1) by decide +kernel) rfl q33 q34 ?_
  refine go_aload_n (show decode code 930 = .ok (.aload_n 0, 1) by decide +kernel) (by rfl) ?_
  refine go_iload_n (show decode code 931 = .ok (.iload_n 3, 1) by decide +kernel) (by rfl) ?_
  refine go_iconst (show decode code 932 = .ok (.iconst 5, 1) by decide +kernel) (by decide) ?_
  obtain ⟨q35, h⟩ := h
  refine go_iadd (show decode code 933 = .ok (.iadd, 1) by decide +kernel) q35 ?_
  obtain ⟨q36, h⟩ := h
  obtain ⟨q37, h⟩ := h
  refine go_scrld (show decode code 934 = .ok (.iaload, 1) by decide +kernel) rfl q36 q37 ?_
  obtain ⟨q42, h⟩ := h
  refine go_callV (d2 := d - 1) (M2 := MX10_sum) (n := 5) (ci := 10) (av := [vI (sx S18 (a3 + 1)), vI (sx S18 (a3 + 2)), vI (sx S18 (a3 + 3)), vI (sx S18 (a3 + 4)), vI (sx S18 (a3 + 5))]) (st := [vJ z22]) (show decode code 935 = .ok (.invokevirtual 79, 3) by decide +kernel) ml_L_79 mt_X10_sum min_X10_sum mse_X10_sum (by decide) q42 rfl (Nat.le_of_ble_eq_true rfl) (by omega) (ok_mono h (fun w38 S39 F40 G41 h => ?_))
  obtain ⟨z43, e9, h⟩ := h
  subst e9
  show Go d Mlaw 938 [some (vR 999999), some (vR a1), some (vR a2), some (vI a3)] [vJ z43, vJ z22] S39 F40 G41 Q
  obtain ⟨ht, hf⟩ := h
  refine go_jeq (tgt := 2110) (show decode code 938 = .ok (.lcmp, 1) by decide +kernel) (show decode code 939 = .ok (.ifCond .eq 1171, 3) by decide +kernel) (by decide) (fun hc => ?_) (fun hc => ?_)
  · have h := ht hc
    exact R_law_2110 h
  · have h := hf hc
    refine go_iconst (show decode code 942 = .ok (.iconst 0, 1) by decide +kernel) (by decide) ?_
    exact go_zret (show decode code 943 = .ok (.ireturn, 1) by decide +kernel) rfl (by decide) h
set_option maxHeartbeats 4000000 in
set_option maxRecDepth 50000 in
def V_law_857 (d : Nat) (S : AS) (F : AF) (G : AG) (Q : AQ) (a1 : Nat) (a2 : Nat) (a3 : Int) : Prop :=
  (r32 (a3 + 1)) ∧
  ((0 : Int) ≤ a3 + 1) ∧
  ((a3 + 1 : Int) < (sL S : Int)) ∧
  (1 ≤ d) ∧
  (sK S a1 = 9) ∧
  Ok (d - 1) MX9_fault [vR a1, vI (sx S (a3 + 1))] S F G (fun w5 S6 F7 G8 =>
  ∃ z10 : Int, w5 = some (vI z10) ∧
  (r32 (a3 + 1)) ∧
  ((0 : Int) ≤ a3 + 1) ∧
  ((a3 + 1 : Int) < (sL S6 : Int)) ∧
  (sK S6 a2 = 10) ∧
  Ok (d - 1) MX10_fault [vR a2, vI (sx S6 (a3 + 1))] S6 F7 G8 (fun w14 S15 F16 G17 =>
  ∃ z19 : Int, w14 = some (vI z19) ∧
  ((z10 = z19) →
    V_law_2110 d S15 F16 G17 Q a1 a2 a3) ∧
  ((¬ z10 = z19) →
    Q (some (vI 0)) S15 F16 G17)))
set_option maxHeartbeats 4000000 in
set_option maxRecDepth 50000 in
theorem R_law_857 {d : Nat} {S : AS} {F : AF} {G : AG} {Q : AQ} {a1 : Nat} {a2 : Nat} {a3 : Int} (h : V_law_857 d S F G Q a1 a2 a3) : Go d Mlaw 857 [some (vR 999999), some (vR a1), some (vR a2), some (vI a3)] [] S F G Q := by
  unfold V_law_857 at h
  refine go_aload_n (show decode code 857 = .ok (.aload_n 1, 1) by decide +kernel) (by rfl) ?_
  refine go_aload_n (show decode code 858 = .ok (.aload_n 0, 1) by decide +kernel) (by rfl) ?_
  refine go_iload_n (show decode code 859 = .ok (.iload_n 3, 1) by decide +kernel) (by rfl) ?_
  refine go_iconst (show decode code 860 = .ok (.iconst 1, 1) by decide +kernel) (by decide) ?_
  obtain ⟨q1, h⟩ := h
  refine go_iadd (show decode code 861 = .ok (.iadd, 1) by decide +kernel) q1 ?_
  obtain ⟨q2, h⟩ := h
  obtain ⟨q3, h⟩ := h
  refine go_scrld (show decode code 862 = .ok (.iaload, 1) by decide +kernel) rfl q2 q3 ?_
  obtain ⟨q4, h⟩ := h
  obtain ⟨q9, h⟩ := h
  refine go_callV (d2 := d - 1) (M2 := MX9_fault) (n := 1) (ci := 9) (av := [vI (sx S (a3 + 1))]) (st := []) (show decode code 863 = .ok (.invokevirtual 72, 3) by decide +kernel) ml_L_72 mt_X9_fault min_X9_fault mse_X9_fault (by decide) q9 rfl (Nat.le_of_ble_eq_true rfl) (by omega) (ok_mono h (fun w5 S6 F7 G8 h => ?_))
  obtain ⟨z10, e9, h⟩ := h
  subst e9
  show Go d Mlaw 866 [some (vR 999999), some (vR a1), some (vR a2), some (vI a3)] [vI z10] S6 F7 G8 Q
  refine go_aload_n (show decode code 866 = .ok (.aload_n 2, 1) by decide +kernel) (by rfl) ?_
  refine go_aload_n (show decode code 867 = .ok (.aload_n 0, 1) by decide +kernel) (by rfl) ?_
  refine go_iload_n (show decode code 868 = .ok (.iload_n 3, 1) by decide +kernel) (by rfl) ?_
  refine go_iconst (show decode code 869 = .ok (.iconst 1, 1) by decide +kernel) (by decide) ?_
  obtain ⟨q11, h⟩ := h
  refine go_iadd (show decode code 870 = .ok (.iadd, 1) by decide +kernel) q11 ?_
  obtain ⟨q12, h⟩ := h
  obtain ⟨q13, h⟩ := h
  refine go_scrld (show decode code 871 = .ok (.iaload, 1) by decide +kernel) rfl q12 q13 ?_
  obtain ⟨q18, h⟩ := h
  refine go_callV (d2 := d - 1) (M2 := MX10_fault) (n := 1) (ci := 10) (av := [vI (sx S6 (a3 + 1))]) (st := [vI z10]) (show decode code 872 = .ok (.invokevirtual 75, 3) by decide +kernel) ml_L_75 mt_X10_fault min_X10_fault mse_X10_fault (by decide) q18 rfl (Nat.le_of_ble_eq_true rfl) (by omega) (ok_mono h (fun w14 S15 F16 G17 h => ?_))
  obtain ⟨z19, e9, h⟩ := h
  subst e9
  show Go d Mlaw 875 [some (vR 999999), some (vR a1), some (vR a2), some (vI a3)] [vI z19, vI z10] S15 F16 G17 Q
  obtain ⟨ht, hf⟩ := h
  refine go_icmpeq (tgt := 2110) (show decode code 875 = .ok (.if_icmp .eq 1235, 3) by decide +kernel) (by decide) (fun hc => ?_) (fun hc => ?_)
  · have h := ht hc
    exact R_law_2110 h
  · have h := hf hc
    refine go_iconst (show decode code 878 = .ok (.iconst 0, 1) by decide +kernel) (by decide) ?_
    exact go_zret (show decode code 879 = .ok (.ireturn, 1) by decide +kernel) rfl (by decide) h
set_option maxHeartbeats 4000000 in
set_option maxRecDepth 50000 in
def V_law_834 (d : Nat) (S : AS) (F : AF) (G : AG) (Q : AQ) (a1 : Nat) (a2 : Nat) (a3 : Int) : Prop :=
  (r32 (a3 + 1)) ∧
  ((0 : Int) ≤ a3 + 1) ∧
  ((a3 + 1 : Int) < (sL S : Int)) ∧
  (1 ≤ d) ∧
  (sK S a1 = 9) ∧
  Ok (d - 1) MX9_run [vR a1, vI (sx S (a3 + 1))] S F G (fun w5 S6 F7 G8 =>
  ∃ z10 : Int, w5 = some (vI z10) ∧
  (r32 (a3 + 1)) ∧
  ((0 : Int) ≤ a3 + 1) ∧
  ((a3 + 1 : Int) < (sL S6 : Int)) ∧
  (sK S6 a2 = 10) ∧
  Ok (d - 1) MX10_run [vR a2, vI (sx S6 (a3 + 1))] S6 F7 G8 (fun w14 S15 F16 G17 =>
  ∃ z19 : Int, w14 = some (vI z19) ∧
  ((z10 = z19) →
    V_law_2110 d S15 F16 G17 Q a1 a2 a3) ∧
  ((¬ z10 = z19) →
    Q (some (vI 0)) S15 F16 G17)))
set_option maxHeartbeats 4000000 in
set_option maxRecDepth 50000 in
theorem R_law_834 {d : Nat} {S : AS} {F : AF} {G : AG} {Q : AQ} {a1 : Nat} {a2 : Nat} {a3 : Int} (h : V_law_834 d S F G Q a1 a2 a3) : Go d Mlaw 834 [some (vR 999999), some (vR a1), some (vR a2), some (vI a3)] [] S F G Q := by
  unfold V_law_834 at h
  refine go_aload_n (show decode code 834 = .ok (.aload_n 1, 1) by decide +kernel) (by rfl) ?_
  refine go_aload_n (show decode code 835 = .ok (.aload_n 0, 1) by decide +kernel) (by rfl) ?_
  refine go_iload_n (show decode code 836 = .ok (.iload_n 3, 1) by decide +kernel) (by rfl) ?_
  refine go_iconst (show decode code 837 = .ok (.iconst 1, 1) by decide +kernel) (by decide) ?_
  obtain ⟨q1, h⟩ := h
  refine go_iadd (show decode code 838 = .ok (.iadd, 1) by decide +kernel) q1 ?_
  obtain ⟨q2, h⟩ := h
  obtain ⟨q3, h⟩ := h
  refine go_scrld (show decode code 839 = .ok (.iaload, 1) by decide +kernel) rfl q2 q3 ?_
  obtain ⟨q4, h⟩ := h
  obtain ⟨q9, h⟩ := h
  refine go_callV (d2 := d - 1) (M2 := MX9_run) (n := 1) (ci := 9) (av := [vI (sx S (a3 + 1))]) (st := []) (show decode code 840 = .ok (.invokevirtual 67, 3) by decide +kernel) ml_L_67 mt_X9_run min_X9_run mse_X9_run (by decide) q9 rfl (Nat.le_of_ble_eq_true rfl) (by omega) (ok_mono h (fun w5 S6 F7 G8 h => ?_))
  obtain ⟨z10, e9, h⟩ := h
  subst e9
  show Go d Mlaw 843 [some (vR 999999), some (vR a1), some (vR a2), some (vI a3)] [vI z10] S6 F7 G8 Q
  refine go_aload_n (show decode code 843 = .ok (.aload_n 2, 1) by decide +kernel) (by rfl) ?_
  refine go_aload_n (show decode code 844 = .ok (.aload_n 0, 1) by decide +kernel) (by rfl) ?_
  refine go_iload_n (show decode code 845 = .ok (.iload_n 3, 1) by decide +kernel) (by rfl) ?_
  refine go_iconst (show decode code 846 = .ok (.iconst 1, 1) by decide +kernel) (by decide) ?_
  obtain ⟨q11, h⟩ := h
  refine go_iadd (show decode code 847 = .ok (.iadd, 1) by decide +kernel) q11 ?_
  obtain ⟨q12, h⟩ := h
  obtain ⟨q13, h⟩ := h
  refine go_scrld (show decode code 848 = .ok (.iaload, 1) by decide +kernel) rfl q12 q13 ?_
  obtain ⟨q18, h⟩ := h
  refine go_callV (d2 := d - 1) (M2 := MX10_run) (n := 1) (ci := 10) (av := [vI (sx S6 (a3 + 1))]) (st := [vI z10]) (show decode code 849 = .ok (.invokevirtual 71, 3) by decide +kernel) ml_L_71 mt_X10_run min_X10_run mse_X10_run (by decide) q18 rfl (Nat.le_of_ble_eq_true rfl) (by omega) (ok_mono h (fun w14 S15 F16 G17 h => ?_))
  obtain ⟨z19, e9, h⟩ := h
  subst e9
  show Go d Mlaw 852 [some (vR 999999), some (vR a1), some (vR a2), some (vI a3)] [vI z19, vI z10] S15 F16 G17 Q
  obtain ⟨ht, hf⟩ := h
  refine go_icmpeq (tgt := 2110) (show decode code 852 = .ok (.if_icmp .eq 1258, 3) by decide +kernel) (by decide) (fun hc => ?_) (fun hc => ?_)
  · have h := ht hc
    exact R_law_2110 h
  · have h := hf hc
    refine go_iconst (show decode code 855 = .ok (.iconst 0, 1) by decide +kernel) (by decide) ?_
    exact go_zret (show decode code 856 = .ok (.ireturn, 1) by decide +kernel) rfl (by decide) h
set_option maxHeartbeats 4000000 in
set_option maxRecDepth 50000 in
def V_law_771 (d : Nat) (S : AS) (F : AF) (G : AG) (Q : AQ) (a1 : Nat) (a2 : Nat) (a3 : Int) : Prop :=
  (r32 (a3 + 1)) ∧
  ((0 : Int) ≤ a3 + 1) ∧
  ((a3 + 1 : Int) < (sL S : Int)) ∧
  (r32 (a3 + 2)) ∧
  ((0 : Int) ≤ a3 + 2) ∧
  ((a3 + 2 : Int) < (sL S : Int)) ∧
  (r32 (a3 + 3)) ∧
  ((0 : Int) ≤ a3 + 3) ∧
  ((a3 + 3 : Int) < (sL S : Int)) ∧
  (r32 (a3 + 4)) ∧
  ((0 : Int) ≤ a3 + 4) ∧
  ((a3 + 4 : Int) < (sL S : Int)) ∧
  (r32 (a3 + 5)) ∧
  ((0 : Int) ≤ a3 + 5) ∧
  ((a3 + 5 : Int) < (sL S : Int)) ∧
  (1 ≤ d) ∧
  (sK S a1 = 9) ∧
  Ok (d - 1) MX9_feed [vR a1, vI (sx S (a3 + 1)), vI (sx S (a3 + 2)), vI (sx S (a3 + 3)), vI (sx S (a3 + 4)), vI (sx S (a3 + 5))] S F G (fun w17 S18 F19 G20 =>
  ∃ z22 : Int, w17 = some (vI z22) ∧
  (r32 (a3 + 1)) ∧
  ((0 : Int) ≤ a3 + 1) ∧
  ((a3 + 1 : Int) < (sL S18 : Int)) ∧
  (r32 (a3 + 2)) ∧
  ((0 : Int) ≤ a3 + 2) ∧
  ((a3 + 2 : Int) < (sL S18 : Int)) ∧
  (r32 (a3 + 3)) ∧
  ((0 : Int) ≤ a3 + 3) ∧
  ((a3 + 3 : Int) < (sL S18 : Int)) ∧
  (r32 (a3 + 4)) ∧
  ((0 : Int) ≤ a3 + 4) ∧
  ((a3 + 4 : Int) < (sL S18 : Int)) ∧
  (r32 (a3 + 5)) ∧
  ((0 : Int) ≤ a3 + 5) ∧
  ((a3 + 5 : Int) < (sL S18 : Int)) ∧
  (sK S18 a2 = 10) ∧
  Ok (d - 1) MX10_feed [vR a2, vI (sx S18 (a3 + 1)), vI (sx S18 (a3 + 2)), vI (sx S18 (a3 + 3)), vI (sx S18 (a3 + 4)), vI (sx S18 (a3 + 5))] S18 F19 G20 (fun w38 S39 F40 G41 =>
  ∃ z43 : Int, w38 = some (vI z43) ∧
  ((z22 = z43) →
    V_law_2110 d S39 F40 G41 Q a1 a2 a3) ∧
  ((¬ z22 = z43) →
    Q (some (vI 0)) S39 F40 G41)))
set_option maxHeartbeats 4000000 in
set_option maxRecDepth 50000 in
theorem R_law_771 {d : Nat} {S : AS} {F : AF} {G : AG} {Q : AQ} {a1 : Nat} {a2 : Nat} {a3 : Int} (h : V_law_771 d S F G Q a1 a2 a3) : Go d Mlaw 771 [some (vR 999999), some (vR a1), some (vR a2), some (vI a3)] [] S F G Q := by
  unfold V_law_771 at h
  refine go_aload_n (show decode code 771 = .ok (.aload_n 1, 1) by decide +kernel) (by rfl) ?_
  refine go_aload_n (show decode code 772 = .ok (.aload_n 0, 1) by decide +kernel) (by rfl) ?_
  refine go_iload_n (show decode code 773 = .ok (.iload_n 3, 1) by decide +kernel) (by rfl) ?_
  refine go_iconst (show decode code 774 = .ok (.iconst 1, 1) by decide +kernel) (by decide) ?_
  obtain ⟨q1, h⟩ := h
  refine go_iadd (show decode code 775 = .ok (.iadd, 1) by decide +kernel) q1 ?_
  obtain ⟨q2, h⟩ := h
  obtain ⟨q3, h⟩ := h
  refine go_scrld (show decode code 776 = .ok (.iaload, 1) by decide +kernel) rfl q2 q3 ?_
  refine go_aload_n (show decode code 777 = .ok (.aload_n 0, 1) by decide +kernel) (by rfl) ?_
  refine go_iload_n (show decode code 778 = .ok (.iload_n 3, 1) by decide +kernel) (by rfl) ?_
  refine go_iconst (show decode code 779 = .ok (.iconst 2, 1) by decide +kernel) (by decide) ?_
  obtain ⟨q4, h⟩ := h
  refine go_iadd (show decode code 780 = .ok (.iadd, 1) by decide +kernel) q4 ?_
  obtain ⟨q5, h⟩ := h
  obtain ⟨q6, h⟩ := h
  refine go_scrld (show decode code 781 = .ok (.iaload, 1) by decide +kernel) rfl q5 q6 ?_
  refine go_aload_n (show decode code 782 = .ok (.aload_n 0, 1) by decide +kernel) (by rfl) ?_
  refine go_iload_n (show decode code 783 = .ok (.iload_n 3, 1) by decide +kernel) (by rfl) ?_
  refine go_iconst (show decode code 784 = .ok (.iconst 3, 1) by decide +kernel) (by decide) ?_
  obtain ⟨q7, h⟩ := h
  refine go_iadd (show decode code 785 = .ok (.iadd, 1) by decide +kernel) q7 ?_
  obtain ⟨q8, h⟩ := h
  obtain ⟨q9, h⟩ := h
  refine go_scrld (show decode code 786 = .ok (.iaload, 1) by decide +kernel) rfl q8 q9 ?_
  refine go_aload_n (show decode code 787 = .ok (.aload_n 0, 1) by decide +kernel) (by rfl) ?_
  refine go_iload_n (show decode code 788 = .ok (.iload_n 3, 1) by decide +kernel) (by rfl) ?_
  refine go_iconst (show decode code 789 = .ok (.iconst 4, 1) by decide +kernel) (by decide) ?_
  obtain ⟨q10, h⟩ := h
  refine go_iadd (show decode code 790 = .ok (.iadd, 1) by decide +kernel) q10 ?_
  obtain ⟨q11, h⟩ := h
  obtain ⟨q12, h⟩ := h
  refine go_scrld (show decode code 791 = .ok (.iaload, 1) by decide +kernel) rfl q11 q12 ?_
  refine go_aload_n (show decode code 792 = .ok (.aload_n 0, 1) by decide +kernel) (by rfl) ?_
  refine go_iload_n (show decode code 793 = .ok (.iload_n 3, 1) by decide +kernel) (by rfl) ?_
  refine go_iconst (show decode code 794 = .ok (.iconst 5, 1) by decide +kernel) (by decide) ?_
  obtain ⟨q13, h⟩ := h
  refine go_iadd (show decode code 795 = .ok (.iadd, 1) by decide +kernel) q13 ?_
  obtain ⟨q14, h⟩ := h
  obtain ⟨q15, h⟩ := h
  refine go_scrld (show decode code 796 = .ok (.iaload, 1) by decide +kernel) rfl q14 q15 ?_
  obtain ⟨q16, h⟩ := h
  obtain ⟨q21, h⟩ := h
  refine go_callV (d2 := d - 1) (M2 := MX9_feed) (n := 5) (ci := 9) (av := [vI (sx S (a3 + 1)), vI (sx S (a3 + 2)), vI (sx S (a3 + 3)), vI (sx S (a3 + 4)), vI (sx S (a3 + 5))]) (st := []) (show decode code 797 = .ok (.invokevirtual 62, 3) by decide +kernel) ml_L_62 mt_X9_feed min_X9_feed mse_X9_feed (by decide) q21 rfl (Nat.le_of_ble_eq_true rfl) (by omega) (ok_mono h (fun w17 S18 F19 G20 h => ?_))
  obtain ⟨z22, e9, h⟩ := h
  subst e9
  show Go d Mlaw 800 [some (vR 999999), some (vR a1), some (vR a2), some (vI a3)] [vI z22] S18 F19 G20 Q
  refine go_aload_n (show decode code 800 = .ok (.aload_n 2, 1) by decide +kernel) (by rfl) ?_
  refine go_aload_n (show decode code 801 = .ok (.aload_n 0, 1) by decide +kernel) (by rfl) ?_
  refine go_iload_n (show decode code 802 = .ok (.iload_n 3, 1) by decide +kernel) (by rfl) ?_
  refine go_iconst (show decode code 803 = .ok (.iconst 1, 1) by decide +kernel) (by decide) ?_
  obtain ⟨q23, h⟩ := h
  refine go_iadd (show decode code 804 = .ok (.iadd, 1) by decide +kernel) q23 ?_
  obtain ⟨q24, h⟩ := h
  obtain ⟨q25, h⟩ := h
  refine go_scrld (show decode code 805 = .ok (.iaload, 1) by decide +kernel) rfl q24 q25 ?_
  refine go_aload_n (show decode code 806 = .ok (.aload_n 0, 1) by decide +kernel) (by rfl) ?_
  refine go_iload_n (show decode code 807 = .ok (.iload_n 3, 1) by decide +kernel) (by rfl) ?_
  refine go_iconst (show decode code 808 = .ok (.iconst 2, 1) by decide +kernel) (by decide) ?_
  obtain ⟨q26, h⟩ := h
  refine go_iadd (show decode code 809 = .ok (.iadd, 1) by decide +kernel) q26 ?_
  obtain ⟨q27, h⟩ := h
  obtain ⟨q28, h⟩ := h
  refine go_scrld (show decode code 810 = .ok (.iaload, 1) by decide +kernel) rfl q27 q28 ?_
  refine go_aload_n (show decode code 811 = .ok (.aload_n 0, 1) by decide +kernel) (by rfl) ?_
  refine go_iload_n (show decode code 812 = .ok (.iload_n 3, 1) by decide +kernel) (by rfl) ?_
  refine go_iconst (show decode code 813 = .ok (.iconst 3, 1) by decide +kernel) (by decide) ?_
  obtain ⟨q29, h⟩ := h
  refine go_iadd (show decode code 814 = .ok (.iadd, 1) by decide +kernel) q29 ?_
  obtain ⟨q30, h⟩ := h
  obtain ⟨q31, h⟩ := h
  refine go_scrld (show decode code 815 = .ok (.iaload, 1) by decide +kernel) rfl q30 q31 ?_
  refine go_aload_n (show decode code 816 = .ok (.aload_n 0, 1) by decide +kernel) (by rfl) ?_
  refine go_iload_n (show decode code 817 = .ok (.iload_n 3, 1) by decide +kernel) (by rfl) ?_
  refine go_iconst (show decode code 818 = .ok (.iconst 4, 1) by decide +kernel) (by decide) ?_
  obtain ⟨q32, h⟩ := h
  refine go_iadd (show decode code 819 = .ok (.iadd, 1) by decide +kernel) q32 ?_
  obtain ⟨q33, h⟩ := h
  obtain ⟨q34, h⟩ := h
  refine go_scrld (show decode code 820 = .ok (.iaload, 1) by decide +kernel) rfl q33 q34 ?_
  refine go_aload_n (show decode code 821 = .ok (.aload_n 0, 1) by decide +kernel) (by rfl) ?_
  refine go_iload_n (show decode code 822 = .ok (.iload_n 3, 1) by decide +kernel) (by rfl) ?_
  refine go_iconst (show decode code 823 = .ok (.iconst 5, 1) by decide +kernel) (by decide) ?_
  obtain ⟨q35, h⟩ := h
  refine go_iadd (show decode code 824 = .ok (.iadd, 1) by decide +kernel) q35 ?_
  obtain ⟨q36, h⟩ := h
  obtain ⟨q37, h⟩ := h
  refine go_scrld (show decode code 825 = .ok (.iaload, 1) by decide +kernel) rfl q36 q37 ?_
  obtain ⟨q42, h⟩ := h
  refine go_callV (d2 := d - 1) (M2 := MX10_feed) (n := 5) (ci := 10) (av := [vI (sx S18 (a3 + 1)), vI (sx S18 (a3 + 2)), vI (sx S18 (a3 + 3)), vI (sx S18 (a3 + 4)), vI (sx S18 (a3 + 5))]) (st := [vI z22]) (show decode code 826 = .ok (.invokevirtual 66, 3) by decide +kernel) ml_L_66 mt_X10_feed min_X10_feed mse_X10_feed (by decide) q42 rfl (Nat.le_of_ble_eq_true rfl) (by omega) (ok_mono h (fun w38 S39 F40 G41 h => ?_))
  obtain ⟨z43, e9, h⟩ := h
  subst e9
  show Go d Mlaw 829 [some (vR 999999), some (vR a1), some (vR a2), some (vI a3)] [vI z43, vI z22] S39 F40 G41 Q
  obtain ⟨ht, hf⟩ := h
  refine go_icmpeq (tgt := 2110) (show decode code 829 = .ok (.if_icmp .eq 1281, 3) by decide +kernel) (by decide) (fun hc => ?_) (fun hc => ?_)
  · have h := ht hc
    exact R_law_2110 h
  · have h := hf hc
    refine go_iconst (show decode code 832 = .ok (.iconst 0, 1) by decide +kernel) (by decide) ?_
    exact go_zret (show decode code 833 = .ok (.ireturn, 1) by decide +kernel) rfl (by decide) h
set_option maxHeartbeats 4000000 in
set_option maxRecDepth 50000 in
def V_law_758 (d : Nat) (S : AS) (F : AF) (G : AG) (Q : AQ) (a1 : Nat) (a2 : Nat) (a3 : Int) : Prop :=
  (1 ≤ d) ∧
  (sK S a1 = 9) ∧
  Ok (d - 1) MX9_cancel [vR a1] S F G (fun w2 S3 F4 G5 =>
  ∃ z7 : Int, w2 = some (vI z7) ∧
  (sK S3 a2 = 10) ∧
  Ok (d - 1) MX10_cancel [vR a2] S3 F4 G5 (fun w8 S9 F10 G11 =>
  ∃ z13 : Int, w8 = some (vI z13) ∧
  ((z7 = z13) →
    V_law_2110 d S9 F10 G11 Q a1 a2 a3) ∧
  ((¬ z7 = z13) →
    Q (some (vI 0)) S9 F10 G11)))
set_option maxHeartbeats 4000000 in
set_option maxRecDepth 50000 in
theorem R_law_758 {d : Nat} {S : AS} {F : AF} {G : AG} {Q : AQ} {a1 : Nat} {a2 : Nat} {a3 : Int} (h : V_law_758 d S F G Q a1 a2 a3) : Go d Mlaw 758 [some (vR 999999), some (vR a1), some (vR a2), some (vI a3)] [] S F G Q := by
  unfold V_law_758 at h
  refine go_aload_n (show decode code 758 = .ok (.aload_n 1, 1) by decide +kernel) (by rfl) ?_
  obtain ⟨q1, h⟩ := h
  obtain ⟨q6, h⟩ := h
  refine go_callV (d2 := d - 1) (M2 := MX9_cancel) (n := 0) (ci := 9) (av := []) (st := []) (show decode code 759 = .ok (.invokevirtual 58, 3) by decide +kernel) ml_L_58 mt_X9_cancel min_X9_cancel mse_X9_cancel (by decide) q6 rfl (Nat.le_of_ble_eq_true rfl) (by omega) (ok_mono h (fun w2 S3 F4 G5 h => ?_))
  obtain ⟨z7, e9, h⟩ := h
  subst e9
  show Go d Mlaw 762 [some (vR 999999), some (vR a1), some (vR a2), some (vI a3)] [vI z7] S3 F4 G5 Q
  refine go_aload_n (show decode code 762 = .ok (.aload_n 2, 1) by decide +kernel) (by rfl) ?_
  obtain ⟨q12, h⟩ := h
  refine go_callV (d2 := d - 1) (M2 := MX10_cancel) (n := 0) (ci := 10) (av := []) (st := [vI z7]) (show decode code 763 = .ok (.invokevirtual 61, 3) by decide +kernel) ml_L_61 mt_X10_cancel min_X10_cancel mse_X10_cancel (by decide) q12 rfl (Nat.le_of_ble_eq_true rfl) (by omega) (ok_mono h (fun w8 S9 F10 G11 h => ?_))
  obtain ⟨z13, e9, h⟩ := h
  subst e9
  show Go d Mlaw 766 [some (vR 999999), some (vR a1), some (vR a2), some (vI a3)] [vI z13, vI z7] S9 F10 G11 Q
  obtain ⟨ht, hf⟩ := h
  refine go_icmpeq (tgt := 2110) (show decode code 766 = .ok (.if_icmp .eq 1344, 3) by decide +kernel) (by decide) (fun hc => ?_) (fun hc => ?_)
  · have h := ht hc
    exact R_law_2110 h
  · have h := hf hc
    refine go_iconst (show decode code 769 = .ok (.iconst 0, 1) by decide +kernel) (by decide) ?_
    exact go_zret (show decode code 770 = .ok (.ireturn, 1) by decide +kernel) rfl (by decide) h
set_option maxHeartbeats 4000000 in
set_option maxRecDepth 50000 in
def V_law_745 (d : Nat) (S : AS) (F : AF) (G : AG) (Q : AQ) (a1 : Nat) (a2 : Nat) (a3 : Int) : Prop :=
  (1 ≤ d) ∧
  (sK S a1 = 9) ∧
  Ok (d - 1) MX9_commit [vR a1] S F G (fun w2 S3 F4 G5 =>
  ∃ z7 : Int, w2 = some (vI z7) ∧
  (sK S3 a2 = 10) ∧
  Ok (d - 1) MX10_commit [vR a2] S3 F4 G5 (fun w8 S9 F10 G11 =>
  ∃ z13 : Int, w8 = some (vI z13) ∧
  ((z7 = z13) →
    V_law_2110 d S9 F10 G11 Q a1 a2 a3) ∧
  ((¬ z7 = z13) →
    Q (some (vI 0)) S9 F10 G11)))
set_option maxHeartbeats 4000000 in
set_option maxRecDepth 50000 in
theorem R_law_745 {d : Nat} {S : AS} {F : AF} {G : AG} {Q : AQ} {a1 : Nat} {a2 : Nat} {a3 : Int} (h : V_law_745 d S F G Q a1 a2 a3) : Go d Mlaw 745 [some (vR 999999), some (vR a1), some (vR a2), some (vI a3)] [] S F G Q := by
  unfold V_law_745 at h
  refine go_aload_n (show decode code 745 = .ok (.aload_n 1, 1) by decide +kernel) (by rfl) ?_
  obtain ⟨q1, h⟩ := h
  obtain ⟨q6, h⟩ := h
  refine go_callV (d2 := d - 1) (M2 := MX9_commit) (n := 0) (ci := 9) (av := []) (st := []) (show decode code 746 = .ok (.invokevirtual 54, 3) by decide +kernel) ml_L_54 mt_X9_commit min_X9_commit mse_X9_commit (by decide) q6 rfl (Nat.le_of_ble_eq_true rfl) (by omega) (ok_mono h (fun w2 S3 F4 G5 h => ?_))
  obtain ⟨z7, e9, h⟩ := h
  subst e9
  show Go d Mlaw 749 [some (vR 999999), some (vR a1), some (vR a2), some (vI a3)] [vI z7] S3 F4 G5 Q
  refine go_aload_n (show decode code 749 = .ok (.aload_n 2, 1) by decide +kernel) (by rfl) ?_
  obtain ⟨q12, h⟩ := h
  refine go_callV (d2 := d - 1) (M2 := MX10_commit) (n := 0) (ci := 10) (av := []) (st := [vI z7]) (show decode code 750 = .ok (.invokevirtual 57, 3) by decide +kernel) ml_L_57 mt_X10_commit min_X10_commit mse_X10_commit (by decide) q12 rfl (Nat.le_of_ble_eq_true rfl) (by omega) (ok_mono h (fun w8 S9 F10 G11 h => ?_))
  obtain ⟨z13, e9, h⟩ := h
  subst e9
  show Go d Mlaw 753 [some (vR 999999), some (vR a1), some (vR a2), some (vI a3)] [vI z13, vI z7] S9 F10 G11 Q
  obtain ⟨ht, hf⟩ := h
  refine go_icmpeq (tgt := 2110) (show decode code 753 = .ok (.if_icmp .eq 1357, 3) by decide +kernel) (by decide) (fun hc => ?_) (fun hc => ?_)
  · have h := ht hc
    exact R_law_2110 h
  · have h := hf hc
    refine go_iconst (show decode code 756 = .ok (.iconst 0, 1) by decide +kernel) (by decide) ?_
    exact go_zret (show decode code 757 = .ok (.ireturn, 1) by decide +kernel) rfl (by decide) h
set_option maxHeartbeats 4000000 in
set_option maxRecDepth 50000 in
def V_law_732 (d : Nat) (S : AS) (F : AF) (G : AG) (Q : AQ) (a1 : Nat) (a2 : Nat) (a3 : Int) : Prop :=
  (1 ≤ d) ∧
  (sK S a1 = 9) ∧
  Ok (d - 1) MX9_begin [vR a1] S F G (fun w2 S3 F4 G5 =>
  ∃ z7 : Int, w2 = some (vI z7) ∧
  (sK S3 a2 = 10) ∧
  Ok (d - 1) MX10_begin [vR a2] S3 F4 G5 (fun w8 S9 F10 G11 =>
  ∃ z13 : Int, w8 = some (vI z13) ∧
  ((z7 = z13) →
    V_law_2110 d S9 F10 G11 Q a1 a2 a3) ∧
  ((¬ z7 = z13) →
    Q (some (vI 0)) S9 F10 G11)))
set_option maxHeartbeats 4000000 in
set_option maxRecDepth 50000 in
theorem R_law_732 {d : Nat} {S : AS} {F : AF} {G : AG} {Q : AQ} {a1 : Nat} {a2 : Nat} {a3 : Int} (h : V_law_732 d S F G Q a1 a2 a3) : Go d Mlaw 732 [some (vR 999999), some (vR a1), some (vR a2), some (vI a3)] [] S F G Q := by
  unfold V_law_732 at h
  refine go_aload_n (show decode code 732 = .ok (.aload_n 1, 1) by decide +kernel) (by rfl) ?_
  obtain ⟨q1, h⟩ := h
  obtain ⟨q6, h⟩ := h
  refine go_callV (d2 := d - 1) (M2 := MX9_begin) (n := 0) (ci := 9) (av := []) (st := []) (show decode code 733 = .ok (.invokevirtual 49, 3) by decide +kernel) ml_L_49 mt_X9_begin min_X9_begin mse_X9_begin (by decide) q6 rfl (Nat.le_of_ble_eq_true rfl) (by omega) (ok_mono h (fun w2 S3 F4 G5 h => ?_))
  obtain ⟨z7, e9, h⟩ := h
  subst e9
  show Go d Mlaw 736 [some (vR 999999), some (vR a1), some (vR a2), some (vI a3)] [vI z7] S3 F4 G5 Q
  refine go_aload_n (show decode code 736 = .ok (.aload_n 2, 1) by decide +kernel) (by rfl) ?_
  obtain ⟨q12, h⟩ := h
  refine go_callV (d2 := d - 1) (M2 := MX10_begin) (n := 0) (ci := 10) (av := []) (st := [vI z7]) (show decode code 737 = .ok (.invokevirtual 53, 3) by decide +kernel) ml_L_53 mt_X10_begin min_X10_begin mse_X10_begin (by decide) q12 rfl (Nat.le_of_ble_eq_true rfl) (by omega) (ok_mono h (fun w8 S9 F10 G11 h => ?_))
  obtain ⟨z13, e9, h⟩ := h
  subst e9
  show Go d Mlaw 740 [some (vR 999999), some (vR a1), some (vR a2), some (vI a3)] [vI z13, vI z7] S9 F10 G11 Q
  obtain ⟨ht, hf⟩ := h
  refine go_icmpeq (tgt := 2110) (show decode code 740 = .ok (.if_icmp .eq 1370, 3) by decide +kernel) (by decide) (fun hc => ?_) (fun hc => ?_)
  · have h := ht hc
    exact R_law_2110 h
  · have h := hf hc
    refine go_iconst (show decode code 743 = .ok (.iconst 0, 1) by decide +kernel) (by decide) ?_
    exact go_zret (show decode code 744 = .ok (.ireturn, 1) by decide +kernel) rfl (by decide) h
set_option maxHeartbeats 4000000 in
set_option maxRecDepth 50000 in
def V_law_698 (d : Nat) (S : AS) (F : AF) (G : AG) (Q : AQ) (a1 : Nat) (a2 : Nat) (a3 : Int) : Prop :=
  (r32 (a3 + 1)) ∧
  ((0 : Int) ≤ a3 + 1) ∧
  ((a3 + 1 : Int) < (sL S : Int)) ∧
  (r32 (a3 + 2)) ∧
  ((0 : Int) ≤ a3 + 2) ∧
  ((a3 + 2 : Int) < (sL S : Int)) ∧
  (1 ≤ d) ∧
  (sK S a1 = 9) ∧
  Ok (d - 1) MX9_zoneAt [vR a1, vI (sx S (a3 + 1)), vI (sx S (a3 + 2))] S F G (fun w8 S9 F10 G11 =>
  ∃ z13 : Int, w8 = some (vJ z13) ∧
  (r32 (a3 + 1)) ∧
  ((0 : Int) ≤ a3 + 1) ∧
  ((a3 + 1 : Int) < (sL S9 : Int)) ∧
  (r32 (a3 + 2)) ∧
  ((0 : Int) ≤ a3 + 2) ∧
  ((a3 + 2 : Int) < (sL S9 : Int)) ∧
  (sK S9 a2 = 10) ∧
  Ok (d - 1) MX10_zoneAt [vR a2, vI (sx S9 (a3 + 1)), vI (sx S9 (a3 + 2))] S9 F10 G11 (fun w20 S21 F22 G23 =>
  ∃ z25 : Int, w20 = some (vJ z25) ∧
  ((z13 = z25) →
    V_law_2110 d S21 F22 G23 Q a1 a2 a3) ∧
  ((¬ z13 = z25) →
    Q (some (vI 0)) S21 F22 G23)))
set_option maxHeartbeats 4000000 in
set_option maxRecDepth 50000 in
theorem R_law_698 {d : Nat} {S : AS} {F : AF} {G : AG} {Q : AQ} {a1 : Nat} {a2 : Nat} {a3 : Int} (h : V_law_698 d S F G Q a1 a2 a3) : Go d Mlaw 698 [some (vR 999999), some (vR a1), some (vR a2), some (vI a3)] [] S F G Q := by
  unfold V_law_698 at h
  refine go_aload_n (show decode code 698 = .ok (.aload_n 1, 1) by decide +kernel) (by rfl) ?_
  refine go_aload_n (show decode code 699 = .ok (.aload_n 0, 1) by decide +kernel) (by rfl) ?_
  refine go_iload_n (show decode code 700 = .ok (.iload_n 3, 1) by decide +kernel) (by rfl) ?_
  refine go_iconst (show decode code 701 = .ok (.iconst 1, 1) by decide +kernel) (by decide) ?_
  obtain ⟨q1, h⟩ := h
  refine go_iadd (show decode code 702 = .ok (.iadd, 1) by decide +kernel) q1 ?_
  obtain ⟨q2, h⟩ := h
  obtain ⟨q3, h⟩ := h
  refine go_scrld (show decode code 703 = .ok (.iaload, 1) by decide +kernel) rfl q2 q3 ?_
  refine go_aload_n (show decode code 704 = .ok (.aload_n 0, 1) by decide +kernel) (by rfl) ?_
  refine go_iload_n (show decode code 705 = .ok (.iload_n 3, 1) by decide +kernel) (by rfl) ?_
  refine go_iconst (show decode code 706 = .ok (.iconst 2, 1) by decide +kernel) (by decide) ?_
  obtain ⟨q4, h⟩ := h
  refine go_iadd (show decode code 707 = .ok (.iadd, 1) by decide +kernel) q4 ?_
  obtain ⟨q5, h⟩ := h
  obtain ⟨q6, h⟩ := h
  refine go_scrld (show decode code 708 = .ok (.iaload, 1) by decide +kernel) rfl q5 q6 ?_
  obtain ⟨q7, h⟩ := h
  obtain ⟨q12, h⟩ := h
  refine go_callV (d2 := d - 1) (M2 := MX9_zoneAt) (n := 2) (ci := 9) (av := [vI (sx S (a3 + 1)), vI (sx S (a3 + 2))]) (st := []) (show decode code 709 = .ok (.invokevirtual 44, 3) by decide +kernel) ml_L_44 mt_X9_zoneAt min_X9_zoneAt mse_X9_zoneAt (by decide) q12 rfl (Nat.le_of_ble_eq_true rfl) (by omega) (ok_mono h (fun w8 S9 F10 G11 h => ?_))
  obtain ⟨z13, e9, h⟩ := h
  subst e9
  show Go d Mlaw 712 [some (vR 999999), some (vR a1), some (vR a2), some (vI a3)] [vJ z13] S9 F10 G11 Q
  refine go_aload_n (show decode code 712 = .ok (.aload_n 2, 1) by decide +kernel) (by rfl) ?_
  refine go_aload_n (show decode code 713 = .ok (.aload_n 0, 1) by decide +kernel) (by rfl) ?_
  refine go_iload_n (show decode code 714 = .ok (.iload_n 3, 1) by decide +kernel) (by rfl) ?_
  refine go_iconst (show decode code 715 = .ok (.iconst 1, 1) by decide +kernel) (by decide) ?_
  obtain ⟨q14, h⟩ := h
  refine go_iadd (show decode code 716 = .ok (.iadd, 1) by decide +kernel) q14 ?_
  obtain ⟨q15, h⟩ := h
  obtain ⟨q16, h⟩ := h
  refine go_scrld (show decode code 717 = .ok (.iaload, 1) by decide +kernel) rfl q15 q16 ?_
  refine go_aload_n (show decode code 718 = .ok (.aload_n 0, 1) by decide +kernel) (by rfl) ?_
  refine go_iload_n (show decode code 719 = .ok (.iload_n 3, 1) by decide +kernel) (by rfl) ?_
  refine go_iconst (show decode code 720 = .ok (.iconst 2, 1) by decide +kernel) (by decide) ?_
  obtain ⟨q17, h⟩ := h
  refine go_iadd (show decode code 721 = .ok (.iadd, 1) by decide +kernel) q17 ?_
  obtain ⟨q18, h⟩ := h
  obtain ⟨q19, h⟩ := h
  refine go_scrld (show decode code 722 = .ok (.iaload, 1) by decide +kernel) rfl q18 q19 ?_
  obtain ⟨q24, h⟩ := h
  refine go_callV (d2 := d - 1) (M2 := MX10_zoneAt) (n := 2) (ci := 10) (av := [vI (sx S9 (a3 + 1)), vI (sx S9 (a3 + 2))]) (st := [vJ z13]) (show decode code 723 = .ok (.invokevirtual 48, 3) by decide +kernel) ml_L_48 mt_X10_zoneAt min_X10_zoneAt mse_X10_zoneAt (by decide) q24 rfl (Nat.le_of_ble_eq_true rfl) (by omega) (ok_mono h (fun w20 S21 F22 G23 h => ?_))
  obtain ⟨z25, e9, h⟩ := h
  subst e9
  show Go d Mlaw 726 [some (vR 999999), some (vR a1), some (vR a2), some (vI a3)] [vJ z25, vJ z13] S21 F22 G23 Q
  obtain ⟨ht, hf⟩ := h
  refine go_jeq (tgt := 2110) (show decode code 726 = .ok (.lcmp, 1) by decide +kernel) (show decode code 727 = .ok (.ifCond .eq 1383, 3) by decide +kernel) (by decide) (fun hc => ?_) (fun hc => ?_)
  · have h := ht hc
    exact R_law_2110 h
  · have h := hf hc
    refine go_iconst (show decode code 730 = .ok (.iconst 0, 1) by decide +kernel) (by decide) ?_
    exact go_zret (show decode code 731 = .ok (.ireturn, 1) by decide +kernel) rfl (by decide) h
set_option maxHeartbeats 4000000 in
set_option maxRecDepth 50000 in
def V_law_590 (d : Nat) (S : AS) (F : AF) (G : AG) (Q : AQ) (a1 : Nat) (a2 : Nat) (a3 : Int) : Prop :=
  (r32 (a3 + 1)) ∧
  ((0 : Int) ≤ a3 + 1) ∧
  ((a3 + 1 : Int) < (sL S : Int)) ∧
  (r32 (a3 + 2)) ∧
  ((0 : Int) ≤ a3 + 2) ∧
  ((a3 + 2 : Int) < (sL S : Int)) ∧
  (r32 (a3 + 3)) ∧
  ((0 : Int) ≤ a3 + 3) ∧
  ((a3 + 3 : Int) < (sL S : Int)) ∧
  (r32 (a3 + 4)) ∧
  ((0 : Int) ≤ a3 + 4) ∧
  ((a3 + 4 : Int) < (sL S : Int)) ∧
  (r32 (a3 + 5)) ∧
  ((0 : Int) ≤ a3 + 5) ∧
  ((a3 + 5 : Int) < (sL S : Int)) ∧
  (r32 (a3 + 6)) ∧
  ((0 : Int) ≤ a3 + 6) ∧
  ((a3 + 6 : Int) < (sL S : Int)) ∧
  (r32 (a3 + 7)) ∧
  ((0 : Int) ≤ a3 + 7) ∧
  ((a3 + 7 : Int) < (sL S : Int)) ∧
  (1 ≤ d) ∧
  (sK S a1 = 9) ∧
  Ok (d - 1) MX9_zone [vR a1, vI (sx S (a3 + 1)), vI (sx S (a3 + 2)), vI (sx S (a3 + 3)), vI (sx S (a3 + 4)), vI (sx S (a3 + 5)), vJ (jOr (jShl (sx S (a3 + 6)) 32) (jAnd (sx S (a3 + 7)) 4294967295))] S F G (fun w23 S24 F25 G26 =>
  ∃ z28 : Int, w23 = some (vJ z28) ∧
  (r32 (a3 + 1)) ∧
  ((0 : Int) ≤ a3 + 1) ∧
  ((a3 + 1 : Int) < (sL S24 : Int)) ∧
  (r32 (a3 + 2)) ∧
  ((0 : Int) ≤ a3 + 2) ∧
  ((a3 + 2 : Int) < (sL S24 : Int)) ∧
  (r32 (a3 + 3)) ∧
  ((0 : Int) ≤ a3 + 3) ∧
  ((a3 + 3 : Int) < (sL S24 : Int)) ∧
  (r32 (a3 + 4)) ∧
  ((0 : Int) ≤ a3 + 4) ∧
  ((a3 + 4 : Int) < (sL S24 : Int)) ∧
  (r32 (a3 + 5)) ∧
  ((0 : Int) ≤ a3 + 5) ∧
  ((a3 + 5 : Int) < (sL S24 : Int)) ∧
  (r32 (a3 + 6)) ∧
  ((0 : Int) ≤ a3 + 6) ∧
  ((a3 + 6 : Int) < (sL S24 : Int)) ∧
  (r32 (a3 + 7)) ∧
  ((0 : Int) ≤ a3 + 7) ∧
  ((a3 + 7 : Int) < (sL S24 : Int)) ∧
  (sK S24 a2 = 10) ∧
  Ok (d - 1) MX10_zone [vR a2, vI (sx S24 (a3 + 1)), vI (sx S24 (a3 + 2)), vI (sx S24 (a3 + 3)), vI (sx S24 (a3 + 4)), vI (sx S24 (a3 + 5)), vJ (jOr (jShl (sx S24 (a3 + 6)) 32) (jAnd (sx S24 (a3 + 7)) 4294967295))] S24 F25 G26 (fun w50 S51 F52 G53 =>
  ∃ z55 : Int, w50 = some (vJ z55) ∧
  ((z28 = z55) →
    V_law_2110 d S51 F52 G53 Q a1 a2 a3) ∧
  ((¬ z28 = z55) →
    Q (some (vI 0)) S51 F52 G53)))
set_option maxHeartbeats 4000000 in
set_option maxRecDepth 50000 in
theorem R_law_590 {d : Nat} {S : AS} {F : AF} {G : AG} {Q : AQ} {a1 : Nat} {a2 : Nat} {a3 : Int} (h : V_law_590 d S F G Q a1 a2 a3) : Go d Mlaw 590 [some (vR 999999), some (vR a1), some (vR a2), some (vI a3)] [] S F G Q := by
  unfold V_law_590 at h
  refine go_aload_n (show decode code 590 = .ok (.aload_n 1, 1) by decide +kernel) (by rfl) ?_
  refine go_aload_n (show decode code 591 = .ok (.aload_n 0, 1) by decide +kernel) (by rfl) ?_
  refine go_iload_n (show decode code 592 = .ok (.iload_n 3, 1) by decide +kernel) (by rfl) ?_
  refine go_iconst (show decode code 593 = .ok (.iconst 1, 1) by decide +kernel) (by decide) ?_
  obtain ⟨q1, h⟩ := h
  refine go_iadd (show decode code 594 = .ok (.iadd, 1) by decide +kernel) q1 ?_
  obtain ⟨q2, h⟩ := h
  obtain ⟨q3, h⟩ := h
  refine go_scrld (show decode code 595 = .ok (.iaload, 1) by decide +kernel) rfl q2 q3 ?_
  refine go_aload_n (show decode code 596 = .ok (.aload_n 0, 1) by decide +kernel) (by rfl) ?_
  refine go_iload_n (show decode code 597 = .ok (.iload_n 3, 1) by decide +kernel) (by rfl) ?_
  refine go_iconst (show decode code 598 = .ok (.iconst 2, 1) by decide +kernel) (by decide) ?_
  obtain ⟨q4, h⟩ := h
  refine go_iadd (show decode code 599 = .ok (.iadd, 1) by decide +kernel) q4 ?_
  obtain ⟨q5, h⟩ := h
  obtain ⟨q6, h⟩ := h
  refine go_scrld (show decode code 600 = .ok (.iaload, 1) by decide +kernel) rfl q5 q6 ?_
  refine go_aload_n (show decode code 601 = .ok (.aload_n 0, 1) by decide +kernel) (by rfl) ?_
  refine go_iload_n (show decode code 602 = .ok (.iload_n 3, 1) by decide +kernel) (by rfl) ?_
  refine go_iconst (show decode code 603 = .ok (.iconst 3, 1) by decide +kernel) (by decide) ?_
  obtain ⟨q7, h⟩ := h
  refine go_iadd (show decode code 604 = .ok (.iadd, 1) by decide +kernel) q7 ?_
  obtain ⟨q8, h⟩ := h
  obtain ⟨q9, h⟩ := h
  refine go_scrld (show decode code 605 = .ok (.iaload, 1) by decide +kernel) rfl q8 q9 ?_
  refine go_aload_n (show decode code 606 = .ok (.aload_n 0, 1) by decide +kernel) (by rfl) ?_
  refine go_iload_n (show decode code 607 = .ok (.iload_n 3, 1) by decide +kernel) (by rfl) ?_
  refine go_iconst (show decode code 608 = .ok (.iconst 4, 1) by decide +kernel) (by decide) ?_
  obtain ⟨q10, h⟩ := h
  refine go_iadd (show decode code 609 = .ok (.iadd, 1) by decide +kernel) q10 ?_
  obtain ⟨q11, h⟩ := h
  obtain ⟨q12, h⟩ := h
  refine go_scrld (show decode code 610 = .ok (.iaload, 1) by decide +kernel) rfl q11 q12 ?_
  refine go_aload_n (show decode code 611 = .ok (.aload_n 0, 1) by decide +kernel) (by rfl) ?_
  refine go_iload_n (show decode code 612 = .ok (.iload_n 3, 1) by decide +kernel) (by rfl) ?_
  refine go_iconst (show decode code 613 = .ok (.iconst 5, 1) by decide +kernel) (by decide) ?_
  obtain ⟨q13, h⟩ := h
  refine go_iadd (show decode code 614 = .ok (.iadd, 1) by decide +kernel) q13 ?_
  obtain ⟨q14, h⟩ := h
  obtain ⟨q15, h⟩ := h
  refine go_scrld (show decode code 615 = .ok (.iaload, 1) by decide +kernel) rfl q14 q15 ?_
  refine go_aload_n (show decode code 616 = .ok (.aload_n 0, 1) by decide +kernel) (by rfl) ?_
  refine go_iload_n (show decode code 617 = .ok (.iload_n 3, 1) by decide +kernel) (by rfl) ?_
  refine go_bipush (show decode code 618 = .ok (.bipush 6, 2) by decide +kernel) (by decide) ?_
  obtain ⟨q16, h⟩ := h
  refine go_iadd (show decode code 620 = .ok (.iadd, 1) by decide +kernel) q16 ?_
  obtain ⟨q17, h⟩ := h
  obtain ⟨q18, h⟩ := h
  refine go_scrld (show decode code 621 = .ok (.iaload, 1) by decide +kernel) rfl q17 q18 ?_
  refine go_i2l (show decode code 622 = .ok (.i2l, 1) by decide +kernel) ?_
  refine go_bipush (show decode code 623 = .ok (.bipush 32, 2) by decide +kernel) (by decide) ?_
  refine go_lshl (show decode code 625 = .ok (.lshl, 1) by decide +kernel) ?_
  refine go_aload_n (show decode code 626 = .ok (.aload_n 0, 1) by decide +kernel) (by rfl) ?_
  refine go_iload_n (show decode code 627 = .ok (.iload_n 3, 1) by decide +kernel) (by rfl) ?_
  refine go_bipush (show decode code 628 = .ok (.bipush 7, 2) by decide +kernel) (by decide) ?_
  obtain ⟨q19, h⟩ := h
  refine go_iadd (show decode code 630 = .ok (.iadd, 1) by decide +kernel) q19 ?_
  obtain ⟨q20, h⟩ := h
  obtain ⟨q21, h⟩ := h
  refine go_scrld (show decode code 631 = .ok (.iaload, 1) by decide +kernel) rfl q20 q21 ?_
  refine go_i2l (show decode code 632 = .ok (.i2l, 1) by decide +kernel) ?_
  refine go_ldc2 (show decode code 633 = .ok (.ldc2_w 13, 3) by decide +kernel) lc_L_13 (by decide) ?_
  refine go_land (show decode code 636 = .ok (.land, 1) by decide +kernel) ?_
  refine go_lor (show decode code 637 = .ok (.lor, 1) by decide +kernel) ?_
  obtain ⟨q22, h⟩ := h
  obtain ⟨q27, h⟩ := h
  refine go_callV (d2 := d - 1) (M2 := MX9_zone) (n := 6) (ci := 9) (av := [vI (sx S (a3 + 1)), vI (sx S (a3 + 2)), vI (sx S (a3 + 3)), vI (sx S (a3 + 4)), vI (sx S (a3 + 5)), vJ (jOr (jShl (sx S (a3 + 6)) 32) (jAnd (sx S (a3 + 7)) 4294967295))]) (st := []) (show decode code 638 = .ok (.invokevirtual 40, 3) by decide +kernel) ml_L_40 mt_X9_zone min_X9_zone mse_X9_zone (by decide) q27 rfl (Nat.le_of_ble_eq_true rfl) (by omega) (ok_mono h (fun w23 S24 F25 G26 h => ?_))
  obtain ⟨z28, e9, h⟩ := h
  subst e9
  show Go d Mlaw 641 [some (vR 999999), some (vR a1), some (vR a2), some (vI a3)] [vJ z28] S24 F25 G26 Q
  refine go_aload_n (show decode code 641 = .ok (.aload_n 2, 1) by decide +kernel) (by rfl) ?_
  refine go_aload_n (show decode code 642 = .ok (.aload_n 0, 1) by decide +kernel) (by rfl) ?_
  refine go_iload_n (show decode code 643 = .ok (.iload_n 3, 1) by decide +kernel) (by rfl) ?_
  refine go_iconst (show decode code 644 = .ok (.iconst 1, 1) by decide +kernel) (by decide) ?_
  obtain ⟨q29, h⟩ := h
  refine go_iadd (show decode code 645 = .ok (.iadd, 1) by decide +kernel) q29 ?_
  obtain ⟨q30, h⟩ := h
  obtain ⟨q31, h⟩ := h
  refine go_scrld (show decode code 646 = .ok (.iaload, 1) by decide +kernel) rfl q30 q31 ?_
  refine go_aload_n (show decode code 647 = .ok (.aload_n 0, 1) by decide +kernel) (by rfl) ?_
  refine go_iload_n (show decode code 648 = .ok (.iload_n 3, 1) by decide +kernel) (by rfl) ?_
  refine go_iconst (show decode code 649 = .ok (.iconst 2, 1) by decide +kernel) (by decide) ?_
  obtain ⟨q32, h⟩ := h
  refine go_iadd (show decode code 650 = .ok (.iadd, 1) by decide +kernel) q32 ?_
  obtain ⟨q33, h⟩ := h
  obtain ⟨q34, h⟩ := h
  refine go_scrld (show decode code 651 = .ok (.iaload, 1) by decide +kernel) rfl q33 q34 ?_
  refine go_aload_n (show decode code 652 = .ok (.aload_n 0, 1) by decide +kernel) (by rfl) ?_
  refine go_iload_n (show decode code 653 = .ok (.iload_n 3, 1) by decide +kernel) (by rfl) ?_
  refine go_iconst (show decode code 654 = .ok (.iconst 3, 1) by decide +kernel) (by decide) ?_
  obtain ⟨q35, h⟩ := h
  refine go_iadd (show decode code 655 = .ok (.iadd, 1) by decide +kernel) q35 ?_
  obtain ⟨q36, h⟩ := h
  obtain ⟨q37, h⟩ := h
  refine go_scrld (show decode code 656 = .ok (.iaload, 1) by decide +kernel) rfl q36 q37 ?_
  refine go_aload_n (show decode code 657 = .ok (.aload_n 0, 1) by decide +kernel) (by rfl) ?_
  refine go_iload_n (show decode code 658 = .ok (.iload_n 3, 1) by decide +kernel) (by rfl) ?_
  refine go_iconst (show decode code 659 = .ok (.iconst 4, 1) by decide +kernel) (by decide) ?_
  obtain ⟨q38, h⟩ := h
  refine go_iadd (show decode code 660 = .ok (.iadd, 1) by decide +kernel) q38 ?_
  obtain ⟨q39, h⟩ := h
  obtain ⟨q40, h⟩ := h
  refine go_scrld (show decode code 661 = .ok (.iaload, 1) by decide +kernel) rfl q39 q40 ?_
  refine go_aload_n (show decode code 662 = .ok (.aload_n 0, 1) by decide +kernel) (by rfl) ?_
  refine go_iload_n (show decode code 663 = .ok (.iload_n 3, 1) by decide +kernel) (by rfl) ?_
  refine go_iconst (show decode code 664 = .ok (.iconst 5, 1) by decide +kernel) (by decide) ?_
  obtain ⟨q41, h⟩ := h
  refine go_iadd (show decode code 665 = .ok (.iadd, 1) by decide +kernel) q41 ?_
  obtain ⟨q42, h⟩ := h
  obtain ⟨q43, h⟩ := h
  refine go_scrld (show decode code 666 = .ok (.iaload, 1) by decide +kernel) rfl q42 q43 ?_
  refine go_aload_n (show decode code 667 = .ok (.aload_n 0, 1) by decide +kernel) (by rfl) ?_
  refine go_iload_n (show decode code 668 = .ok (.iload_n 3, 1) by decide +kernel) (by rfl) ?_
  refine go_bipush (show decode code 669 = .ok (.bipush 6, 2) by decide +kernel) (by decide) ?_
  obtain ⟨q44, h⟩ := h
  refine go_iadd (show decode code 671 = .ok (.iadd, 1) by decide +kernel) q44 ?_
  obtain ⟨q45, h⟩ := h
  obtain ⟨q46, h⟩ := h
  refine go_scrld (show decode code 672 = .ok (.iaload, 1) by decide +kernel) rfl q45 q46 ?_
  refine go_i2l (show decode code 673 = .ok (.i2l, 1) by decide +kernel) ?_
  refine go_bipush (show decode code 674 = .ok (.bipush 32, 2) by decide +kernel) (by decide) ?_
  refine go_lshl (show decode code 676 = .ok (.lshl, 1) by decide +kernel) ?_
  refine go_aload_n (show decode code 677 = .ok (.aload_n 0, 1) by decide +kernel) (by rfl) ?_
  refine go_iload_n (show decode code 678 = .ok (.iload_n 3, 1) by decide +kernel) (by rfl) ?_
  refine go_bipush (show decode code 679 = .ok (.bipush 7, 2) by decide +kernel) (by decide) ?_
  obtain ⟨q47, h⟩ := h
  refine go_iadd (show decode code 681 = .ok (.iadd, 1) by decide +kernel) q47 ?_
  obtain ⟨q48, h⟩ := h
  obtain ⟨q49, h⟩ := h
  refine go_scrld (show decode code 682 = .ok (.iaload, 1) by decide +kernel) rfl q48 q49 ?_
  refine go_i2l (show decode code 683 = .ok (.i2l, 1) by decide +kernel) ?_
  refine go_ldc2 (show decode code 684 = .ok (.ldc2_w 13, 3) by decide +kernel) lc_L_13 (by decide) ?_
  refine go_land (show decode code 687 = .ok (.land, 1) by decide +kernel) ?_
  refine go_lor (show decode code 688 = .ok (.lor, 1) by decide +kernel) ?_
  obtain ⟨q54, h⟩ := h
  refine go_callV (d2 := d - 1) (M2 := MX10_zone) (n := 6) (ci := 10) (av := [vI (sx S24 (a3 + 1)), vI (sx S24 (a3 + 2)), vI (sx S24 (a3 + 3)), vI (sx S24 (a3 + 4)), vI (sx S24 (a3 + 5)), vJ (jOr (jShl (sx S24 (a3 + 6)) 32) (jAnd (sx S24 (a3 + 7)) 4294967295))]) (st := [vJ z28]) (show decode code 689 = .ok (.invokevirtual 43, 3) by decide +kernel) ml_L_43 mt_X10_zone min_X10_zone mse_X10_zone (by decide) q54 rfl (Nat.le_of_ble_eq_true rfl) (by omega) (ok_mono h (fun w50 S51 F52 G53 h => ?_))
  obtain ⟨z55, e9, h⟩ := h
  subst e9
  show Go d Mlaw 692 [some (vR 999999), some (vR a1), some (vR a2), some (vI a3)] [vJ z55, vJ z28] S51 F52 G53 Q
  obtain ⟨ht, hf⟩ := h
  refine go_jeq (tgt := 2110) (show decode code 692 = .ok (.lcmp, 1) by decide +kernel) (show decode code 693 = .ok (.ifCond .eq 1417, 3) by decide +kernel) (by decide) (fun hc => ?_) (fun hc => ?_)
  · have h := ht hc
    exact R_law_2110 h
  · have h := hf hc
    refine go_iconst (show decode code 696 = .ok (.iconst 0, 1) by decide +kernel) (by decide) ?_
    exact go_zret (show decode code 697 = .ok (.ireturn, 1) by decide +kernel) rfl (by decide) h
set_option maxHeartbeats 4000000 in
set_option maxRecDepth 50000 in
def V_law_526 (d : Nat) (S : AS) (F : AF) (G : AG) (Q : AQ) (a1 : Nat) (a2 : Nat) (a3 : Int) : Prop :=
  (r32 (a3 + 1)) ∧
  ((0 : Int) ≤ a3 + 1) ∧
  ((a3 + 1 : Int) < (sL S : Int)) ∧
  (r32 (a3 + 2)) ∧
  ((0 : Int) ≤ a3 + 2) ∧
  ((a3 + 2 : Int) < (sL S : Int)) ∧
  (r32 (a3 + 3)) ∧
  ((0 : Int) ≤ a3 + 3) ∧
  ((a3 + 3 : Int) < (sL S : Int)) ∧
  (r32 (a3 + 4)) ∧
  ((0 : Int) ≤ a3 + 4) ∧
  ((a3 + 4 : Int) < (sL S : Int)) ∧
  (r32 (a3 + 5)) ∧
  ((0 : Int) ≤ a3 + 5) ∧
  ((a3 + 5 : Int) < (sL S : Int)) ∧
  (1 ≤ d) ∧
  (sK S a1 = 9) ∧
  Ok (d - 1) MX9_level [vR a1, vI (sx S (a3 + 1)), vI (sx S (a3 + 2)), vI (sx S (a3 + 3)), vI (sx S (a3 + 4)), vI (sx S (a3 + 5))] S F G (fun w17 S18 F19 G20 =>
  ∃ z22 : Int, w17 = some (vJ z22) ∧
  (r32 (a3 + 1)) ∧
  ((0 : Int) ≤ a3 + 1) ∧
  ((a3 + 1 : Int) < (sL S18 : Int)) ∧
  (r32 (a3 + 2)) ∧
  ((0 : Int) ≤ a3 + 2) ∧
  ((a3 + 2 : Int) < (sL S18 : Int)) ∧
  (r32 (a3 + 3)) ∧
  ((0 : Int) ≤ a3 + 3) ∧
  ((a3 + 3 : Int) < (sL S18 : Int)) ∧
  (r32 (a3 + 4)) ∧
  ((0 : Int) ≤ a3 + 4) ∧
  ((a3 + 4 : Int) < (sL S18 : Int)) ∧
  (r32 (a3 + 5)) ∧
  ((0 : Int) ≤ a3 + 5) ∧
  ((a3 + 5 : Int) < (sL S18 : Int)) ∧
  (sK S18 a2 = 10) ∧
  Ok (d - 1) MX10_level [vR a2, vI (sx S18 (a3 + 1)), vI (sx S18 (a3 + 2)), vI (sx S18 (a3 + 3)), vI (sx S18 (a3 + 4)), vI (sx S18 (a3 + 5))] S18 F19 G20 (fun w38 S39 F40 G41 =>
  ∃ z43 : Int, w38 = some (vJ z43) ∧
  ((z22 = z43) →
    V_law_2110 d S39 F40 G41 Q a1 a2 a3) ∧
  ((¬ z22 = z43) →
    Q (some (vI 0)) S39 F40 G41)))
set_option maxHeartbeats 4000000 in
set_option maxRecDepth 50000 in
theorem R_law_526 {d : Nat} {S : AS} {F : AF} {G : AG} {Q : AQ} {a1 : Nat} {a2 : Nat} {a3 : Int} (h : V_law_526 d S F G Q a1 a2 a3) : Go d Mlaw 526 [some (vR 999999), some (vR a1), some (vR a2), some (vI a3)] [] S F G Q := by
  unfold V_law_526 at h
  refine go_aload_n (show decode code 526 = .ok (.aload_n 1, 1) by decide +kernel) (by rfl) ?_
  refine go_aload_n (show decode code 527 = .ok (.aload_n 0, 1) by decide +kernel) (by rfl) ?_
  refine go_iload_n (show decode code 528 = .ok (.iload_n 3, 1) by decide +kernel) (by rfl) ?_
  refine go_iconst (show decode code 529 = .ok (.iconst 1, 1) by decide +kernel) (by decide) ?_
  obtain ⟨q1, h⟩ := h
  refine go_iadd (show decode code 530 = .ok (.iadd, 1) by decide +kernel) q1 ?_
  obtain ⟨q2, h⟩ := h
  obtain ⟨q3, h⟩ := h
  refine go_scrld (show decode code 531 = .ok (.iaload, 1) by decide +kernel) rfl q2 q3 ?_
  refine go_aload_n (show decode code 532 = .ok (.aload_n 0, 1) by decide +kernel) (by rfl) ?_
  refine go_iload_n (show decode code 533 = .ok (.iload_n 3, 1) by decide +kernel) (by rfl) ?_
  refine go_iconst (show decode code 534 = .ok (.iconst 2, 1) by decide +kernel) (by decide) ?_
  obtain ⟨q4, h⟩ := h
  refine go_iadd (show decode code 535 = .ok (.iadd, 1) by decide +kernel) q4 ?_
  obtain ⟨q5, h⟩ := h
  obtain ⟨q6, h⟩ := h
  refine go_scrld (show decode code 536 = .ok (.iaload, 1) by decide +kernel) rfl q5 q6 ?_
  refine go_aload_n (show decode code 537 = .ok (.aload_n 0, 1) by decide +kernel) (by rfl) ?_
  refine go_iload_n (show decode code 538 = .ok (.iload_n 3, 1) by decide +kernel) (by rfl) ?_
  refine go_iconst (show decode code 539 = .ok (.iconst 3, 1) by decide +kernel) (by decide) ?_
  obtain ⟨q7, h⟩ := h
  refine go_iadd (show decode code 540 = .ok (.iadd, 1) by decide +kernel) q7 ?_
  obtain ⟨q8, h⟩ := h
  obtain ⟨q9, h⟩ := h
  refine go_scrld (show decode code 541 = .ok (.iaload, 1) by decide +kernel) rfl q8 q9 ?_
  refine go_aload_n (show decode code 542 = .ok (.aload_n 0, 1) by decide +kernel) (by rfl) ?_
  refine go_iload_n (show decode code 543 = .ok (.iload_n 3, 1) by decide +kernel) (by rfl) ?_
  refine go_iconst (show decode code 544 = .ok (.iconst 4, 1) by decide +kernel) (by decide) ?_
  obtain ⟨q10, h⟩ := h
  refine go_iadd (show decode code 545 = .ok (.iadd, 1) by decide +kernel) q10 ?_
  obtain ⟨q11, h⟩ := h
  obtain ⟨q12, h⟩ := h
  refine go_scrld (show decode code 546 = .ok (.iaload, 1) by decide +kernel) rfl q11 q12 ?_
  refine go_aload_n (show decode code 547 = .ok (.aload_n 0, 1) by decide +kernel) (by rfl) ?_
  refine go_iload_n (show decode code 548 = .ok (.iload_n 3, 1) by decide +kernel) (by rfl) ?_
  refine go_iconst (show decode code 549 = .ok (.iconst 5, 1) by decide +kernel) (by decide) ?_
  obtain ⟨q13, h⟩ := h
  refine go_iadd (show decode code 550 = .ok (.iadd, 1) by decide +kernel) q13 ?_
  obtain ⟨q14, h⟩ := h
  obtain ⟨q15, h⟩ := h
  refine go_scrld (show decode code 551 = .ok (.iaload, 1) by decide +kernel) rfl q14 q15 ?_
  obtain ⟨q16, h⟩ := h
  obtain ⟨q21, h⟩ := h
  refine go_callV (d2 := d - 1) (M2 := MX9_level) (n := 5) (ci := 9) (av := [vI (sx S (a3 + 1)), vI (sx S (a3 + 2)), vI (sx S (a3 + 3)), vI (sx S (a3 + 4)), vI (sx S (a3 + 5))]) (st := []) (show decode code 552 = .ok (.invokevirtual 35, 3) by decide +kernel) ml_L_35 mt_X9_level min_X9_level mse_X9_level (by decide) q21 rfl (Nat.le_of_ble_eq_true rfl) (by omega) (ok_mono h (fun w17 S18 F19 G20 h => ?_))
  obtain ⟨z22, e9, h⟩ := h
  subst e9
  show Go d Mlaw 555 [some (vR 999999), some (vR a1), some (vR a2), some (vI a3)] [vJ z22] S18 F19 G20 Q
  refine go_aload_n (show decode code 555 = .ok (.aload_n 2, 1) by decide +kernel) (by rfl) ?_
  refine go_aload_n (show decode code 556 = .ok (.aload_n 0, 1) by decide +kernel) (by rfl) ?_
  refine go_iload_n (show decode code 557 = .ok (.iload_n 3, 1) by decide +kernel) (by rfl) ?_
  refine go_iconst (show decode code 558 = .ok (.iconst 1, 1) by decide +kernel) (by decide) ?_
  obtain ⟨q23, h⟩ := h
  refine go_iadd (show decode code 559 = .ok (.iadd, 1) by decide +kernel) q23 ?_
  obtain ⟨q24, h⟩ := h
  obtain ⟨q25, h⟩ := h
  refine go_scrld (show decode code 560 = .ok (.iaload, 1) by decide +kernel) rfl q24 q25 ?_
  refine go_aload_n (show decode code 561 = .ok (.aload_n 0, 1) by decide +kernel) (by rfl) ?_
  refine go_iload_n (show decode code 562 = .ok (.iload_n 3, 1) by decide +kernel) (by rfl) ?_
  refine go_iconst (show decode code 563 = .ok (.iconst 2, 1) by decide +kernel) (by decide) ?_
  obtain ⟨q26, h⟩ := h
  refine go_iadd (show decode code 564 = .ok (.iadd, 1) by decide +kernel) q26 ?_
  obtain ⟨q27, h⟩ := h
  obtain ⟨q28, h⟩ := h
  refine go_scrld (show decode code 565 = .ok (.iaload, 1) by decide +kernel) rfl q27 q28 ?_
  refine go_aload_n (show decode code 566 = .ok (.aload_n 0, 1) by decide +kernel) (by rfl) ?_
  refine go_iload_n (show decode code 567 = .ok (.iload_n 3, 1) by decide +kernel) (by rfl) ?_
  refine go_iconst (show decode code 568 = .ok (.iconst 3, 1) by decide +kernel) (by decide) ?_
  obtain ⟨q29, h⟩ := h
  refine go_iadd (show decode code 569 = .ok (.iadd, 1) by decide +kernel) q29 ?_
  obtain ⟨q30, h⟩ := h
  obtain ⟨q31, h⟩ := h
  refine go_scrld (show decode code 570 = .ok (.iaload, 1) by decide +kernel) rfl q30 q31 ?_
  refine go_aload_n (show decode code 571 = .ok (.aload_n 0, 1) by decide +kernel) (by rfl) ?_
  refine go_iload_n (show decode code 572 = .ok (.iload_n 3, 1) by decide +kernel) (by rfl) ?_
  refine go_iconst (show decode code 573 = .ok (.iconst 4, 1) by decide +kernel) (by decide) ?_
  obtain ⟨q32, h⟩ := h
  refine go_iadd (show decode code 574 = .ok (.iadd, 1) by decide +kernel) q32 ?_
  obtain ⟨q33, h⟩ := h
  obtain ⟨q34, h⟩ := h
  refine go_scrld (show decode code 575 = .ok (.iaload, 1) by decide +kernel) rfl q33 q34 ?_
  refine go_aload_n (show decode code 576 = .ok (.aload_n 0, 1) by decide +kernel) (by rfl) ?_
  refine go_iload_n (show decode code 577 = .ok (.iload_n 3, 1) by decide +kernel) (by rfl) ?_
  refine go_iconst (show decode code 578 = .ok (.iconst 5, 1) by decide +kernel) (by decide) ?_
  obtain ⟨q35, h⟩ := h
  refine go_iadd (show decode code 579 = .ok (.iadd, 1) by decide +kernel) q35 ?_
  obtain ⟨q36, h⟩ := h
  obtain ⟨q37, h⟩ := h
  refine go_scrld (show decode code 580 = .ok (.iaload, 1) by decide +kernel) rfl q36 q37 ?_
  obtain ⟨q42, h⟩ := h
  refine go_callV (d2 := d - 1) (M2 := MX10_level) (n := 5) (ci := 10) (av := [vI (sx S18 (a3 + 1)), vI (sx S18 (a3 + 2)), vI (sx S18 (a3 + 3)), vI (sx S18 (a3 + 4)), vI (sx S18 (a3 + 5))]) (st := [vJ z22]) (show decode code 581 = .ok (.invokevirtual 39, 3) by decide +kernel) ml_L_39 mt_X10_level min_X10_level mse_X10_level (by decide) q42 rfl (Nat.le_of_ble_eq_true rfl) (by omega) (ok_mono h (fun w38 S39 F40 G41 h => ?_))
  obtain ⟨z43, e9, h⟩ := h
  subst e9
  show Go d Mlaw 584 [some (vR 999999), some (vR a1), some (vR a2), some (vI a3)] [vJ z43, vJ z22] S39 F40 G41 Q
  obtain ⟨ht, hf⟩ := h
  refine go_jeq (tgt := 2110) (show decode code 584 = .ok (.lcmp, 1) by decide +kernel) (show decode code 585 = .ok (.ifCond .eq 1525, 3) by decide +kernel) (by decide) (fun hc => ?_) (fun hc => ?_)
  · have h := ht hc
    exact R_law_2110 h
  · have h := hf hc
    refine go_iconst (show decode code 588 = .ok (.iconst 0, 1) by decide +kernel) (by decide) ?_
    exact go_zret (show decode code 589 = .ok (.ireturn, 1) by decide +kernel) rfl (by decide) h
set_option maxHeartbeats 4000000 in
set_option maxRecDepth 50000 in
def V_law_438 (d : Nat) (S : AS) (F : AF) (G : AG) (Q : AQ) (a1 : Nat) (a2 : Nat) (a3 : Int) : Prop :=
  (r32 (a3 + 1)) ∧
  ((0 : Int) ≤ a3 + 1) ∧
  ((a3 + 1 : Int) < (sL S : Int)) ∧
  (r32 (a3 + 2)) ∧
  ((0 : Int) ≤ a3 + 2) ∧
  ((a3 + 2 : Int) < (sL S : Int)) ∧
  (r32 (a3 + 3)) ∧
  ((0 : Int) ≤ a3 + 3) ∧
  ((a3 + 3 : Int) < (sL S : Int)) ∧
  (r32 (a3 + 4)) ∧
  ((0 : Int) ≤ a3 + 4) ∧
  ((a3 + 4 : Int) < (sL S : Int)) ∧
  (r32 (a3 + 5)) ∧
  ((0 : Int) ≤ a3 + 5) ∧
  ((a3 + 5 : Int) < (sL S : Int)) ∧
  (r32 (a3 + 6)) ∧
  ((0 : Int) ≤ a3 + 6) ∧
  ((a3 + 6 : Int) < (sL S : Int)) ∧
  (r32 (a3 + 7)) ∧
  ((0 : Int) ≤ a3 + 7) ∧
  ((a3 + 7 : Int) < (sL S : Int)) ∧
  (1 ≤ d) ∧
  (sK S a1 = 9) ∧
  Ok (d - 1) MX9_move [vR a1, vI (sx S (a3 + 1)), vI (sx S (a3 + 2)), vI (sx S (a3 + 3)), vI (sx S (a3 + 4)), vI (sx S (a3 + 5)), vI (sx S (a3 + 6)), vI (sx S (a3 + 7))] S F G (fun w23 S24 F25 G26 =>
  ∃ z28 : Int, w23 = some (vJ z28) ∧
  (r32 (a3 + 1)) ∧
  ((0 : Int) ≤ a3 + 1) ∧
  ((a3 + 1 : Int) < (sL S24 : Int)) ∧
  (r32 (a3 + 2)) ∧
  ((0 : Int) ≤ a3 + 2) ∧
  ((a3 + 2 : Int) < (sL S24 : Int)) ∧
  (r32 (a3 + 3)) ∧
  ((0 : Int) ≤ a3 + 3) ∧
  ((a3 + 3 : Int) < (sL S24 : Int)) ∧
  (r32 (a3 + 4)) ∧
  ((0 : Int) ≤ a3 + 4) ∧
  ((a3 + 4 : Int) < (sL S24 : Int)) ∧
  (r32 (a3 + 5)) ∧
  ((0 : Int) ≤ a3 + 5) ∧
  ((a3 + 5 : Int) < (sL S24 : Int)) ∧
  (r32 (a3 + 6)) ∧
  ((0 : Int) ≤ a3 + 6) ∧
  ((a3 + 6 : Int) < (sL S24 : Int)) ∧
  (r32 (a3 + 7)) ∧
  ((0 : Int) ≤ a3 + 7) ∧
  ((a3 + 7 : Int) < (sL S24 : Int)) ∧
  (sK S24 a2 = 10) ∧
  Ok (d - 1) MX10_move [vR a2, vI (sx S24 (a3 + 1)), vI (sx S24 (a3 + 2)), vI (sx S24 (a3 + 3)), vI (sx S24 (a3 + 4)), vI (sx S24 (a3 + 5)), vI (sx S24 (a3 + 6)), vI (sx S24 (a3 + 7))] S24 F25 G26 (fun w50 S51 F52 G53 =>
  ∃ z55 : Int, w50 = some (vJ z55) ∧
  ((z28 = z55) →
    V_law_2110 d S51 F52 G53 Q a1 a2 a3) ∧
  ((¬ z28 = z55) →
    Q (some (vI 0)) S51 F52 G53)))
set_option maxHeartbeats 4000000 in
set_option maxRecDepth 50000 in
theorem R_law_438 {d : Nat} {S : AS} {F : AF} {G : AG} {Q : AQ} {a1 : Nat} {a2 : Nat} {a3 : Int} (h : V_law_438 d S F G Q a1 a2 a3) : Go d Mlaw 438 [some (vR 999999), some (vR a1), some (vR a2), some (vI a3)] [] S F G Q := by
  unfold V_law_438 at h
  refine go_aload_n (show decode code 438 = .ok (.aload_n 1, 1) by decide +kernel) (by rfl) ?_
  refine go_aload_n (show decode code 439 = .ok (.aload_n 0, 1) by decide +kernel) (by rfl) ?_
  refine go_iload_n (show decode code 440 = .ok (.iload_n 3, 1) by decide +kernel) (by rfl) ?_
  refine go_iconst (show decode code 441 = .ok (.iconst 1, 1) by decide +kernel) (by decide) ?_
  obtain ⟨q1, h⟩ := h
  refine go_iadd (show decode code 442 = .ok (.iadd, 1) by decide +kernel) q1 ?_
  obtain ⟨q2, h⟩ := h
  obtain ⟨q3, h⟩ := h
  refine go_scrld (show decode code 443 = .ok (.iaload, 1) by decide +kernel) rfl q2 q3 ?_
  refine go_aload_n (show decode code 444 = .ok (.aload_n 0, 1) by decide +kernel) (by rfl) ?_
  refine go_iload_n (show decode code 445 = .ok (.iload_n 3, 1) by decide +kernel) (by rfl) ?_
  refine go_iconst (show decode code 446 = .ok (.iconst 2, 1) by decide +kernel) (by decide) ?_
  obtain ⟨q4, h⟩ := h
  refine go_iadd (show decode code 447 = .ok (.iadd, 1) by decide +kernel) q4 ?_
  obtain ⟨q5, h⟩ := h
  obtain ⟨q6, h⟩ := h
  refine go_scrld (show decode code 448 = .ok (.iaload, 1) by decide +kernel) rfl q5 q6 ?_
  refine go_aload_n (show decode code 449 = .ok (.aload_n 0, 1) by decide +kernel) (by rfl) ?_
  refine go_iload_n (show decode code 450 = .ok (.iload_n 3, 1) by decide +kernel) (by rfl) ?_
  refine go_iconst (show decode code 451 = .ok (.iconst 3, 1) by decide +kernel) (by decide) ?_
  obtain ⟨q7, h⟩ := h
  refine go_iadd (show decode code 452 = .ok (.iadd, 1) by decide +kernel) q7 ?_
  obtain ⟨q8, h⟩ := h
  obtain ⟨q9, h⟩ := h
  refine go_scrld (show decode code 453 = .ok (.iaload, 1) by decide +kernel) rfl q8 q9 ?_
  refine go_aload_n (show decode code 454 = .ok (.aload_n 0, 1) by decide +kernel) (by rfl) ?_
  refine go_iload_n (show decode code 455 = .ok (.iload_n 3, 1) by decide +kernel) (by rfl) ?_
  refine go_iconst (show decode code 456 = .ok (.iconst 4, 1) by decide +kernel) (by decide) ?_
  obtain ⟨q10, h⟩ := h
  refine go_iadd (show decode code 457 = .ok (.iadd, 1) by decide +kernel) q10 ?_
  obtain ⟨q11, h⟩ := h
  obtain ⟨q12, h⟩ := h
  refine go_scrld (show decode code 458 = .ok (.iaload, 1) by decide +kernel) rfl q11 q12 ?_
  refine go_aload_n (show decode code 459 = .ok (.aload_n 0, 1) by decide +kernel) (by rfl) ?_
  refine go_iload_n (show decode code 460 = .ok (.iload_n 3, 1) by decide +kernel) (by rfl) ?_
  refine go_iconst (show decode code 461 = .ok (.iconst 5, 1) by decide +kernel) (by decide) ?_
  obtain ⟨q13, h⟩ := h
  refine go_iadd (show decode code 462 = .ok (.iadd, 1) by decide +kernel) q13 ?_
  obtain ⟨q14, h⟩ := h
  obtain ⟨q15, h⟩ := h
  refine go_scrld (show decode code 463 = .ok (.iaload, 1) by decide +kernel) rfl q14 q15 ?_
  refine go_aload_n (show decode code 464 = .ok (.aload_n 0, 1) by decide +kernel) (by rfl) ?_
  refine go_iload_n (show decode code 465 = .ok (.iload_n 3, 1) by decide +kernel) (by rfl) ?_
  refine go_bipush (show decode code 466 = .ok (.bipush 6, 2) by decide +kernel) (by decide) ?_
  obtain ⟨q16, h⟩ := h
  refine go_iadd (show decode code 468 = .ok (.iadd, 1) by decide +kernel) q16 ?_
  obtain ⟨q17, h⟩ := h
  obtain ⟨q18, h⟩ := h
  refine go_scrld (show decode code 469 = .ok (.iaload, 1) by decide +kernel) rfl q17 q18 ?_
  refine go_aload_n (show decode code 470 = .ok (.aload_n 0, 1) by decide +kernel) (by rfl) ?_
  refine go_iload_n (show decode code 471 = .ok (.iload_n 3, 1) by decide +kernel) (by rfl) ?_
  refine go_bipush (show decode code 472 = .ok (.bipush 7, 2) by decide +kernel) (by decide) ?_
  obtain ⟨q19, h⟩ := h
  refine go_iadd (show decode code 474 = .ok (.iadd, 1) by decide +kernel) q19 ?_
  obtain ⟨q20, h⟩ := h
  obtain ⟨q21, h⟩ := h
  refine go_scrld (show decode code 475 = .ok (.iaload, 1) by decide +kernel) rfl q20 q21 ?_
  obtain ⟨q22, h⟩ := h
  obtain ⟨q27, h⟩ := h
  refine go_callV (d2 := d - 1) (M2 := MX9_move) (n := 7) (ci := 9) (av := [vI (sx S (a3 + 1)), vI (sx S (a3 + 2)), vI (sx S (a3 + 3)), vI (sx S (a3 + 4)), vI (sx S (a3 + 5)), vI (sx S (a3 + 6)), vI (sx S (a3 + 7))]) (st := []) (show decode code 476 = .ok (.invokevirtual 30, 3) by decide +kernel) ml_L_30 mt_X9_move min_X9_move mse_X9_move (by decide) q27 rfl (Nat.le_of_ble_eq_true rfl) (by omega) (ok_mono h (fun w23 S24 F25 G26 h => ?_))
  obtain ⟨z28, e9, h⟩ := h
  subst e9
  show Go d Mlaw 479 [some (vR 999999), some (vR a1), some (vR a2), some (vI a3)] [vJ z28] S24 F25 G26 Q
  refine go_aload_n (show decode code 479 = .ok (.aload_n 2, 1) by decide +kernel) (by rfl) ?_
  refine go_aload_n (show decode code 480 = .ok (.aload_n 0, 1) by decide +kernel) (by rfl) ?_
  refine go_iload_n (show decode code 481 = .ok (.iload_n 3, 1) by decide +kernel) (by rfl) ?_
  refine go_iconst (show decode code 482 = .ok (.iconst 1, 1) by decide +kernel) (by decide) ?_
  obtain ⟨q29, h⟩ := h
  refine go_iadd (show decode code 483 = .ok (.iadd, 1) by decide +kernel) q29 ?_
  obtain ⟨q30, h⟩ := h
  obtain ⟨q31, h⟩ := h
  refine go_scrld (show decode code 484 = .ok (.iaload, 1) by decide +kernel) rfl q30 q31 ?_
  refine go_aload_n (show decode code 485 = .ok (.aload_n 0, 1) by decide +kernel) (by rfl) ?_
  refine go_iload_n (show decode code 486 = .ok (.iload_n 3, 1) by decide +kernel) (by rfl) ?_
  refine go_iconst (show decode code 487 = .ok (.iconst 2, 1) by decide +kernel) (by decide) ?_
  obtain ⟨q32, h⟩ := h
  refine go_iadd (show decode code 488 = .ok (.iadd, 1) by decide +kernel) q32 ?_
  obtain ⟨q33, h⟩ := h
  obtain ⟨q34, h⟩ := h
  refine go_scrld (show decode code 489 = .ok (.iaload, 1) by decide +kernel) rfl q33 q34 ?_
  refine go_aload_n (show decode code 490 = .ok (.aload_n 0, 1) by decide +kernel) (by rfl) ?_
  refine go_iload_n (show decode code 491 = .ok (.iload_n 3, 1) by decide +kernel) (by rfl) ?_
  refine go_iconst (show decode code 492 = .ok (.iconst 3, 1) by decide +kernel) (by decide) ?_
  obtain ⟨q35, h⟩ := h
  refine go_iadd (show decode code 493 = .ok (.iadd, 1) by decide +kernel) q35 ?_
  obtain ⟨q36, h⟩ := h
  obtain ⟨q37, h⟩ := h
  refine go_scrld (show decode code 494 = .ok (.iaload, 1) by decide +kernel) rfl q36 q37 ?_
  refine go_aload_n (show decode code 495 = .ok (.aload_n 0, 1) by decide +kernel) (by rfl) ?_
  refine go_iload_n (show decode code 496 = .ok (.iload_n 3, 1) by decide +kernel) (by rfl) ?_
  refine go_iconst (show decode code 497 = .ok (.iconst 4, 1) by decide +kernel) (by decide) ?_
  obtain ⟨q38, h⟩ := h
  refine go_iadd (show decode code 498 = .ok (.iadd, 1) by decide +kernel) q38 ?_
  obtain ⟨q39, h⟩ := h
  obtain ⟨q40, h⟩ := h
  refine go_scrld (show decode code 499 = .ok (.iaload, 1) by decide +kernel) rfl q39 q40 ?_
  refine go_aload_n (show decode code 500 = .ok (.aload_n 0, 1) by decide +kernel) (by rfl) ?_
  refine go_iload_n (show decode code 501 = .ok (.iload_n 3, 1) by decide +kernel) (by rfl) ?_
  refine go_iconst (show decode code 502 = .ok (.iconst 5, 1) by decide +kernel) (by decide) ?_
  obtain ⟨q41, h⟩ := h
  refine go_iadd (show decode code 503 = .ok (.iadd, 1) by decide +kernel) q41 ?_
  obtain ⟨q42, h⟩ := h
  obtain ⟨q43, h⟩ := h
  refine go_scrld (show decode code 504 = .ok (.iaload, 1) by decide +kernel) rfl q42 q43 ?_
  refine go_aload_n (show decode code 505 = .ok (.aload_n 0, 1) by decide +kernel) (by rfl) ?_
  refine go_iload_n (show decode code 506 = .ok (.iload_n 3, 1) by decide +kernel) (by rfl) ?_
  refine go_bipush (show decode code 507 = .ok (.bipush 6, 2) by decide +kernel) (by decide) ?_
  obtain ⟨q44, h⟩ := h
  refine go_iadd (show decode code 509 = .ok (.iadd, 1) by decide +kernel) q44 ?_
  obtain ⟨q45, h⟩ := h
  obtain ⟨q46, h⟩ := h
  refine go_scrld (show decode code 510 = .ok (.iaload, 1) by decide +kernel) rfl q45 q46 ?_
  refine go_aload_n (show decode code 511 = .ok (.aload_n 0, 1) by decide +kernel) (by rfl) ?_
  refine go_iload_n (show decode code 512 = .ok (.iload_n 3, 1) by decide +kernel) (by rfl) ?_
  refine go_bipush (show decode code 513 = .ok (.bipush 7, 2) by decide +kernel) (by decide) ?_
  obtain ⟨q47, h⟩ := h
  refine go_iadd (show decode code 515 = .ok (.iadd, 1) by decide +kernel) q47 ?_
  obtain ⟨q48, h⟩ := h
  obtain ⟨q49, h⟩ := h
  refine go_scrld (show decode code 516 = .ok (.iaload, 1) by decide +kernel) rfl q48 q49 ?_
  obtain ⟨q54, h⟩ := h
  refine go_callV (d2 := d - 1) (M2 := MX10_move) (n := 7) (ci := 10) (av := [vI (sx S24 (a3 + 1)), vI (sx S24 (a3 + 2)), vI (sx S24 (a3 + 3)), vI (sx S24 (a3 + 4)), vI (sx S24 (a3 + 5)), vI (sx S24 (a3 + 6)), vI (sx S24 (a3 + 7))]) (st := [vJ z28]) (show decode code 517 = .ok (.invokevirtual 34, 3) by decide +kernel) ml_L_34 mt_X10_move min_X10_move mse_X10_move (by decide) q54 rfl (Nat.le_of_ble_eq_true rfl) (by omega) (ok_mono h (fun w50 S51 F52 G53 h => ?_))
  obtain ⟨z55, e9, h⟩ := h
  subst e9
  show Go d Mlaw 520 [some (vR 999999), some (vR a1), some (vR a2), some (vI a3)] [vJ z55, vJ z28] S51 F52 G53 Q
  obtain ⟨ht, hf⟩ := h
  refine go_jeq (tgt := 2110) (show decode code 520 = .ok (.lcmp, 1) by decide +kernel) (show decode code 521 = .ok (.ifCond .eq 1589, 3) by decide +kernel) (by decide) (fun hc => ?_) (fun hc => ?_)
  · have h := ht hc
    exact R_law_2110 h
  · have h := hf hc
    refine go_iconst (show decode code 524 = .ok (.iconst 0, 1) by decide +kernel) (by decide) ?_
    exact go_zret (show decode code 525 = .ok (.ireturn, 1) by decide +kernel) rfl (by decide) h
set_option maxHeartbeats 4000000 in
set_option maxRecDepth 50000 in
def V_law_330 (d : Nat) (S : AS) (F : AF) (G : AG) (Q : AQ) (a1 : Nat) (a2 : Nat) (a3 : Int) : Prop :=
  (r32 (a3 + 1)) ∧
  ((0 : Int) ≤ a3 + 1) ∧
  ((a3 + 1 : Int) < (sL S : Int)) ∧
  (r32 (a3 + 2)) ∧
  ((0 : Int) ≤ a3 + 2) ∧
  ((a3 + 2 : Int) < (sL S : Int)) ∧
  (r32 (a3 + 3)) ∧
  ((0 : Int) ≤ a3 + 3) ∧
  ((a3 + 3 : Int) < (sL S : Int)) ∧
  (r32 (a3 + 4)) ∧
  ((0 : Int) ≤ a3 + 4) ∧
  ((a3 + 4 : Int) < (sL S : Int)) ∧
  (r32 (a3 + 5)) ∧
  ((0 : Int) ≤ a3 + 5) ∧
  ((a3 + 5 : Int) < (sL S : Int)) ∧
  (r32 (a3 + 6)) ∧
  ((0 : Int) ≤ a3 + 6) ∧
  ((a3 + 6 : Int) < (sL S : Int)) ∧
  (r32 (a3 + 7)) ∧
  ((0 : Int) ≤ a3 + 7) ∧
  ((a3 + 7 : Int) < (sL S : Int)) ∧
  (1 ≤ d) ∧
  (sK S a1 = 9) ∧
  Ok (d - 1) MX9_pick [vR a1, vI (sx S (a3 + 1)), vI (sx S (a3 + 2)), vI (sx S (a3 + 3)), vI (sx S (a3 + 4)), vI (sx S (a3 + 5)), vJ (jOr (jShl (sx S (a3 + 6)) 32) (jAnd (sx S (a3 + 7)) 4294967295))] S F G (fun w23 S24 F25 G26 =>
  ∃ z28 : Int, w23 = some (vJ z28) ∧
  (r32 (a3 + 1)) ∧
  ((0 : Int) ≤ a3 + 1) ∧
  ((a3 + 1 : Int) < (sL S24 : Int)) ∧
  (r32 (a3 + 2)) ∧
  ((0 : Int) ≤ a3 + 2) ∧
  ((a3 + 2 : Int) < (sL S24 : Int)) ∧
  (r32 (a3 + 3)) ∧
  ((0 : Int) ≤ a3 + 3) ∧
  ((a3 + 3 : Int) < (sL S24 : Int)) ∧
  (r32 (a3 + 4)) ∧
  ((0 : Int) ≤ a3 + 4) ∧
  ((a3 + 4 : Int) < (sL S24 : Int)) ∧
  (r32 (a3 + 5)) ∧
  ((0 : Int) ≤ a3 + 5) ∧
  ((a3 + 5 : Int) < (sL S24 : Int)) ∧
  (r32 (a3 + 6)) ∧
  ((0 : Int) ≤ a3 + 6) ∧
  ((a3 + 6 : Int) < (sL S24 : Int)) ∧
  (r32 (a3 + 7)) ∧
  ((0 : Int) ≤ a3 + 7) ∧
  ((a3 + 7 : Int) < (sL S24 : Int)) ∧
  (sK S24 a2 = 10) ∧
  Ok (d - 1) MX10_pick [vR a2, vI (sx S24 (a3 + 1)), vI (sx S24 (a3 + 2)), vI (sx S24 (a3 + 3)), vI (sx S24 (a3 + 4)), vI (sx S24 (a3 + 5)), vJ (jOr (jShl (sx S24 (a3 + 6)) 32) (jAnd (sx S24 (a3 + 7)) 4294967295))] S24 F25 G26 (fun w50 S51 F52 G53 =>
  ∃ z55 : Int, w50 = some (vJ z55) ∧
  ((z28 = z55) →
    V_law_2110 d S51 F52 G53 Q a1 a2 a3) ∧
  ((¬ z28 = z55) →
    Q (some (vI 0)) S51 F52 G53)))
set_option maxHeartbeats 4000000 in
set_option maxRecDepth 50000 in
theorem R_law_330 {d : Nat} {S : AS} {F : AF} {G : AG} {Q : AQ} {a1 : Nat} {a2 : Nat} {a3 : Int} (h : V_law_330 d S F G Q a1 a2 a3) : Go d Mlaw 330 [some (vR 999999), some (vR a1), some (vR a2), some (vI a3)] [] S F G Q := by
  unfold V_law_330 at h
  refine go_aload_n (show decode code 330 = .ok (.aload_n 1, 1) by decide +kernel) (by rfl) ?_
  refine go_aload_n (show decode code 331 = .ok (.aload_n 0, 1) by decide +kernel) (by rfl) ?_
  refine go_iload_n (show decode code 332 = .ok (.iload_n 3, 1) by decide +kernel) (by rfl) ?_
  refine go_iconst (show decode code 333 = .ok (.iconst 1, 1) by decide +kernel) (by decide) ?_
  obtain ⟨q1, h⟩ := h
  refine go_iadd (show decode code 334 = .ok (.iadd, 1) by decide +kernel) q1 ?_
  obtain ⟨q2, h⟩ := h
  obtain ⟨q3, h⟩ := h
  refine go_scrld (show decode code 335 = .ok (.iaload, 1) by decide +kernel) rfl q2 q3 ?_
  refine go_aload_n (show decode code 336 = .ok (.aload_n 0, 1) by decide +kernel) (by rfl) ?_
  refine go_iload_n (show decode code 337 = .ok (.iload_n 3, 1) by decide +kernel) (by rfl) ?_
  refine go_iconst (show decode code 338 = .ok (.iconst 2, 1) by decide +kernel) (by decide) ?_
  obtain ⟨q4, h⟩ := h
  refine go_iadd (show decode code 339 = .ok (.iadd, 1) by decide +kernel) q4 ?_
  obtain ⟨q5, h⟩ := h
  obtain ⟨q6, h⟩ := h
  refine go_scrld (show decode code 340 = .ok (.iaload, 1) by decide +kernel) rfl q5 q6 ?_
  refine go_aload_n (show decode code 341 = .ok (.aload_n 0, 1) by decide +kernel) (by rfl) ?_
  refine go_iload_n (show decode code 342 = .ok (.iload_n 3, 1) by decide +kernel) (by rfl) ?_
  refine go_iconst (show decode code 343 = .ok (.iconst 3, 1) by decide +kernel) (by decide) ?_
  obtain ⟨q7, h⟩ := h
  refine go_iadd (show decode code 344 = .ok (.iadd, 1) by decide +kernel) q7 ?_
  obtain ⟨q8, h⟩ := h
  obtain ⟨q9, h⟩ := h
  refine go_scrld (show decode code 345 = .ok (.iaload, 1) by decide +kernel) rfl q8 q9 ?_
  refine go_aload_n (show decode code 346 = .ok (.aload_n 0, 1) by decide +kernel) (by rfl) ?_
  refine go_iload_n (show decode code 347 = .ok (.iload_n 3, 1) by decide +kernel) (by rfl) ?_
  refine go_iconst (show decode code 348 = .ok (.iconst 4, 1) by decide +kernel) (by decide) ?_
  obtain ⟨q10, h⟩ := h
  refine go_iadd (show decode code 349 = .ok (.iadd, 1) by decide +kernel) q10 ?_
  obtain ⟨q11, h⟩ := h
  obtain ⟨q12, h⟩ := h
  refine go_scrld (show decode code 350 = .ok (.iaload, 1) by decide +kernel) rfl q11 q12 ?_
  refine go_aload_n (show decode code 351 = .ok (.aload_n 0, 1) by decide +kernel) (by rfl) ?_
  refine go_iload_n (show decode code 352 = .ok (.iload_n 3, 1) by decide +kernel) (by rfl) ?_
  refine go_iconst (show decode code 353 = .ok (.iconst 5, 1) by decide +kernel) (by decide) ?_
  obtain ⟨q13, h⟩ := h
  refine go_iadd (show decode code 354 = .ok (.iadd, 1) by decide +kernel) q13 ?_
  obtain ⟨q14, h⟩ := h
  obtain ⟨q15, h⟩ := h
  refine go_scrld (show decode code 355 = .ok (.iaload, 1) by decide +kernel) rfl q14 q15 ?_
  refine go_aload_n (show decode code 356 = .ok (.aload_n 0, 1) by decide +kernel) (by rfl) ?_
  refine go_iload_n (show decode code 357 = .ok (.iload_n 3, 1) by decide +kernel) (by rfl) ?_
  refine go_bipush (show decode code 358 = .ok (.bipush 6, 2) by decide +kernel) (by decide) ?_
  obtain ⟨q16, h⟩ := h
  refine go_iadd (show decode code 360 = .ok (.iadd, 1) by decide +kernel) q16 ?_
  obtain ⟨q17, h⟩ := h
  obtain ⟨q18, h⟩ := h
  refine go_scrld (show decode code 361 = .ok (.iaload, 1) by decide +kernel) rfl q17 q18 ?_
  refine go_i2l (show decode code 362 = .ok (.i2l, 1) by decide +kernel) ?_
  refine go_bipush (show decode code 363 = .ok (.bipush 32, 2) by decide +kernel) (by decide) ?_
  refine go_lshl (show decode code 365 = .ok (.lshl, 1) by decide +kernel) ?_
  refine go_aload_n (show decode code 366 = .ok (.aload_n 0, 1) by decide +kernel) (by rfl) ?_
  refine go_iload_n (show decode code 367 = .ok (.iload_n 3, 1) by decide +kernel) (by rfl) ?_
  refine go_bipush (show decode code 368 = .ok (.bipush 7, 2) by decide +kernel) (by decide) ?_
  obtain ⟨q19, h⟩ := h
  refine go_iadd (show decode code 370 = .ok (.iadd, 1) by decide +kernel) q19 ?_
  obtain ⟨q20, h⟩ := h
  obtain ⟨q21, h⟩ := h
  refine go_scrld (show decode code 371 = .ok (.iaload, 1) by decide +kernel) rfl q20 q21 ?_
  refine go_i2l (show decode code 372 = .ok (.i2l, 1) by decide +kernel) ?_
  refine go_ldc2 (show decode code 373 = .ok (.ldc2_w 13, 3) by decide +kernel) lc_L_13 (by decide) ?_
  refine go_land (show decode code 376 = .ok (.land, 1) by decide +kernel) ?_
  refine go_lor (show decode code 377 = .ok (.lor, 1) by decide +kernel) ?_
  obtain ⟨q22, h⟩ := h
  obtain ⟨q27, h⟩ := h
  refine go_callV (d2 := d - 1) (M2 := MX9_pick) (n := 6) (ci := 9) (av := [vI (sx S (a3 + 1)), vI (sx S (a3 + 2)), vI (sx S (a3 + 3)), vI (sx S (a3 + 4)), vI (sx S (a3 + 5)), vJ (jOr (jShl (sx S (a3 + 6)) 32) (jAnd (sx S (a3 + 7)) 4294967295))]) (st := []) (show decode code 378 = .ok (.invokevirtual 25, 3) by decide +kernel) ml_L_25 mt_X9_pick min_X9_pick mse_X9_pick (by decide) q27 rfl (Nat.le_of_ble_eq_true rfl) (by omega) (ok_mono h (fun w23 S24 F25 G26 h => ?_))
  obtain ⟨z28, e9, h⟩ := h
  subst e9
  show Go d Mlaw 381 [some (vR 999999), some (vR a1), some (vR a2), some (vI a3)] [vJ z28] S24 F25 G26 Q
  refine go_aload_n (show decode code 381 = .ok (.aload_n 2, 1) by decide +kernel) (by rfl) ?_
  refine go_aload_n (show decode code 382 = .ok (.aload_n 0, 1) by decide +kernel) (by rfl) ?_
  refine go_iload_n (show decode code 383 = .ok (.iload_n 3, 1) by decide +kernel) (by rfl) ?_
  refine go_iconst (show decode code 384 = .ok (.iconst 1, 1) by decide +kernel) (by decide) ?_
  obtain ⟨q29, h⟩ := h
  refine go_iadd (show decode code 385 = .ok (.iadd, 1) by decide +kernel) q29 ?_
  obtain ⟨q30, h⟩ := h
  obtain ⟨q31, h⟩ := h
  refine go_scrld (show decode code 386 = .ok (.iaload, 1) by decide +kernel) rfl q30 q31 ?_
  refine go_aload_n (show decode code 387 = .ok (.aload_n 0, 1) by decide +kernel) (by rfl) ?_
  refine go_iload_n (show decode code 388 = .ok (.iload_n 3, 1) by decide +kernel) (by rfl) ?_
  refine go_iconst (show decode code 389 = .ok (.iconst 2, 1) by decide +kernel) (by decide) ?_
  obtain ⟨q32, h⟩ := h
  refine go_iadd (show decode code 390 = .ok (.iadd, 1) by decide +kernel) q32 ?_
  obtain ⟨q33, h⟩ := h
  obtain ⟨q34, h⟩ := h
  refine go_scrld (show decode code 391 = .ok (.iaload, 1) by decide +kernel) rfl q33 q34 ?_
  refine go_aload_n (show decode code 392 = .ok (.aload_n 0, 1) by decide +kernel) (by rfl) ?_
  refine go_iload_n (show decode code 393 = .ok (.iload_n 3, 1) by decide +kernel) (by rfl) ?_
  refine go_iconst (show decode code 394 = .ok (.iconst 3, 1) by decide +kernel) (by decide) ?_
  obtain ⟨q35, h⟩ := h
  refine go_iadd (show decode code 395 = .ok (.iadd, 1) by decide +kernel) q35 ?_
  obtain ⟨q36, h⟩ := h
  obtain ⟨q37, h⟩ := h
  refine go_scrld (show decode code 396 = .ok (.iaload, 1) by decide +kernel) rfl q36 q37 ?_
  refine go_aload_n (show decode code 397 = .ok (.aload_n 0, 1) by decide +kernel) (by rfl) ?_
  refine go_iload_n (show decode code 398 = .ok (.iload_n 3, 1) by decide +kernel) (by rfl) ?_
  refine go_iconst (show decode code 399 = .ok (.iconst 4, 1) by decide +kernel) (by decide) ?_
  obtain ⟨q38, h⟩ := h
  refine go_iadd (show decode code 400 = .ok (.iadd, 1) by decide +kernel) q38 ?_
  obtain ⟨q39, h⟩ := h
  obtain ⟨q40, h⟩ := h
  refine go_scrld (show decode code 401 = .ok (.iaload, 1) by decide +kernel) rfl q39 q40 ?_
  refine go_aload_n (show decode code 402 = .ok (.aload_n 0, 1) by decide +kernel) (by rfl) ?_
  refine go_iload_n (show decode code 403 = .ok (.iload_n 3, 1) by decide +kernel) (by rfl) ?_
  refine go_iconst (show decode code 404 = .ok (.iconst 5, 1) by decide +kernel) (by decide) ?_
  obtain ⟨q41, h⟩ := h
  refine go_iadd (show decode code 405 = .ok (.iadd, 1) by decide +kernel) q41 ?_
  obtain ⟨q42, h⟩ := h
  obtain ⟨q43, h⟩ := h
  refine go_scrld (show decode code 406 = .ok (.iaload, 1) by decide +kernel) rfl q42 q43 ?_
  refine go_aload_n (show decode code 407 = .ok (.aload_n 0, 1) by decide +kernel) (by rfl) ?_
  refine go_iload_n (show decode code 408 = .ok (.iload_n 3, 1) by decide +kernel) (by rfl) ?_
  refine go_bipush (show decode code 409 = .ok (.bipush 6, 2) by decide +kernel) (by decide) ?_
  obtain ⟨q44, h⟩ := h
  refine go_iadd (show decode code 411 = .ok (.iadd, 1) by decide +kernel) q44 ?_
  obtain ⟨q45, h⟩ := h
  obtain ⟨q46, h⟩ := h
  refine go_scrld (show decode code 412 = .ok (.iaload, 1) by decide +kernel) rfl q45 q46 ?_
  refine go_i2l (show decode code 413 = .ok (.i2l, 1) by decide +kernel) ?_
  refine go_bipush (show decode code 414 = .ok (.bipush 32, 2) by decide +kernel) (by decide) ?_
  refine go_lshl (show decode code 416 = .ok (.lshl, 1) by decide +kernel) ?_
  refine go_aload_n (show decode code 417 = .ok (.aload_n 0, 1) by decide +kernel) (by rfl) ?_
  refine go_iload_n (show decode code 418 = .ok (.iload_n 3, 1) by decide +kernel) (by rfl) ?_
  refine go_bipush (show decode code 419 = .ok (.bipush 7, 2) by decide +kernel) (by decide) ?_
  obtain ⟨q47, h⟩ := h
  refine go_iadd (show decode code 421 = .ok (.iadd, 1) by decide +kernel) q47 ?_
  obtain ⟨q48, h⟩ := h
  obtain ⟨q49, h⟩ := h
  refine go_scrld (show decode code 422 = .ok (.iaload, 1) by decide +kernel) rfl q48 q49 ?_
  refine go_i2l (show decode code 423 = .ok (.i2l, 1) by decide +kernel) ?_
  refine go_ldc2 (show decode code 424 = .ok (.ldc2_w 13, 3) by decide +kernel) lc_L_13 (by decide) ?_
  refine go_land (show decode code 427 = .ok (.land, 1) by decide +kernel) ?_
  refine go_lor (show decode code 428 = .ok (.lor, 1) by decide +kernel) ?_
  obtain ⟨q54, h⟩ := h
  refine go_callV (d2 := d - 1) (M2 := MX10_pick) (n := 6) (ci := 10) (av := [vI (sx S24 (a3 + 1)), vI (sx S24 (a3 + 2)), vI (sx S24 (a3 + 3)), vI (sx S24 (a3 + 4)), vI (sx S24 (a3 + 5)), vJ (jOr (jShl (sx S24 (a3 + 6)) 32) (jAnd (sx S24 (a3 + 7)) 4294967295))]) (st := [vJ z28]) (show decode code 429 = .ok (.invokevirtual 29, 3) by decide +kernel) ml_L_29 mt_X10_pick min_X10_pick mse_X10_pick (by decide) q54 rfl (Nat.le_of_ble_eq_true rfl) (by omega) (ok_mono h (fun w50 S51 F52 G53 h => ?_))
  obtain ⟨z55, e9, h⟩ := h
  subst e9
  show Go d Mlaw 432 [some (vR 999999), some (vR a1), some (vR a2), some (vI a3)] [vJ z55, vJ z28] S51 F52 G53 Q
  obtain ⟨ht, hf⟩ := h
  refine go_jeq (tgt := 2110) (show decode code 432 = .ok (.lcmp, 1) by decide +kernel) (show decode code 433 = .ok (.ifCond .eq 1677, 3) by decide +kernel) (by decide) (fun hc => ?_) (fun hc => ?_)
  · have h := ht hc
    exact R_law_2110 h
  · have h := hf hc
    refine go_iconst (show decode code 436 = .ok (.iconst 0, 1) by decide +kernel) (by decide) ?_
    exact go_zret (show decode code 437 = .ok (.ireturn, 1) by decide +kernel) rfl (by decide) h
set_option maxHeartbeats 4000000 in
set_option maxRecDepth 50000 in
def V_law_254 (d : Nat) (S : AS) (F : AF) (G : AG) (Q : AQ) (a1 : Nat) (a2 : Nat) (a3 : Int) : Prop :=
  (r32 (a3 + 1)) ∧
  ((0 : Int) ≤ a3 + 1) ∧
  ((a3 + 1 : Int) < (sL S : Int)) ∧
  (r32 (a3 + 2)) ∧
  ((0 : Int) ≤ a3 + 2) ∧
  ((a3 + 2 : Int) < (sL S : Int)) ∧
  (r32 (a3 + 3)) ∧
  ((0 : Int) ≤ a3 + 3) ∧
  ((a3 + 3 : Int) < (sL S : Int)) ∧
  (r32 (a3 + 4)) ∧
  ((0 : Int) ≤ a3 + 4) ∧
  ((a3 + 4 : Int) < (sL S : Int)) ∧
  (r32 (a3 + 5)) ∧
  ((0 : Int) ≤ a3 + 5) ∧
  ((a3 + 5 : Int) < (sL S : Int)) ∧
  (r32 (a3 + 6)) ∧
  ((0 : Int) ≤ a3 + 6) ∧
  ((a3 + 6 : Int) < (sL S : Int)) ∧
  (1 ≤ d) ∧
  (sK S a1 = 9) ∧
  Ok (d - 1) MX9_add [vR a1, vI (sx S (a3 + 1)), vI (sx S (a3 + 2)), vI (sx S (a3 + 3)), vI (sx S (a3 + 4)), vI (sx S (a3 + 5)), vI (sx S (a3 + 6))] S F G (fun w20 S21 F22 G23 =>
  ∃ z25 : Int, w20 = some (vJ z25) ∧
  (r32 (a3 + 1)) ∧
  ((0 : Int) ≤ a3 + 1) ∧
  ((a3 + 1 : Int) < (sL S21 : Int)) ∧
  (r32 (a3 + 2)) ∧
  ((0 : Int) ≤ a3 + 2) ∧
  ((a3 + 2 : Int) < (sL S21 : Int)) ∧
  (r32 (a3 + 3)) ∧
  ((0 : Int) ≤ a3 + 3) ∧
  ((a3 + 3 : Int) < (sL S21 : Int)) ∧
  (r32 (a3 + 4)) ∧
  ((0 : Int) ≤ a3 + 4) ∧
  ((a3 + 4 : Int) < (sL S21 : Int)) ∧
  (r32 (a3 + 5)) ∧
  ((0 : Int) ≤ a3 + 5) ∧
  ((a3 + 5 : Int) < (sL S21 : Int)) ∧
  (r32 (a3 + 6)) ∧
  ((0 : Int) ≤ a3 + 6) ∧
  ((a3 + 6 : Int) < (sL S21 : Int)) ∧
  (sK S21 a2 = 10) ∧
  Ok (d - 1) MX10_add [vR a2, vI (sx S21 (a3 + 1)), vI (sx S21 (a3 + 2)), vI (sx S21 (a3 + 3)), vI (sx S21 (a3 + 4)), vI (sx S21 (a3 + 5)), vI (sx S21 (a3 + 6))] S21 F22 G23 (fun w44 S45 F46 G47 =>
  ∃ z49 : Int, w44 = some (vJ z49) ∧
  ((z25 = z49) →
    V_law_2110 d S45 F46 G47 Q a1 a2 a3) ∧
  ((¬ z25 = z49) →
    Q (some (vI 0)) S45 F46 G47)))
set_option maxHeartbeats 4000000 in
set_option maxRecDepth 50000 in
theorem R_law_254 {d : Nat} {S : AS} {F : AF} {G : AG} {Q : AQ} {a1 : Nat} {a2 : Nat} {a3 : Int} (h : V_law_254 d S F G Q a1 a2 a3) : Go d Mlaw 254 [some (vR 999999), some (vR a1), some (vR a2), some (vI a3)] [] S F G Q := by
  unfold V_law_254 at h
  refine go_aload_n (show decode code 254 = .ok (.aload_n 1, 1) by decide +kernel) (by rfl) ?_
  refine go_aload_n (show decode code 255 = .ok (.aload_n 0, 1) by decide +kernel) (by rfl) ?_
  refine go_iload_n (show decode code 256 = .ok (.iload_n 3, 1) by decide +kernel) (by rfl) ?_
  refine go_iconst (show decode code 257 = .ok (.iconst 1, 1) by decide +kernel) (by decide) ?_
  obtain ⟨q1, h⟩ := h
  refine go_iadd (show decode code 258 = .ok (.iadd, 1) by decide +kernel) q1 ?_
  obtain ⟨q2, h⟩ := h
  obtain ⟨q3, h⟩ := h
  refine go_scrld (show decode code 259 = .ok (.iaload, 1) by decide +kernel) rfl q2 q3 ?_
  refine go_aload_n (show decode code 260 = .ok (.aload_n 0, 1) by decide +kernel) (by rfl) ?_
  refine go_iload_n (show decode code 261 = .ok (.iload_n 3, 1) by decide +kernel) (by rfl) ?_
  refine go_iconst (show decode code 262 = .ok (.iconst 2, 1) by decide +kernel) (by decide) ?_
  obtain ⟨q4, h⟩ := h
  refine go_iadd (show decode code 263 = .ok (.iadd, 1) by decide +kernel) q4 ?_
  obtain ⟨q5, h⟩ := h
  obtain ⟨q6, h⟩ := h
  refine go_scrld (show decode code 264 = .ok (.iaload, 1) by decide +kernel) rfl q5 q6 ?_
  refine go_aload_n (show decode code 265 = .ok (.aload_n 0, 1) by decide +kernel) (by rfl) ?_
  refine go_iload_n (show decode code 266 = .ok (.iload_n 3, 1) by decide +kernel) (by rfl) ?_
  refine go_iconst (show decode code 267 = .ok (.iconst 3, 1) by decide +kernel) (by decide) ?_
  obtain ⟨q7, h⟩ := h
  refine go_iadd (show decode code 268 = .ok (.iadd, 1) by decide +kernel) q7 ?_
  obtain ⟨q8, h⟩ := h
  obtain ⟨q9, h⟩ := h
  refine go_scrld (show decode code 269 = .ok (.iaload, 1) by decide +kernel) rfl q8 q9 ?_
  refine go_aload_n (show decode code 270 = .ok (.aload_n 0, 1) by decide +kernel) (by rfl) ?_
  refine go_iload_n (show decode code 271 = .ok (.iload_n 3, 1) by decide +kernel) (by rfl) ?_
  refine go_iconst (show decode code 272 = .ok (.iconst 4, 1) by decide +kernel) (by decide) ?_
  obtain ⟨q10, h⟩ := h
  refine go_iadd (show decode code 273 = .ok (.iadd, 1) by decide +kernel) q10 ?_
  obtain ⟨q11, h⟩ := h
  obtain ⟨q12, h⟩ := h
  refine go_scrld (show decode code 274 = .ok (.iaload, 1) by decide +kernel) rfl q11 q12 ?_
  refine go_aload_n (show decode code 275 = .ok (.aload_n 0, 1) by decide +kernel) (by rfl) ?_
  refine go_iload_n (show decode code 276 = .ok (.iload_n 3, 1) by decide +kernel) (by rfl) ?_
  refine go_iconst (show decode code 277 = .ok (.iconst 5, 1) by decide +kernel) (by decide) ?_
  obtain ⟨q13, h⟩ := h
  refine go_iadd (show decode code 278 = .ok (.iadd, 1) by decide +kernel) q13 ?_
  obtain ⟨q14, h⟩ := h
  obtain ⟨q15, h⟩ := h
  refine go_scrld (show decode code 279 = .ok (.iaload, 1) by decide +kernel) rfl q14 q15 ?_
  refine go_aload_n (show decode code 280 = .ok (.aload_n 0, 1) by decide +kernel) (by rfl) ?_
  refine go_iload_n (show decode code 281 = .ok (.iload_n 3, 1) by decide +kernel) (by rfl) ?_
  refine go_bipush (show decode code 282 = .ok (.bipush 6, 2) by decide +kernel) (by decide) ?_
  obtain ⟨q16, h⟩ := h
  refine go_iadd (show decode code 284 = .ok (.iadd, 1) by decide +kernel) q16 ?_
  obtain ⟨q17, h⟩ := h
  obtain ⟨q18, h⟩ := h
  refine go_scrld (show decode code 285 = .ok (.iaload, 1) by decide +kernel) rfl q17 q18 ?_
  obtain ⟨q19, h⟩ := h
  obtain ⟨q24, h⟩ := h
  refine go_callV (d2 := d - 1) (M2 := MX9_add) (n := 6) (ci := 9) (av := [vI (sx S (a3 + 1)), vI (sx S (a3 + 2)), vI (sx S (a3 + 3)), vI (sx S (a3 + 4)), vI (sx S (a3 + 5)), vI (sx S (a3 + 6))]) (st := []) (show decode code 286 = .ok (.invokevirtual 20, 3) by decide +kernel) ml_L_20 mt_X9_add min_X9_add mse_X9_add (by decide) q24 rfl (Nat.le_of_ble_eq_true rfl) (by omega) (ok_mono h (fun w20 S21 F22 G23 h => ?_))
  obtain ⟨z25, e9, h⟩ := h
  subst e9
  show Go d Mlaw 289 [some (vR 999999), some (vR a1), some (vR a2), some (vI a3)] [vJ z25] S21 F22 G23 Q
  refine go_aload_n (show decode code 289 = .ok (.aload_n 2, 1) by decide +kernel) (by rfl) ?_
  refine go_aload_n (show decode code 290 = .ok (.aload_n 0, 1) by decide +kernel) (by rfl) ?_
  refine go_iload_n (show decode code 291 = .ok (.iload_n 3, 1) by decide +kernel) (by rfl) ?_
  refine go_iconst (show decode code 292 = .ok (.iconst 1, 1) by decide +kernel) (by decide) ?_
  obtain ⟨q26, h⟩ := h
  refine go_iadd (show decode code 293 = .ok (.iadd, 1) by decide +kernel) q26 ?_
  obtain ⟨q27, h⟩ := h
  obtain ⟨q28, h⟩ := h
  refine go_scrld (show decode code 294 = .ok (.iaload, 1) by decide +kernel) rfl q27 q28 ?_
  refine go_aload_n (show decode code 295 = .ok (.aload_n 0, 1) by decide +kernel) (by rfl) ?_
  refine go_iload_n (show decode code 296 = .ok (.iload_n 3, 1) by decide +kernel) (by rfl) ?_
  refine go_iconst (show decode code 297 = .ok (.iconst 2, 1) by decide +kernel) (by decide) ?_
  obtain ⟨q29, h⟩ := h
  refine go_iadd (show decode code 298 = .ok (.iadd, 1) by decide +kernel) q29 ?_
  obtain ⟨q30, h⟩ := h
  obtain ⟨q31, h⟩ := h
  refine go_scrld (show decode code 299 = .ok (.iaload, 1) by decide +kernel) rfl q30 q31 ?_
  refine go_aload_n (show decode code 300 = .ok (.aload_n 0, 1) by decide +kernel) (by rfl) ?_
  refine go_iload_n (show decode code 301 = .ok (.iload_n 3, 1) by decide +kernel) (by rfl) ?_
  refine go_iconst (show decode code 302 = .ok (.iconst 3, 1) by decide +kernel) (by decide) ?_
  obtain ⟨q32, h⟩ := h
  refine go_iadd (show decode code 303 = .ok (.iadd, 1) by decide +kernel) q32 ?_
  obtain ⟨q33, h⟩ := h
  obtain ⟨q34, h⟩ := h
  refine go_scrld (show decode code 304 = .ok (.iaload, 1) by decide +kernel) rfl q33 q34 ?_
  refine go_aload_n (show decode code 305 = .ok (.aload_n 0, 1) by decide +kernel) (by rfl) ?_
  refine go_iload_n (show decode code 306 = .ok (.iload_n 3, 1) by decide +kernel) (by rfl) ?_
  refine go_iconst (show decode code 307 = .ok (.iconst 4, 1) by decide +kernel) (by decide) ?_
  obtain ⟨q35, h⟩ := h
  refine go_iadd (show decode code 308 = .ok (.iadd, 1) by decide +kernel) q35 ?_
  obtain ⟨q36, h⟩ := h
  obtain ⟨q37, h⟩ := h
  refine go_scrld (show decode code 309 = .ok (.iaload, 1) by decide +kernel) rfl q36 q37 ?_
  refine go_aload_n (show decode code 310 = .ok (.aload_n 0, 1) by decide +kernel) (by rfl) ?_
  refine go_iload_n (show decode code 311 = .ok (.iload_n 3, 1) by decide +kernel) (by rfl) ?_
  refine go_iconst (show decode code 312 = .ok (.iconst 5, 1) by decide +kernel) (by decide) ?_
  obtain ⟨q38, h⟩ := h
  refine go_iadd (show decode code 313 = .ok (.iadd, 1) by decide +kernel) q38 ?_
  obtain ⟨q39, h⟩ := h
  obtain ⟨q40, h⟩ := h
  refine go_scrld (show decode code 314 = .ok (.iaload, 1) by decide +kernel) rfl q39 q40 ?_
  refine go_aload_n (show decode code 315 = .ok (.aload_n 0, 1) by decide +kernel) (by rfl) ?_
  refine go_iload_n (show decode code 316 = .ok (.iload_n 3, 1) by decide +kernel) (by rfl) ?_
  refine go_bipush (show decode code 317 = .ok (.bipush 6, 2) by decide +kernel) (by decide) ?_
  obtain ⟨q41, h⟩ := h
  refine go_iadd (show decode code 319 = .ok (.iadd, 1) by decide +kernel) q41 ?_
  obtain ⟨q42, h⟩ := h
  obtain ⟨q43, h⟩ := h
  refine go_scrld (show decode code 320 = .ok (.iaload, 1) by decide +kernel) rfl q42 q43 ?_
  obtain ⟨q48, h⟩ := h
  refine go_callV (d2 := d - 1) (M2 := MX10_add) (n := 6) (ci := 10) (av := [vI (sx S21 (a3 + 1)), vI (sx S21 (a3 + 2)), vI (sx S21 (a3 + 3)), vI (sx S21 (a3 + 4)), vI (sx S21 (a3 + 5)), vI (sx S21 (a3 + 6))]) (st := [vJ z25]) (show decode code 321 = .ok (.invokevirtual 24, 3) by decide +kernel) ml_L_24 mt_X10_add min_X10_add mse_X10_add (by decide) q48 rfl (Nat.le_of_ble_eq_true rfl) (by omega) (ok_mono h (fun w44 S45 F46 G47 h => ?_))
  obtain ⟨z49, e9, h⟩ := h
  subst e9
  show Go d Mlaw 324 [some (vR 999999), some (vR a1), some (vR a2), some (vI a3)] [vJ z49, vJ z25] S45 F46 G47 Q
  obtain ⟨ht, hf⟩ := h
  refine go_jeq (tgt := 2110) (show decode code 324 = .ok (.lcmp, 1) by decide +kernel) (show decode code 325 = .ok (.ifCond .eq 1785, 3) by decide +kernel) (by decide) (fun hc => ?_) (fun hc => ?_)
  · have h := ht hc
    exact R_law_2110 h
  · have h := hf hc
    refine go_iconst (show decode code 328 = .ok (.iconst 0, 1) by decide +kernel) (by decide) ?_
    exact go_zret (show decode code 329 = .ok (.ireturn, 1) by decide +kernel) rfl (by decide) h
set_option maxHeartbeats 4000000 in
set_option maxRecDepth 50000 in
def V_law_180 (d : Nat) (S : AS) (F : AF) (G : AG) (Q : AQ) (a1 : Nat) (a2 : Nat) (a3 : Int) : Prop :=
  (r32 (a3 + 1)) ∧
  ((0 : Int) ≤ a3 + 1) ∧
  ((a3 + 1 : Int) < (sL S : Int)) ∧
  (r32 (a3 + 2)) ∧
  ((0 : Int) ≤ a3 + 2) ∧
  ((a3 + 2 : Int) < (sL S : Int)) ∧
  (r32 (a3 + 3)) ∧
  ((0 : Int) ≤ a3 + 3) ∧
  ((a3 + 3 : Int) < (sL S : Int)) ∧
  (r32 (a3 + 4)) ∧
  ((0 : Int) ≤ a3 + 4) ∧
  ((a3 + 4 : Int) < (sL S : Int)) ∧
  (1 ≤ d) ∧
  (sK S a1 = 9) ∧
  Ok (d - 1) MX9_world [vR a1, vI (sx S (a3 + 1)), vI (sx S (a3 + 2)), vJ (jOr (jShl (sx S (a3 + 3)) 32) (jAnd (sx S (a3 + 4)) 4294967295))] S F G (fun w14 S15 F16 G17 =>
  ∃ z19 : Int, w14 = some (vJ z19) ∧
  (r32 (a3 + 1)) ∧
  ((0 : Int) ≤ a3 + 1) ∧
  ((a3 + 1 : Int) < (sL S15 : Int)) ∧
  (r32 (a3 + 2)) ∧
  ((0 : Int) ≤ a3 + 2) ∧
  ((a3 + 2 : Int) < (sL S15 : Int)) ∧
  (r32 (a3 + 3)) ∧
  ((0 : Int) ≤ a3 + 3) ∧
  ((a3 + 3 : Int) < (sL S15 : Int)) ∧
  (r32 (a3 + 4)) ∧
  ((0 : Int) ≤ a3 + 4) ∧
  ((a3 + 4 : Int) < (sL S15 : Int)) ∧
  (sK S15 a2 = 10) ∧
  Ok (d - 1) MX10_world [vR a2, vI (sx S15 (a3 + 1)), vI (sx S15 (a3 + 2)), vJ (jOr (jShl (sx S15 (a3 + 3)) 32) (jAnd (sx S15 (a3 + 4)) 4294967295))] S15 F16 G17 (fun w32 S33 F34 G35 =>
  ∃ z37 : Int, w32 = some (vJ z37) ∧
  ((z19 = z37) →
    V_law_2110 d S33 F34 G35 Q a1 a2 a3) ∧
  ((¬ z19 = z37) →
    Q (some (vI 0)) S33 F34 G35)))
set_option maxHeartbeats 4000000 in
set_option maxRecDepth 50000 in
theorem R_law_180 {d : Nat} {S : AS} {F : AF} {G : AG} {Q : AQ} {a1 : Nat} {a2 : Nat} {a3 : Int} (h : V_law_180 d S F G Q a1 a2 a3) : Go d Mlaw 180 [some (vR 999999), some (vR a1), some (vR a2), some (vI a3)] [] S F G Q := by
  unfold V_law_180 at h
  refine go_aload_n (show decode code 180 = .ok (.aload_n 1, 1) by decide +kernel) (by rfl) ?_
  refine go_aload_n (show decode code 181 = .ok (.aload_n 0, 1) by decide +kernel) (by rfl) ?_
  refine go_iload_n (show decode code 182 = .ok (.iload_n 3, 1) by decide +kernel) (by rfl) ?_
  refine go_iconst (show decode code 183 = .ok (.iconst 1, 1) by decide +kernel) (by decide) ?_
  obtain ⟨q1, h⟩ := h
  refine go_iadd (show decode code 184 = .ok (.iadd, 1) by decide +kernel) q1 ?_
  obtain ⟨q2, h⟩ := h
  obtain ⟨q3, h⟩ := h
  refine go_scrld (show decode code 185 = .ok (.iaload, 1) by decide +kernel) rfl q2 q3 ?_
  refine go_aload_n (show decode code 186 = .ok (.aload_n 0, 1) by decide +kernel) (by rfl) ?_
  refine go_iload_n (show decode code 187 = .ok (.iload_n 3, 1) by decide +kernel) (by rfl) ?_
  refine go_iconst (show decode code 188 = .ok (.iconst 2, 1) by decide +kernel) (by decide) ?_
  obtain ⟨q4, h⟩ := h
  refine go_iadd (show decode code 189 = .ok (.iadd, 1) by decide +kernel) q4 ?_
  obtain ⟨q5, h⟩ := h
  obtain ⟨q6, h⟩ := h
  refine go_scrld (show decode code 190 = .ok (.iaload, 1) by decide +kernel) rfl q5 q6 ?_
  refine go_aload_n (show decode code 191 = .ok (.aload_n 0, 1) by decide +kernel) (by rfl) ?_
  refine go_iload_n (show decode code 192 = .ok (.iload_n 3, 1) by decide +kernel) (by rfl) ?_
  refine go_iconst (show decode code 193 = .ok (.iconst 3, 1) by decide +kernel) (by decide) ?_
  obtain ⟨q7, h⟩ := h
  refine go_iadd (show decode code 194 = .ok (.iadd, 1) by decide +kernel) q7 ?_
  obtain ⟨q8, h⟩ := h
  obtain ⟨q9, h⟩ := h
  refine go_scrld (show decode code 195 = .ok (.iaload, 1) by decide +kernel) rfl q8 q9 ?_
  refine go_i2l (show decode code 196 = .ok (.i2l, 1) by decide +kernel) ?_
  refine go_bipush (show decode code 197 = .ok (.bipush 32, 2) by decide +kernel) (by decide) ?_
  refine go_lshl (show decode code 199 = .ok (.lshl, 1) by decide +kernel) ?_
  refine go_aload_n (show decode code 200 = .ok (.aload_n 0, 1) by decide +kernel) (by rfl) ?_
  refine go_iload_n (show decode code 201 = .ok (.iload_n 3, 1) by decide +kernel) (by rfl) ?_
  refine go_iconst (show decode code 202 = .ok (.iconst 4, 1) by decide +kernel) (by decide) ?_
  obtain ⟨q10, h⟩ := h
  refine go_iadd (show decode code 203 = .ok (.iadd, 1) by decide +kernel) q10 ?_
  obtain ⟨q11, h⟩ := h
  obtain ⟨q12, h⟩ := h
  refine go_scrld (show decode code 204 = .ok (.iaload, 1) by decide +kernel) rfl q11 q12 ?_
  refine go_i2l (show decode code 205 = .ok (.i2l, 1) by decide +kernel) ?_
  refine go_ldc2 (show decode code 206 = .ok (.ldc2_w 13, 3) by decide +kernel) lc_L_13 (by decide) ?_
  refine go_land (show decode code 209 = .ok (.land, 1) by decide +kernel) ?_
  refine go_lor (show decode code 210 = .ok (.lor, 1) by decide +kernel) ?_
  obtain ⟨q13, h⟩ := h
  obtain ⟨q18, h⟩ := h
  refine go_callV (d2 := d - 1) (M2 := MX9_world) (n := 3) (ci := 9) (av := [vI (sx S (a3 + 1)), vI (sx S (a3 + 2)), vJ (jOr (jShl (sx S (a3 + 3)) 32) (jAnd (sx S (a3 + 4)) 4294967295))]) (st := []) (show decode code 211 = .ok (.invokevirtual 15, 3) by decide +kernel) ml_L_15 mt_X9_world min_X9_world mse_X9_world (by decide) q18 rfl (Nat.le_of_ble_eq_true rfl) (by omega) (ok_mono h (fun w14 S15 F16 G17 h => ?_))
  obtain ⟨z19, e9, h⟩ := h
  subst e9
  show Go d Mlaw 214 [some (vR 999999), some (vR a1), some (vR a2), some (vI a3)] [vJ z19] S15 F16 G17 Q
  refine go_aload_n (show decode code 214 = .ok (.aload_n 2, 1) by decide +kernel) (by rfl) ?_
  refine go_aload_n (show decode code 215 = .ok (.aload_n 0, 1) by decide +kernel) (by rfl) ?_
  refine go_iload_n (show decode code 216 = .ok (.iload_n 3, 1) by decide +kernel) (by rfl) ?_
  refine go_iconst (show decode code 217 = .ok (.iconst 1, 1) by decide +kernel) (by decide) ?_
  obtain ⟨q20, h⟩ := h
  refine go_iadd (show decode code 218 = .ok (.iadd, 1) by decide +kernel) q20 ?_
  obtain ⟨q21, h⟩ := h
  obtain ⟨q22, h⟩ := h
  refine go_scrld (show decode code 219 = .ok (.iaload, 1) by decide +kernel) rfl q21 q22 ?_
  refine go_aload_n (show decode code 220 = .ok (.aload_n 0, 1) by decide +kernel) (by rfl) ?_
  refine go_iload_n (show decode code 221 = .ok (.iload_n 3, 1) by decide +kernel) (by rfl) ?_
  refine go_iconst (show decode code 222 = .ok (.iconst 2, 1) by decide +kernel) (by decide) ?_
  obtain ⟨q23, h⟩ := h
  refine go_iadd (show decode code 223 = .ok (.iadd, 1) by decide +kernel) q23 ?_
  obtain ⟨q24, h⟩ := h
  obtain ⟨q25, h⟩ := h
  refine go_scrld (show decode code 224 = .ok (.iaload, 1) by decide +kernel) rfl q24 q25 ?_
  refine go_aload_n (show decode code 225 = .ok (.aload_n 0, 1) by decide +kernel) (by rfl) ?_
  refine go_iload_n (show decode code 226 = .ok (.iload_n 3, 1) by decide +kernel) (by rfl) ?_
  refine go_iconst (show decode code 227 = .ok (.iconst 3, 1) by decide +kernel) (by decide) ?_
  obtain ⟨q26, h⟩ := h
  refine go_iadd (show decode code 228 = .ok (.iadd, 1) by decide +kernel) q26 ?_
  obtain ⟨q27, h⟩ := h
  obtain ⟨q28, h⟩ := h
  refine go_scrld (show decode code 229 = .ok (.iaload, 1) by decide +kernel) rfl q27 q28 ?_
  refine go_i2l (show decode code 230 = .ok (.i2l, 1) by decide +kernel) ?_
  refine go_bipush (show decode code 231 = .ok (.bipush 32, 2) by decide +kernel) (by decide) ?_
  refine go_lshl (show decode code 233 = .ok (.lshl, 1) by decide +kernel) ?_
  refine go_aload_n (show decode code 234 = .ok (.aload_n 0, 1) by decide +kernel) (by rfl) ?_
  refine go_iload_n (show decode code 235 = .ok (.iload_n 3, 1) by decide +kernel) (by rfl) ?_
  refine go_iconst (show decode code 236 = .ok (.iconst 4, 1) by decide +kernel) (by decide) ?_
  obtain ⟨q29, h⟩ := h
  refine go_iadd (show decode code 237 = .ok (.iadd, 1) by decide +kernel) q29 ?_
  obtain ⟨q30, h⟩ := h
  obtain ⟨q31, h⟩ := h
  refine go_scrld (show decode code 238 = .ok (.iaload, 1) by decide +kernel) rfl q30 q31 ?_
  refine go_i2l (show decode code 239 = .ok (.i2l, 1) by decide +kernel) ?_
  refine go_ldc2 (show decode code 240 = .ok (.ldc2_w 13, 3) by decide +kernel) lc_L_13 (by decide) ?_
  refine go_land (show decode code 243 = .ok (.land, 1) by decide +kernel) ?_
  refine go_lor (show decode code 244 = .ok (.lor, 1) by decide +kernel) ?_
  obtain ⟨q36, h⟩ := h
  refine go_callV (d2 := d - 1) (M2 := MX10_world) (n := 3) (ci := 10) (av := [vI (sx S15 (a3 + 1)), vI (sx S15 (a3 + 2)), vJ (jOr (jShl (sx S15 (a3 + 3)) 32) (jAnd (sx S15 (a3 + 4)) 4294967295))]) (st := [vJ z19]) (show decode code 245 = .ok (.invokevirtual 19, 3) by decide +kernel) ml_L_19 mt_X10_world min_X10_world mse_X10_world (by decide) q36 rfl (Nat.le_of_ble_eq_true rfl) (by omega) (ok_mono h (fun w32 S33 F34 G35 h => ?_))
  obtain ⟨z37, e9, h⟩ := h
  subst e9
  show Go d Mlaw 248 [some (vR 999999), some (vR a1), some (vR a2), some (vI a3)] [vJ z37, vJ z19] S33 F34 G35 Q
  obtain ⟨ht, hf⟩ := h
  refine go_jeq (tgt := 2110) (show decode code 248 = .ok (.lcmp, 1) by decide +kernel) (show decode code 249 = .ok (.ifCond .eq 1861, 3) by decide +kernel) (by decide) (fun hc => ?_) (fun hc => ?_)
  · have h := ht hc
    exact R_law_2110 h
  · have h := hf hc
    refine go_iconst (show decode code 252 = .ok (.iconst 0, 1) by decide +kernel) (by decide) ?_
    exact go_zret (show decode code 253 = .ok (.ireturn, 1) by decide +kernel) rfl (by decide) h
set_option maxHeartbeats 4000000 in
set_option maxRecDepth 50000 in
def V_law_18 (d : Nat) (S : AS) (F : AF) (G : AG) (Q : AQ) (a1 : Nat) (a2 : Nat) (a3 : Int) : Prop :=
  (r32 (((sL S : Int)) - 8)) ∧
  ((((sL S : Int)) - 8 < a3) →
    Q (some (vI 1)) S F G) ∧
  ((¬ ((sL S : Int)) - 8 < a3) →
    ((0 : Int) ≤ a3) ∧
    ((a3 : Int) < (sL S : Int)) ∧
    ((bAnd (sx S a3) 63 = 0) →
      V_law_180 d S F G Q a1 a2 a3) ∧
    ((bAnd (sx S a3) 63 = 1) →
      V_law_254 d S F G Q a1 a2 a3) ∧
    ((bAnd (sx S a3) 63 = 2) →
      V_law_330 d S F G Q a1 a2 a3) ∧
    ((bAnd (sx S a3) 63 = 3) →
      V_law_438 d S F G Q a1 a2 a3) ∧
    ((bAnd (sx S a3) 63 = 4) →
      V_law_526 d S F G Q a1 a2 a3) ∧
    ((bAnd (sx S a3) 63 = 5) →
      V_law_590 d S F G Q a1 a2 a3) ∧
    ((bAnd (sx S a3) 63 = 6) →
      V_law_698 d S F G Q a1 a2 a3) ∧
    ((bAnd (sx S a3) 63 = 7) →
      V_law_732 d S F G Q a1 a2 a3) ∧
    ((bAnd (sx S a3) 63 = 8) →
      V_law_745 d S F G Q a1 a2 a3) ∧
    ((bAnd (sx S a3) 63 = 9) →
      V_law_758 d S F G Q a1 a2 a3) ∧
    ((bAnd (sx S a3) 63 = 10) →
      V_law_771 d S F G Q a1 a2 a3) ∧
    ((bAnd (sx S a3) 63 = 11) →
      V_law_834 d S F G Q a1 a2 a3) ∧
    ((bAnd (sx S a3) 63 = 12) →
      V_law_857 d S F G Q a1 a2 a3) ∧
    ((bAnd (sx S a3) 63 = 13) →
      V_law_880 d S F G Q a1 a2 a3) ∧
    ((bAnd (sx S a3) 63 = 14) →
      V_law_944 d S F G Q a1 a2 a3) ∧
    ((bAnd (sx S a3) 63 = 15) →
      V_law_988 d S F G Q a1 a2 a3) ∧
    ((bAnd (sx S a3) 63 = 16) →
      V_law_1064 d S F G Q a1 a2 a3) ∧
    ((bAnd (sx S a3) 63 = 17) →
      V_law_1118 d S F G Q a1 a2 a3) ∧
    ((bAnd (sx S a3) 63 = 18) →
      V_law_1194 d S F G Q a1 a2 a3) ∧
    ((bAnd (sx S a3) 63 = 19) →
      V_law_1302 d S F G Q a1 a2 a3) ∧
    ((bAnd (sx S a3) 63 = 20) →
      V_law_1410 d S F G Q a1 a2 a3) ∧
    ((bAnd (sx S a3) 63 = 21) →
      V_law_1434 d S F G Q a1 a2 a3) ∧
    ((bAnd (sx S a3) 63 = 22) →
      V_law_1510 d S F G Q a1 a2 a3) ∧
    ((bAnd (sx S a3) 63 = 23) →
      V_law_1584 d S F G Q a1 a2 a3) ∧
    ((bAnd (sx S a3) 63 = 24) →
      V_law_1692 d S F G Q a1 a2 a3) ∧
    ((bAnd (sx S a3) 63 = 25) →
      V_law_1800 d S F G Q a1 a2 a3) ∧
    ((bAnd (sx S a3) 63 = 26) →
      V_law_1854 d S F G Q a1 a2 a3) ∧
    ((bAnd (sx S a3) 63 = 27) →
      V_law_1888 d S F G Q a1 a2 a3) ∧
    ((bAnd (sx S a3) 63 = 28) →
      V_law_1942 d S F G Q a1 a2 a3) ∧
    ((bAnd (sx S a3) 63 = 29) →
      V_law_1986 d S F G Q a1 a2 a3) ∧
    ((bAnd (sx S a3) 63 = 30) →
      V_law_2019 d S F G Q a1 a2 a3) ∧
    ((bAnd (sx S a3) 63 = 31) →
      V_law_2052 d S F G Q a1 a2 a3) ∧
    ((bAnd (sx S a3) 63 = 32) →
      V_law_2086 d S F G Q a1 a2 a3) ∧
    ((bAnd (sx S a3) 63 < 0 ∨ 32 < bAnd (sx S a3) 63) →
      V_law_2110 d S F G Q a1 a2 a3))
set_option maxHeartbeats 4000000 in
set_option maxRecDepth 50000 in
theorem R_law_18 {d : Nat} {S : AS} {F : AF} {G : AG} {Q : AQ} {a1 : Nat} {a2 : Nat} {a3 : Int} (h : V_law_18 d S F G Q a1 a2 a3) : Go d Mlaw 18 [some (vR 999999), some (vR a1), some (vR a2), some (vI a3)] [] S F G Q := by
  unfold V_law_18 at h
  refine go_iload_n (show decode code 18 = .ok (.iload_n 3, 1) by decide +kernel) (by rfl) ?_
  refine go_aload_n (show decode code 19 = .ok (.aload_n 0, 1) by decide +kernel) (by rfl) ?_
  refine go_scrlen (show decode code 20 = .ok (.arraylength, 1) by decide +kernel) rfl ?_
  refine go_bipush (show decode code 21 = .ok (.bipush 8, 2) by decide +kernel) (by decide) ?_
  obtain ⟨q1, h⟩ := h
  refine go_isub (show decode code 23 = .ok (.isub, 1) by decide +kernel) q1 ?_
  obtain ⟨ht, hf⟩ := h
  refine go_icmpgt (tgt := 2116) (show decode code 24 = .ok (.if_icmp .gt 2092, 3) by decide +kernel) (by decide) (fun hc => ?_) (fun hc => ?_)
  · have h := ht hc
    refine go_iconst (show decode code 2116 = .ok (.iconst 1, 1) by decide +kernel) (by decide) ?_
    exact go_zret (show decode code 2117 = .ok (.ireturn, 1) by decide +kernel) rfl (by decide) h
  · have h := hf hc
    refine go_aload_n (show decode code 27 = .ok (.aload_n 0, 1) by decide +kernel) (by rfl) ?_
    refine go_iload_n (show decode code 28 = .ok (.iload_n 3, 1) by decide +kernel) (by rfl) ?_
    obtain ⟨q2, h⟩ := h
    obtain ⟨q3, h⟩ := h
    refine go_scrld (show decode code 29 = .ok (.iaload, 1) by decide +kernel) rfl q2 q3 ?_
    refine go_bipush (show decode code 30 = .ok (.bipush 63, 2) by decide +kernel) (by decide) ?_
    refine go_iand (show decode code 32 = .ok (.iand, 1) by decide +kernel) ?_
    obtain ⟨h_0, h_1, h_2, h_3, h_4, h_5, h_6, h_7, h_8, h_9, h_10, h_11, h_12, h_13, h_14, h_15, h_16, h_17, h_18, h_19, h_20, h_21, h_22, h_23, h_24, h_25, h_26, h_27, h_28, h_29, h_30, h_31, h_32, h_d⟩ := h
    by_cases hd9 : bAnd (sx S a3) 63 < 0 ∨ 32 < bAnd (sx S a3) 63
    · have h := h_d hd9
      refine go_swOut (tgt := 2110) (show decode code 33 = .ok (.tableswitch 2077 0 32 #[147, 221, 297, 405, 493, 557, 665, 699, 712, 725, 738, 801, 824, 847, 911, 955, 1031, 1085, 1161, 1269, 1377, 1401, 1477, 1551, 1659, 1767, 1821, 1855, 1909, 1953, 1986, 2019, 2053], 147) by decide +kernel) hd9 (by decide) ?_
      exact R_law_2110 h
    by_cases hc0 : bAnd (sx S a3) 63 = 0
    · have h := h_0 hc0
      refine go_swIn (tgt := 180) (show decode code 33 = .ok (.tableswitch 2077 0 32 #[147, 221, 297, 405, 493, 557, 665, 699, 712, 725, 738, 801, 824, 847, 911, 955, 1031, 1085, 1161, 1269, 1377, 1401, 1477, 1551, 1659, 1767, 1821, 1855, 1909, 1953, 1986, 2019, 2053], 147) by decide +kernel) (by omega) (by omega) (by rw [hc0]; rfl) (by decide) ?_
      exact R_law_180 h
    by_cases hc1 : bAnd (sx S a3) 63 = 1
    · have h := h_1 hc1
      refine go_swIn (tgt := 254) (show decode code 33 = .ok (.tableswitch 2077 0 32 #[147, 221, 297, 405, 493, 557, 665, 699, 712, 725, 738, 801, 824, 847, 911, 955, 1031, 1085, 1161, 1269, 1377, 1401, 1477, 1551, 1659, 1767, 1821, 1855, 1909, 1953, 1986, 2019, 2053], 147) by decide +kernel) (by omega) (by omega) (by rw [hc1]; rfl) (by decide) ?_
      exact R_law_254 h
    by_cases hc2 : bAnd (sx S a3) 63 = 2
    · have h := h_2 hc2
      refine go_swIn (tgt := 330) (show decode code 33 = .ok (.tableswitch 2077 0 32 #[147, 221, 297, 405, 493, 557, 665, 699, 712, 725, 738, 801, 824, 847, 911, 955, 1031, 1085, 1161, 1269, 1377, 1401, 1477, 1551, 1659, 1767, 1821, 1855, 1909, 1953, 1986, 2019, 2053], 147) by decide +kernel) (by omega) (by omega) (by rw [hc2]; rfl) (by decide) ?_
      exact R_law_330 h
    by_cases hc3 : bAnd (sx S a3) 63 = 3
    · have h := h_3 hc3
      refine go_swIn (tgt := 438) (show decode code 33 = .ok (.tableswitch 2077 0 32 #[147, 221, 297, 405, 493, 557, 665, 699, 712, 725, 738, 801, 824, 847, 911, 955, 1031, 1085, 1161, 1269, 1377, 1401, 1477, 1551, 1659, 1767, 1821, 1855, 1909, 1953, 1986, 2019, 2053], 147) by decide +kernel) (by omega) (by omega) (by rw [hc3]; rfl) (by decide) ?_
      exact R_law_438 h
    by_cases hc4 : bAnd (sx S a3) 63 = 4
    · have h := h_4 hc4
      refine go_swIn (tgt := 526) (show decode code 33 = .ok (.tableswitch 2077 0 32 #[147, 221, 297, 405, 493, 557, 665, 699, 712, 725, 738, 801, 824, 847, 911, 955, 1031, 1085, 1161, 1269, 1377, 1401, 1477, 1551, 1659, 1767, 1821, 1855, 1909, 1953, 1986, 2019, 2053], 147) by decide +kernel) (by omega) (by omega) (by rw [hc4]; rfl) (by decide) ?_
      exact R_law_526 h
    by_cases hc5 : bAnd (sx S a3) 63 = 5
    · have h := h_5 hc5
      refine go_swIn (tgt := 590) (show decode code 33 = .ok (.tableswitch 2077 0 32 #[147, 221, 297, 405, 493, 557, 665, 699, 712, 725, 738, 801, 824, 847, 911, 955, 1031, 1085, 1161, 1269, 1377, 1401, 1477, 1551, 1659, 1767, 1821, 1855, 1909, 1953, 1986, 2019, 2053], 147) by decide +kernel) (by omega) (by omega) (by rw [hc5]; rfl) (by decide) ?_
      exact R_law_590 h
    by_cases hc6 : bAnd (sx S a3) 63 = 6
    · have h := h_6 hc6
      refine go_swIn (tgt := 698) (show decode code 33 = .ok (.tableswitch 2077 0 32 #[147, 221, 297, 405, 493, 557, 665, 699, 712, 725, 738, 801, 824, 847, 911, 955, 1031, 1085, 1161, 1269, 1377, 1401, 1477, 1551, 1659, 1767, 1821, 1855, 1909, 1953, 1986, 2019, 2053], 147) by decide +kernel) (by omega) (by omega) (by rw [hc6]; rfl) (by decide) ?_
      exact R_law_698 h
    by_cases hc7 : bAnd (sx S a3) 63 = 7
    · have h := h_7 hc7
      refine go_swIn (tgt := 732) (show decode code 33 = .ok (.tableswitch 2077 0 32 #[147, 221, 297, 405, 493, 557, 665, 699, 712, 725, 738, 801, 824, 847, 911, 955, 1031, 1085, 1161, 1269, 1377, 1401, 1477, 1551, 1659, 1767, 1821, 1855, 1909, 1953, 1986, 2019, 2053], 147) by decide +kernel) (by omega) (by omega) (by rw [hc7]; rfl) (by decide) ?_
      exact R_law_732 h
    by_cases hc8 : bAnd (sx S a3) 63 = 8
    · have h := h_8 hc8
      refine go_swIn (tgt := 745) (show decode code 33 = .ok (.tableswitch 2077 0 32 #[147, 221, 297, 405, 493, 557, 665, 699, 712, 725, 738, 801, 824, 847, 911, 955, 1031, 1085, 1161, 1269, 1377, 1401, 1477, 1551, 1659, 1767, 1821, 1855, 1909, 1953, 1986, 2019, 2053], 147) by decide +kernel) (by omega) (by omega) (by rw [hc8]; rfl) (by decide) ?_
      exact R_law_745 h
    by_cases hc9 : bAnd (sx S a3) 63 = 9
    · have h := h_9 hc9
      refine go_swIn (tgt := 758) (show decode code 33 = .ok (.tableswitch 2077 0 32 #[147, 221, 297, 405, 493, 557, 665, 699, 712, 725, 738, 801, 824, 847, 911, 955, 1031, 1085, 1161, 1269, 1377, 1401, 1477, 1551, 1659, 1767, 1821, 1855, 1909, 1953, 1986, 2019, 2053], 147) by decide +kernel) (by omega) (by omega) (by rw [hc9]; rfl) (by decide) ?_
      exact R_law_758 h
    by_cases hc10 : bAnd (sx S a3) 63 = 10
    · have h := h_10 hc10
      refine go_swIn (tgt := 771) (show decode code 33 = .ok (.tableswitch 2077 0 32 #[147, 221, 297, 405, 493, 557, 665, 699, 712, 725, 738, 801, 824, 847, 911, 955, 1031, 1085, 1161, 1269, 1377, 1401, 1477, 1551, 1659, 1767, 1821, 1855, 1909, 1953, 1986, 2019, 2053], 147) by decide +kernel) (by omega) (by omega) (by rw [hc10]; rfl) (by decide) ?_
      exact R_law_771 h
    by_cases hc11 : bAnd (sx S a3) 63 = 11
    · have h := h_11 hc11
      refine go_swIn (tgt := 834) (show decode code 33 = .ok (.tableswitch 2077 0 32 #[147, 221, 297, 405, 493, 557, 665, 699, 712, 725, 738, 801, 824, 847, 911, 955, 1031, 1085, 1161, 1269, 1377, 1401, 1477, 1551, 1659, 1767, 1821, 1855, 1909, 1953, 1986, 2019, 2053], 147) by decide +kernel) (by omega) (by omega) (by rw [hc11]; rfl) (by decide) ?_
      exact R_law_834 h
    by_cases hc12 : bAnd (sx S a3) 63 = 12
    · have h := h_12 hc12
      refine go_swIn (tgt := 857) (show decode code 33 = .ok (.tableswitch 2077 0 32 #[147, 221, 297, 405, 493, 557, 665, 699, 712, 725, 738, 801, 824, 847, 911, 955, 1031, 1085, 1161, 1269, 1377, 1401, 1477, 1551, 1659, 1767, 1821, 1855, 1909, 1953, 1986, 2019, 2053], 147) by decide +kernel) (by omega) (by omega) (by rw [hc12]; rfl) (by decide) ?_
      exact R_law_857 h
    by_cases hc13 : bAnd (sx S a3) 63 = 13
    · have h := h_13 hc13
      refine go_swIn (tgt := 880) (show decode code 33 = .ok (.tableswitch 2077 0 32 #[147, 221, 297, 405, 493, 557, 665, 699, 712, 725, 738, 801, 824, 847, 911, 955, 1031, 1085, 1161, 1269, 1377, 1401, 1477, 1551, 1659, 1767, 1821, 1855, 1909, 1953, 1986, 2019, 2053], 147) by decide +kernel) (by omega) (by omega) (by rw [hc13]; rfl) (by decide) ?_
      exact R_law_880 h
    by_cases hc14 : bAnd (sx S a3) 63 = 14
    · have h := h_14 hc14
      refine go_swIn (tgt := 944) (show decode code 33 = .ok (.tableswitch 2077 0 32 #[147, 221, 297, 405, 493, 557, 665, 699, 712, 725, 738, 801, 824, 847, 911, 955, 1031, 1085, 1161, 1269, 1377, 1401, 1477, 1551, 1659, 1767, 1821, 1855, 1909, 1953, 1986, 2019, 2053], 147) by decide +kernel) (by omega) (by omega) (by rw [hc14]; rfl) (by decide) ?_
      exact R_law_944 h
    by_cases hc15 : bAnd (sx S a3) 63 = 15
    · have h := h_15 hc15
      refine go_swIn (tgt := 988) (show decode code 33 = .ok (.tableswitch 2077 0 32 #[147, 221, 297, 405, 493, 557, 665, 699, 712, 725, 738, 801, 824, 847, 911, 955, 1031, 1085, 1161, 1269, 1377, 1401, 1477, 1551, 1659, 1767, 1821, 1855, 1909, 1953, 1986, 2019, 2053], 147) by decide +kernel) (by omega) (by omega) (by rw [hc15]; rfl) (by decide) ?_
      exact R_law_988 h
    by_cases hc16 : bAnd (sx S a3) 63 = 16
    · have h := h_16 hc16
      refine go_swIn (tgt := 1064) (show decode code 33 = .ok (.tableswitch 2077 0 32 #[147, 221, 297, 405, 493, 557, 665, 699, 712, 725, 738, 801, 824, 847, 911, 955, 1031, 1085, 1161, 1269, 1377, 1401, 1477, 1551, 1659, 1767, 1821, 1855, 1909, 1953, 1986, 2019, 2053], 147) by decide +kernel) (by omega) (by omega) (by rw [hc16]; rfl) (by decide) ?_
      exact R_law_1064 h
    by_cases hc17 : bAnd (sx S a3) 63 = 17
    · have h := h_17 hc17
      refine go_swIn (tgt := 1118) (show decode code 33 = .ok (.tableswitch 2077 0 32 #[147, 221, 297, 405, 493, 557, 665, 699, 712, 725, 738, 801, 824, 847, 911, 955, 1031, 1085, 1161, 1269, 1377, 1401, 1477, 1551, 1659, 1767, 1821, 1855, 1909, 1953, 1986, 2019, 2053], 147) by decide +kernel) (by omega) (by omega) (by rw [hc17]; rfl) (by decide) ?_
      exact R_law_1118 h
    by_cases hc18 : bAnd (sx S a3) 63 = 18
    · have h := h_18 hc18
      refine go_swIn (tgt := 1194) (show decode code 33 = .ok (.tableswitch 2077 0 32 #[147, 221, 297, 405, 493, 557, 665, 699, 712, 725, 738, 801, 824, 847, 911, 955, 1031, 1085, 1161, 1269, 1377, 1401, 1477, 1551, 1659, 1767, 1821, 1855, 1909, 1953, 1986, 2019, 2053], 147) by decide +kernel) (by omega) (by omega) (by rw [hc18]; rfl) (by decide) ?_
      exact R_law_1194 h
    by_cases hc19 : bAnd (sx S a3) 63 = 19
    · have h := h_19 hc19
      refine go_swIn (tgt := 1302) (show decode code 33 = .ok (.tableswitch 2077 0 32 #[147, 221, 297, 405, 493, 557, 665, 699, 712, 725, 738, 801, 824, 847, 911, 955, 1031, 1085, 1161, 1269, 1377, 1401, 1477, 1551, 1659, 1767, 1821, 1855, 1909, 1953, 1986, 2019, 2053], 147) by decide +kernel) (by omega) (by omega) (by rw [hc19]; rfl) (by decide) ?_
      exact R_law_1302 h
    by_cases hc20 : bAnd (sx S a3) 63 = 20
    · have h := h_20 hc20
      refine go_swIn (tgt := 1410) (show decode code 33 = .ok (.tableswitch 2077 0 32 #[147, 221, 297, 405, 493, 557, 665, 699, 712, 725, 738, 801, 824, 847, 911, 955, 1031, 1085, 1161, 1269, 1377, 1401, 1477, 1551, 1659, 1767, 1821, 1855, 1909, 1953, 1986, 2019, 2053], 147) by decide +kernel) (by omega) (by omega) (by rw [hc20]; rfl) (by decide) ?_
      exact R_law_1410 h
    by_cases hc21 : bAnd (sx S a3) 63 = 21
    · have h := h_21 hc21
      refine go_swIn (tgt := 1434) (show decode code 33 = .ok (.tableswitch 2077 0 32 #[147, 221, 297, 405, 493, 557, 665, 699, 712, 725, 738, 801, 824, 847, 911, 955, 1031, 1085, 1161, 1269, 1377, 1401, 1477, 1551, 1659, 1767, 1821, 1855, 1909, 1953, 1986, 2019, 2053], 147) by decide +kernel) (by omega) (by omega) (by rw [hc21]; rfl) (by decide) ?_
      exact R_law_1434 h
    by_cases hc22 : bAnd (sx S a3) 63 = 22
    · have h := h_22 hc22
      refine go_swIn (tgt := 1510) (show decode code 33 = .ok (.tableswitch 2077 0 32 #[147, 221, 297, 405, 493, 557, 665, 699, 712, 725, 738, 801, 824, 847, 911, 955, 1031, 1085, 1161, 1269, 1377, 1401, 1477, 1551, 1659, 1767, 1821, 1855, 1909, 1953, 1986, 2019, 2053], 147) by decide +kernel) (by omega) (by omega) (by rw [hc22]; rfl) (by decide) ?_
      exact R_law_1510 h
    by_cases hc23 : bAnd (sx S a3) 63 = 23
    · have h := h_23 hc23
      refine go_swIn (tgt := 1584) (show decode code 33 = .ok (.tableswitch 2077 0 32 #[147, 221, 297, 405, 493, 557, 665, 699, 712, 725, 738, 801, 824, 847, 911, 955, 1031, 1085, 1161, 1269, 1377, 1401, 1477, 1551, 1659, 1767, 1821, 1855, 1909, 1953, 1986, 2019, 2053], 147) by decide +kernel) (by omega) (by omega) (by rw [hc23]; rfl) (by decide) ?_
      exact R_law_1584 h
    by_cases hc24 : bAnd (sx S a3) 63 = 24
    · have h := h_24 hc24
      refine go_swIn (tgt := 1692) (show decode code 33 = .ok (.tableswitch 2077 0 32 #[147, 221, 297, 405, 493, 557, 665, 699, 712, 725, 738, 801, 824, 847, 911, 955, 1031, 1085, 1161, 1269, 1377, 1401, 1477, 1551, 1659, 1767, 1821, 1855, 1909, 1953, 1986, 2019, 2053], 147) by decide +kernel) (by omega) (by omega) (by rw [hc24]; rfl) (by decide) ?_
      exact R_law_1692 h
    by_cases hc25 : bAnd (sx S a3) 63 = 25
    · have h := h_25 hc25
      refine go_swIn (tgt := 1800) (show decode code 33 = .ok (.tableswitch 2077 0 32 #[147, 221, 297, 405, 493, 557, 665, 699, 712, 725, 738, 801, 824, 847, 911, 955, 1031, 1085, 1161, 1269, 1377, 1401, 1477, 1551, 1659, 1767, 1821, 1855, 1909, 1953, 1986, 2019, 2053], 147) by decide +kernel) (by omega) (by omega) (by rw [hc25]; rfl) (by decide) ?_
      exact R_law_1800 h
    by_cases hc26 : bAnd (sx S a3) 63 = 26
    · have h := h_26 hc26
      refine go_swIn (tgt := 1854) (show decode code 33 = .ok (.tableswitch 2077 0 32 #[147, 221, 297, 405, 493, 557, 665, 699, 712, 725, 738, 801, 824, 847, 911, 955, 1031, 1085, 1161, 1269, 1377, 1401, 1477, 1551, 1659, 1767, 1821, 1855, 1909, 1953, 1986, 2019, 2053], 147) by decide +kernel) (by omega) (by omega) (by rw [hc26]; rfl) (by decide) ?_
      exact R_law_1854 h
    by_cases hc27 : bAnd (sx S a3) 63 = 27
    · have h := h_27 hc27
      refine go_swIn (tgt := 1888) (show decode code 33 = .ok (.tableswitch 2077 0 32 #[147, 221, 297, 405, 493, 557, 665, 699, 712, 725, 738, 801, 824, 847, 911, 955, 1031, 1085, 1161, 1269, 1377, 1401, 1477, 1551, 1659, 1767, 1821, 1855, 1909, 1953, 1986, 2019, 2053], 147) by decide +kernel) (by omega) (by omega) (by rw [hc27]; rfl) (by decide) ?_
      exact R_law_1888 h
    by_cases hc28 : bAnd (sx S a3) 63 = 28
    · have h := h_28 hc28
      refine go_swIn (tgt := 1942) (show decode code 33 = .ok (.tableswitch 2077 0 32 #[147, 221, 297, 405, 493, 557, 665, 699, 712, 725, 738, 801, 824, 847, 911, 955, 1031, 1085, 1161, 1269, 1377, 1401, 1477, 1551, 1659, 1767, 1821, 1855, 1909, 1953, 1986, 2019, 2053], 147) by decide +kernel) (by omega) (by omega) (by rw [hc28]; rfl) (by decide) ?_
      exact R_law_1942 h
    by_cases hc29 : bAnd (sx S a3) 63 = 29
    · have h := h_29 hc29
      refine go_swIn (tgt := 1986) (show decode code 33 = .ok (.tableswitch 2077 0 32 #[147, 221, 297, 405, 493, 557, 665, 699, 712, 725, 738, 801, 824, 847, 911, 955, 1031, 1085, 1161, 1269, 1377, 1401, 1477, 1551, 1659, 1767, 1821, 1855, 1909, 1953, 1986, 2019, 2053], 147) by decide +kernel) (by omega) (by omega) (by rw [hc29]; rfl) (by decide) ?_
      exact R_law_1986 h
    by_cases hc30 : bAnd (sx S a3) 63 = 30
    · have h := h_30 hc30
      refine go_swIn (tgt := 2019) (show decode code 33 = .ok (.tableswitch 2077 0 32 #[147, 221, 297, 405, 493, 557, 665, 699, 712, 725, 738, 801, 824, 847, 911, 955, 1031, 1085, 1161, 1269, 1377, 1401, 1477, 1551, 1659, 1767, 1821, 1855, 1909, 1953, 1986, 2019, 2053], 147) by decide +kernel) (by omega) (by omega) (by rw [hc30]; rfl) (by decide) ?_
      exact R_law_2019 h
    by_cases hc31 : bAnd (sx S a3) 63 = 31
    · have h := h_31 hc31
      refine go_swIn (tgt := 2052) (show decode code 33 = .ok (.tableswitch 2077 0 32 #[147, 221, 297, 405, 493, 557, 665, 699, 712, 725, 738, 801, 824, 847, 911, 955, 1031, 1085, 1161, 1269, 1377, 1401, 1477, 1551, 1659, 1767, 1821, 1855, 1909, 1953, 1986, 2019, 2053], 147) by decide +kernel) (by omega) (by omega) (by rw [hc31]; rfl) (by decide) ?_
      exact R_law_2052 h
    by_cases hc32 : bAnd (sx S a3) 63 = 32
    · have h := h_32 hc32
      refine go_swIn (tgt := 2086) (show decode code 33 = .ok (.tableswitch 2077 0 32 #[147, 221, 297, 405, 493, 557, 665, 699, 712, 725, 738, 801, 824, 847, 911, 955, 1031, 1085, 1161, 1269, 1377, 1401, 1477, 1551, 1659, 1767, 1821, 1855, 1909, 1953, 1986, 2019, 2053], 147) by decide +kernel) (by omega) (by omega) (by rw [hc32]; rfl) (by decide) ?_
      exact R_law_2086 h
    exact absurd hd9 (by omega)
set_option maxHeartbeats 4000000 in
set_option maxRecDepth 50000 in
def V_law_0 (d : Nat) (S : AS) (F : AF) (G : AG) (Q : AQ)  : Prop :=
  (sn S < 999998) ∧
  ∀ x2 : Nat, x2 = sn S + 1 →
  ∀ S3 : AS, S3 = na S 9 0 7 →
  ∀ F4 : AF, F4 = nF S F →
  ∀ G5 : AG, G5 = nG S G →
  (1 ≤ d) ∧
  (1 ≤ x2) ∧
  Ok (d - 1) MX9_init [vR x2] S3 F4 G5 (fun w7 S8 F9 G10 =>
  w7 = none ∧
  (sn S8 < 999998) ∧
  ∀ x13 : Nat, x13 = sn S8 + 1 →
  ∀ S14 : AS, S14 = na S8 10 0 51 →
  ∀ F15 : AF, F15 = nF S8 F9 →
  ∀ G16 : AG, G16 = nG S8 G10 →
  (1 ≤ d) ∧
  (1 ≤ x13) ∧
  Ok (d - 1) MX10_init [vR x13] S14 F15 G16 (fun w18 S19 F20 G21 =>
  w18 = none ∧
  Go d Mlaw 18 [some (vR 999999), some (vR x2), some (vR x13), some (vI 0)] [] S19 F20 G21 Q))
set_option maxHeartbeats 4000000 in
set_option maxRecDepth 50000 in
theorem R_law_0 {d : Nat} {S : AS} {F : AF} {G : AG} {Q : AQ}  (h : V_law_0 d S F G Q ) : Go d Mlaw 0 [some (vR 999999), none, none, none] [] S F G Q := by
  unfold V_law_0 at h
  obtain ⟨q1, h⟩ := h
  refine go_new (show decode code 0 = .ok (.new 7, 3) by decide +kernel) (by decide) cl_L_7 ci_9 cz_9 q1 ?_
  show Go d Mlaw 3 [some (vR 999999), none, none, none] [vR (sn S + 1)] (na S 9 0 7) (nF S F) (nG S G) Q
  obtain ⟨x2, x2e⟩ : ∃ x2 : Nat, x2 = sn S + 1 := ⟨_, rfl⟩
  have h := h x2 x2e
  rw [← x2e]
  obtain ⟨S3, S3e⟩ : ∃ S3 : AS, S3 = na S 9 0 7 := ⟨_, rfl⟩
  have h := h S3 S3e
  rw [← S3e]
  obtain ⟨F4, F4e⟩ : ∃ F4 : AF, F4 = nF S F := ⟨_, rfl⟩
  have h := h F4 F4e
  rw [← F4e]
  obtain ⟨G5, G5e⟩ : ∃ G5 : AG, G5 = nG S G := ⟨_, rfl⟩
  have h := h G5 G5e
  rw [← G5e]
  refine go_dup (show decode code 3 = .ok (.dup, 1) by decide +kernel) ?_
  obtain ⟨q6, h⟩ := h
  obtain ⟨q11, h⟩ := h
  refine go_callI (d2 := d - 1) (M2 := MX9_init) (n := 0) (av := []) (st := [vR x2]) (show decode code 4 = .ok (.invokespecial 9, 3) by decide +kernel) ml_L_9 mt_X9_init rfl rfl min_X9_init q11 rfl (Nat.le_of_ble_eq_true rfl) (by omega) (ok_mono h (fun w7 S8 F9 G10 h => ?_))
  obtain ⟨e9, h⟩ := h
  subst e9
  show Go d Mlaw 7 [some (vR 999999), none, none, none] [vR x2] S8 F9 G10 Q
  refine go_astore_n (show decode code 7 = .ok (.astore_n 1, 1) by decide +kernel) (by decide) ?_
  show Go d Mlaw 8 [some (vR 999999), some (vR x2), none, none] [] S8 F9 G10 Q
  obtain ⟨q12, h⟩ := h
  refine go_new (show decode code 8 = .ok (.new 10, 3) by decide +kernel) (by decide) cl_L_10 ci_10 cz_10 q12 ?_
  show Go d Mlaw 11 [some (vR 999999), some (vR x2), none, none] [vR (sn S8 + 1)] (na S8 10 0 51) (nF S8 F9) (nG S8 G10) Q
  obtain ⟨x13, x13e⟩ : ∃ x13 : Nat, x13 = sn S8 + 1 := ⟨_, rfl⟩
  have h := h x13 x13e
  rw [← x13e]
  obtain ⟨S14, S14e⟩ : ∃ S14 : AS, S14 = na S8 10 0 51 := ⟨_, rfl⟩
  have h := h S14 S14e
  rw [← S14e]
  obtain ⟨F15, F15e⟩ : ∃ F15 : AF, F15 = nF S8 F9 := ⟨_, rfl⟩
  have h := h F15 F15e
  rw [← F15e]
  obtain ⟨G16, G16e⟩ : ∃ G16 : AG, G16 = nG S8 G10 := ⟨_, rfl⟩
  have h := h G16 G16e
  rw [← G16e]
  refine go_dup (show decode code 11 = .ok (.dup, 1) by decide +kernel) ?_
  obtain ⟨q17, h⟩ := h
  obtain ⟨q22, h⟩ := h
  refine go_callI (d2 := d - 1) (M2 := MX10_init) (n := 0) (av := []) (st := [vR x13]) (show decode code 12 = .ok (.invokespecial 12, 3) by decide +kernel) ml_L_12 mt_X10_init rfl rfl min_X10_init q22 rfl (Nat.le_of_ble_eq_true rfl) (by omega) (ok_mono h (fun w18 S19 F20 G21 h => ?_))
  obtain ⟨e9, h⟩ := h
  subst e9
  show Go d Mlaw 15 [some (vR 999999), some (vR x2), none, none] [vR x13] S19 F20 G21 Q
  refine go_astore_n (show decode code 15 = .ok (.astore_n 2, 1) by decide +kernel) (by decide) ?_
  show Go d Mlaw 16 [some (vR 999999), some (vR x2), some (vR x13), none] [] S19 F20 G21 Q
  refine go_iconst (show decode code 16 = .ok (.iconst 0, 1) by decide +kernel) (by decide) ?_
  refine go_istore_n (show decode code 17 = .ok (.istore_n 3, 1) by decide +kernel) (by decide) ?_
  show Go d Mlaw 18 [some (vR 999999), some (vR x2), some (vR x13), some (vI 0)] [] S19 F20 G21 Q
  exact h
