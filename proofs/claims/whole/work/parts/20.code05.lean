def V_X10_init_0 (d : Nat) (S : AS) (F : AF) (G : AG) (Q : AQ) (a0 : Nat) : Prop :=
  (1 ≤ d) ∧
  (1 ≤ a0) ∧
  (sK S a0 = 10) ∧
  ∀ F4 : AF, F4 = fu F a0 1 1 →
  ∀ F5 : AF, F5 = fu F4 a0 2 1 →
  ∀ F6 : AF, F6 = fu F5 a0 3 1000000000000 →
  (sn S < 999998) ∧
  ∀ x8 : Nat, x8 = sn S + 1 →
  ∀ S9 : AS, S9 = na S 20 96 96 →
  ∀ F10 : AF, F10 = nF S F6 →
  ∀ G11 : AG, G11 = nG S G →
  (sK S9 a0 = 10) ∧
  (x8 ≤ sn S9) ∧
  ∀ S14 : AS, S14 = ru S9 a0 4 x8 →
  (sn S14 < 999998) ∧
  ∀ x16 : Nat, x16 = sn S14 + 1 →
  ∀ S17 : AS, S17 = na S14 20 2 2 →
  ∀ F18 : AF, F18 = nF S14 F10 →
  ∀ G19 : AG, G19 = nG S14 G11 →
  (sK S17 a0 = 10) ∧
  (x16 ≤ sn S17) ∧
  ∀ S22 : AS, S22 = ru S17 a0 5 x16 →
  (sn S22 < 999998) ∧
  ∀ x24 : Nat, x24 = sn S22 + 1 →
  ∀ S25 : AS, S25 = na S22 20 2 2 →
  ∀ F26 : AF, F26 = nF S22 F18 →
  ∀ G27 : AG, G27 = nG S22 G19 →
  (sK S25 a0 = 10) ∧
  (x24 ≤ sn S25) ∧
  ∀ S30 : AS, S30 = ru S25 a0 6 x24 →
  (sn S30 < 999998) ∧
  ∀ x32 : Nat, x32 = sn S30 + 1 →
  ∀ S33 : AS, S33 = na S30 21 6912 6912 →
  ∀ F34 : AF, F34 = nF S30 F26 →
  ∀ G35 : AG, G35 = nG S30 G27 →
  (sK S33 a0 = 10) ∧
  (x32 ≤ sn S33) ∧
  ∀ S38 : AS, S38 = ru S33 a0 7 x32 →
  (sn S38 < 999998) ∧
  ∀ x40 : Nat, x40 = sn S38 + 1 →
  ∀ S41 : AS, S41 = na S38 21 55296 55296 →
  ∀ F42 : AF, F42 = nF S38 F34 →
  ∀ G43 : AG, G43 = nG S38 G35 →
  (sK S41 a0 = 10) ∧
  (x40 ≤ sn S41) ∧
  ∀ S46 : AS, S46 = ru S41 a0 8 x40 →
  (sn S46 < 999998) ∧
  ∀ x48 : Nat, x48 = sn S46 + 1 →
  ∀ S49 : AS, S49 = na S46 21 3 3 →
  ∀ F50 : AF, F50 = nF S46 F42 →
  ∀ G51 : AG, G51 = nG S46 G43 →
  (sK S49 a0 = 10) ∧
  (x48 ≤ sn S49) ∧
  ∀ S54 : AS, S54 = ru S49 a0 9 x48 →
  (sn S54 < 999998) ∧
  ∀ x56 : Nat, x56 = sn S54 + 1 →
  ∀ S57 : AS, S57 = na S54 21 24 24 →
  ∀ F58 : AF, F58 = nF S54 F50 →
  ∀ G59 : AG, G59 = nG S54 G51 →
  (sK S57 a0 = 10) ∧
  (x56 ≤ sn S57) ∧
  ∀ S62 : AS, S62 = ru S57 a0 10 x56 →
  (sn S62 < 999998) ∧
  ∀ x64 : Nat, x64 = sn S62 + 1 →
  ∀ S65 : AS, S65 = na S62 20 8 8 →
  ∀ F66 : AF, F66 = nF S62 F58 →
  ∀ G67 : AG, G67 = nG S62 G59 →
  (sK S65 a0 = 10) ∧
  (x64 ≤ sn S65) ∧
  ∀ S70 : AS, S70 = ru S65 a0 12 x64 →
  (sn S70 < 999998) ∧
  ∀ x72 : Nat, x72 = sn S70 + 1 →
  ∀ S73 : AS, S73 = na S70 21 280 280 →
  ∀ F74 : AF, F74 = nF S70 F66 →
  ∀ G75 : AG, G75 = nG S70 G67 →
  (sK S73 a0 = 10) ∧
  (x72 ≤ sn S73) ∧
  ∀ S78 : AS, S78 = ru S73 a0 13 x72 →
  (sn S78 < 999998) ∧
  ∀ x80 : Nat, x80 = sn S78 + 1 →
  ∀ S81 : AS, S81 = na S78 20 24 24 →
  ∀ F82 : AF, F82 = nF S78 F74 →
  ∀ G83 : AG, G83 = nG S78 G75 →
  (sK S81 a0 = 10) ∧
  (x80 ≤ sn S81) ∧
  ∀ S86 : AS, S86 = ru S81 a0 15 x80 →
  (sn S86 < 999998) ∧
  ∀ x88 : Nat, x88 = sn S86 + 1 →
  ∀ S89 : AS, S89 = na S86 21 6 6 →
  ∀ F90 : AF, F90 = nF S86 F82 →
  ∀ G91 : AG, G91 = nG S86 G83 →
  (sK S89 a0 = 10) ∧
  (x88 ≤ sn S89) ∧
  ∀ S94 : AS, S94 = ru S89 a0 16 x88 →
  (sn S94 < 999998) ∧
  ∀ x96 : Nat, x96 = sn S94 + 1 →
  ∀ S97 : AS, S97 = na S94 23 6 6 →
  ∀ F98 : AF, F98 = nF S94 F90 →
  ∀ G99 : AG, G99 = nG S94 G91 →
  (sK S97 a0 = 10) ∧
  (x96 ≤ sn S97) ∧
  ∀ S102 : AS, S102 = ru S97 a0 17 x96 →
  (sn S102 < 999998) ∧
  ∀ x104 : Nat, x104 = sn S102 + 1 →
  ∀ S105 : AS, S105 = na S102 20 2 2 →
  ∀ F106 : AF, F106 = nF S102 F98 →
  ∀ G107 : AG, G107 = nG S102 G99 →
  (sK S105 a0 = 10) ∧
  (x104 ≤ sn S105) ∧
  ∀ S110 : AS, S110 = ru S105 a0 18 x104 →
  (sn S110 < 999998) ∧
  ∀ x112 : Nat, x112 = sn S110 + 1 →
  ∀ S113 : AS, S113 = na S110 20 64 64 →
  ∀ F114 : AF, F114 = nF S110 F106 →
  ∀ G115 : AG, G115 = nG S110 G107 →
  (sK S113 a0 = 10) ∧
  (x112 ≤ sn S113) ∧
  ∀ S118 : AS, S118 = ru S113 a0 19 x112 →
  (sn S118 < 999998) ∧
  ∀ x120 : Nat, x120 = sn S118 + 1 →
  ∀ S121 : AS, S121 = na S118 20 96 96 →
  ∀ F122 : AF, F122 = nF S118 F114 →
  ∀ G123 : AG, G123 = nG S118 G115 →
  (sK S121 a0 = 10) ∧
  (x120 ≤ sn S121) ∧
  ∀ S126 : AS, S126 = ru S121 a0 28 x120 →
  (sn S126 < 999998) ∧
  ∀ x128 : Nat, x128 = sn S126 + 1 →
  ∀ S129 : AS, S129 = na S126 20 2 2 →
  ∀ F130 : AF, F130 = nF S126 F122 →
  ∀ G131 : AG, G131 = nG S126 G123 →
  (sK S129 a0 = 10) ∧
  (x128 ≤ sn S129) ∧
  ∀ S134 : AS, S134 = ru S129 a0 29 x128 →
  (sn S134 < 999998) ∧
  ∀ x136 : Nat, x136 = sn S134 + 1 →
  ∀ S137 : AS, S137 = na S134 21 2304 2304 →
  ∀ F138 : AF, F138 = nF S134 F130 →
  ∀ G139 : AG, G139 = nG S134 G131 →
  (sK S137 a0 = 10) ∧
  (x136 ≤ sn S137) ∧
  ∀ S142 : AS, S142 = ru S137 a0 30 x136 →
  (sn S142 < 999998) ∧
  ∀ x144 : Nat, x144 = sn S142 + 1 →
  ∀ S145 : AS, S145 = na S142 20 64 64 →
  ∀ F146 : AF, F146 = nF S142 F138 →
  ∀ G147 : AG, G147 = nG S142 G139 →
  (sK S145 a0 = 10) ∧
  (x144 ≤ sn S145) ∧
  ∀ S150 : AS, S150 = ru S145 a0 31 x144 →
  (sn S150 < 999998) ∧
  ∀ x152 : Nat, x152 = sn S150 + 1 →
  ∀ S153 : AS, S153 = na S150 22 500 500 →
  ∀ F154 : AF, F154 = nF S150 F146 →
  ∀ G155 : AG, G155 = nG S150 G147 →
  (sK S153 a0 = 10) ∧
  (x152 ≤ sn S153) ∧
  ∀ S158 : AS, S158 = ru S153 a0 33 x152 →
  (sK S158 a0 = 10) ∧
  ∀ F160 : AF, F160 = fu F154 a0 38 (-1) →
  (sn S158 < 999998) ∧
  ∀ x162 : Nat, x162 = sn S158 + 1 →
  ∀ S163 : AS, S163 = na S158 21 210 210 →
  ∀ F164 : AF, F164 = nF S158 F160 →
  ∀ G165 : AG, G165 = nG S158 G155 →
  (sK S163 a0 = 10) ∧
  (x162 ≤ sn S163) ∧
  ∀ S168 : AS, S168 = ru S163 a0 40 x162 →
  (sn S168 < 999998) ∧
  ∀ x170 : Nat, x170 = sn S168 + 1 →
  ∀ S171 : AS, S171 = na S168 23 48 48 →
  ∀ F172 : AF, F172 = nF S168 F164 →
  ∀ G173 : AG, G173 = nG S168 G165 →
  (sK S171 a0 = 10) ∧
  (x170 ≤ sn S171) ∧
  ∀ S176 : AS, S176 = ru S171 a0 47 x170 →
  (sn S176 < 999998) ∧
  ∀ x178 : Nat, x178 = sn S176 + 1 →
  ∀ S179 : AS, S179 = na S176 20 98 98 →
  ∀ F180 : AF, F180 = nF S176 F172 →
  ∀ G181 : AG, G181 = nG S176 G173 →
  (sK S179 a0 = 10) ∧
  (x178 ≤ sn S179) ∧
  ∀ S184 : AS, S184 = ru S179 a0 48 x178 →
  (sn S184 < 999998) ∧
  ∀ x186 : Nat, x186 = sn S184 + 1 →
  ∀ S187 : AS, S187 = na S184 20 98 98 →
  ∀ F188 : AF, F188 = nF S184 F180 →
  ∀ G189 : AG, G189 = nG S184 G181 →
  (sK S187 a0 = 10) ∧
  (x186 ≤ sn S187) ∧
  ∀ S192 : AS, S192 = ru S187 a0 49 x186 →
  (sn S192 < 999998) ∧
  ∀ x194 : Nat, x194 = sn S192 + 1 →
  ∀ S195 : AS, S195 = na S192 21 48 48 →
  ∀ F196 : AF, F196 = nF S192 F188 →
  ∀ G197 : AG, G197 = nG S192 G189 →
  (sK S195 a0 = 10) ∧
  (x194 ≤ sn S195) ∧
  ∀ S200 : AS, S200 = ru S195 a0 50 x194 →
  (1 ≤ d) ∧
  (sK S200 a0 = 10) ∧
  Ok (d - 1) MX10_begins [vR a0] S200 F196 G197 (fun w202 S203 F204 G205 =>
  w202 = none ∧
  Q none S203 F204 G205)
theorem R_X10_init_0 {d : Nat} {S : AS} {F : AF} {G : AG} {Q : AQ} {a0 : Nat} (h : V_X10_init_0 d S F G Q a0) : Go d MX10_init 0 [some (vR a0)] [] S F G Q := by
  unfold V_X10_init_0 at h
  refine go_aload_n (show decode cX10_init 0 = .ok (.aload_n 0, 1) by decide +kernel) (by rfl) ?_
  obtain ⟨q1, h⟩ := h
  obtain ⟨q2, h⟩ := h
  refine go_objInit (show decode cX10_init 1 = .ok (.invokespecial 7, 3) by decide +kernel) ml_X10_7 oi_1 oi_2 q2 (Nat.le_of_ble_eq_true rfl) q1 ?_
  refine go_aload_n (show decode cX10_init 4 = .ok (.aload_n 0, 1) by decide +kernel) (by rfl) ?_
  refine go_iconst (show decode cX10_init 5 = .ok (.iconst 1, 1) by decide +kernel) (by decide) ?_
  obtain ⟨q3, h⟩ := h
  refine go_putI (show decode cX10_init 6 = .ok (.putfield 13, 3) by decide +kernel) fl_X10_13 rfl (Or.inl rfl) q3 ?_
  obtain ⟨F4, F4e⟩ : ∃ F4 : AF, F4 = fu F a0 1 1 := ⟨_, rfl⟩
  have h := h F4 F4e
  rw [← F4e]
  refine go_aload_n (show decode cX10_init 9 = .ok (.aload_n 0, 1) by decide +kernel) (by rfl) ?_
  refine go_iconst (show decode cX10_init 10 = .ok (.iconst 1, 1) by decide +kernel) (by decide) ?_
  refine go_putI (show decode cX10_init 11 = .ok (.putfield 16, 3) by decide +kernel) fl_X10_16 rfl (Or.inl rfl) q3 ?_
  obtain ⟨F5, F5e⟩ : ∃ F5 : AF, F5 = fu F4 a0 2 1 := ⟨_, rfl⟩
  have h := h F5 F5e
  rw [← F5e]
  refine go_aload_n (show decode cX10_init 14 = .ok (.aload_n 0, 1) by decide +kernel) (by rfl) ?_
  refine go_ldc2 (show decode cX10_init 15 = .ok (.ldc2_w 19, 3) by decide +kernel) lc_X10_19 (by decide) ?_
  refine go_putJ (show decode cX10_init 18 = .ok (.putfield 21, 3) by decide +kernel) fl_X10_21 rfl (Or.inl rfl) q3 ?_
  obtain ⟨F6, F6e⟩ : ∃ F6 : AF, F6 = fu F5 a0 3 1000000000000 := ⟨_, rfl⟩
  have h := h F6 F6e
  rw [← F6e]
  refine go_aload_n (show decode cX10_init 21 = .ok (.aload_n 0, 1) by decide +kernel) (by rfl) ?_
  refine go_bipush (show decode cX10_init 22 = .ok (.bipush 96, 2) by decide +kernel) (by decide) ?_
  obtain ⟨q7, h⟩ := h
  refine go_newa (K := 20) (show decode cX10_init 24 = .ok (.newarray .int, 2) by decide +kernel) rfl (by decide) ar_20 (by decide) (by decide) q7 ?_
  show Go d MX10_init 26 [some (vR a0)] [vR (sn S + 1), vR a0] (na S 20 96 96) (nF S F6) (nG S G) Q
  obtain ⟨x8, x8e⟩ : ∃ x8 : Nat, x8 = sn S + 1 := ⟨_, rfl⟩
  have h := h x8 x8e
  rw [← x8e]
  obtain ⟨S9, S9e⟩ : ∃ S9 : AS, S9 = na S 20 96 96 := ⟨_, rfl⟩
  have h := h S9 S9e
  rw [← S9e]
  obtain ⟨F10, F10e⟩ : ∃ F10 : AF, F10 = nF S F6 := ⟨_, rfl⟩
  have h := h F10 F10e
  rw [← F10e]
  obtain ⟨G11, G11e⟩ : ∃ G11 : AG, G11 = nG S G := ⟨_, rfl⟩
  have h := h G11 G11e
  rw [← G11e]
  obtain ⟨q12, h⟩ := h
  obtain ⟨q13, h⟩ := h
  refine go_putR (show decode cX10_init 26 = .ok (.putfield 25, 3) by decide +kernel) fl_X10_25 rfl (Or.inr ⟨rfl, rfl⟩) q12 q13 ?_
  obtain ⟨S14, S14e⟩ : ∃ S14 : AS, S14 = ru S9 a0 4 x8 := ⟨_, rfl⟩
  have h := h S14 S14e
  rw [← S14e]
  refine go_aload_n (show decode cX10_init 29 = .ok (.aload_n 0, 1) by decide +kernel) (by rfl) ?_
  refine go_iconst (show decode cX10_init 30 = .ok (.iconst 2, 1) by decide +kernel) (by decide) ?_
  obtain ⟨q15, h⟩ := h
  refine go_newa (K := 20) (show decode cX10_init 31 = .ok (.newarray .int, 2) by decide +kernel) rfl (by decide) ar_20 (by decide) (by decide) q15 ?_
  show Go d MX10_init 33 [some (vR a0)] [vR (sn S14 + 1), vR a0] (na S14 20 2 2) (nF S14 F10) (nG S14 G11) Q
  obtain ⟨x16, x16e⟩ : ∃ x16 : Nat, x16 = sn S14 + 1 := ⟨_, rfl⟩
  have h := h x16 x16e
  rw [← x16e]
  obtain ⟨S17, S17e⟩ : ∃ S17 : AS, S17 = na S14 20 2 2 := ⟨_, rfl⟩
  have h := h S17 S17e
  rw [← S17e]
  obtain ⟨F18, F18e⟩ : ∃ F18 : AF, F18 = nF S14 F10 := ⟨_, rfl⟩
  have h := h F18 F18e
  rw [← F18e]
  obtain ⟨G19, G19e⟩ : ∃ G19 : AG, G19 = nG S14 G11 := ⟨_, rfl⟩
  have h := h G19 G19e
  rw [← G19e]
  obtain ⟨q20, h⟩ := h
  obtain ⟨q21, h⟩ := h
  refine go_putR (show decode cX10_init 33 = .ok (.putfield 29, 3) by decide +kernel) fl_X10_29 rfl (Or.inr ⟨rfl, rfl⟩) q20 q21 ?_
  obtain ⟨S22, S22e⟩ : ∃ S22 : AS, S22 = ru S17 a0 5 x16 := ⟨_, rfl⟩
  have h := h S22 S22e
  rw [← S22e]
  refine go_aload_n (show decode cX10_init 36 = .ok (.aload_n 0, 1) by decide +kernel) (by rfl) ?_
  refine go_iconst (show decode cX10_init 37 = .ok (.iconst 2, 1) by decide +kernel) (by decide) ?_
  obtain ⟨q23, h⟩ := h
  refine go_newa (K := 20) (show decode cX10_init 38 = .ok (.newarray .int, 2) by decide +kernel) rfl (by decide) ar_20 (by decide) (by decide) q23 ?_
  show Go d MX10_init 40 [some (vR a0)] [vR (sn S22 + 1), vR a0] (na S22 20 2 2) (nF S22 F18) (nG S22 G19) Q
  obtain ⟨x24, x24e⟩ : ∃ x24 : Nat, x24 = sn S22 + 1 := ⟨_, rfl⟩
  have h := h x24 x24e
  rw [← x24e]
  obtain ⟨S25, S25e⟩ : ∃ S25 : AS, S25 = na S22 20 2 2 := ⟨_, rfl⟩
  have h := h S25 S25e
  rw [← S25e]
  obtain ⟨F26, F26e⟩ : ∃ F26 : AF, F26 = nF S22 F18 := ⟨_, rfl⟩
  have h := h F26 F26e
  rw [← F26e]
  obtain ⟨G27, G27e⟩ : ∃ G27 : AG, G27 = nG S22 G19 := ⟨_, rfl⟩
  have h := h G27 G27e
  rw [← G27e]
  obtain ⟨q28, h⟩ := h
  obtain ⟨q29, h⟩ := h
  refine go_putR (show decode cX10_init 40 = .ok (.putfield 32, 3) by decide +kernel) fl_X10_32 rfl (Or.inr ⟨rfl, rfl⟩) q28 q29 ?_
  obtain ⟨S30, S30e⟩ : ∃ S30 : AS, S30 = ru S25 a0 6 x24 := ⟨_, rfl⟩
  have h := h S30 S30e
  rw [← S30e]
  refine go_aload_n (show decode cX10_init 43 = .ok (.aload_n 0, 1) by decide +kernel) (by rfl) ?_
  refine go_sipush (show decode cX10_init 44 = .ok (.sipush 6912, 3) by decide +kernel) (by decide) ?_
  obtain ⟨q31, h⟩ := h
  refine go_newa (K := 21) (show decode cX10_init 47 = .ok (.newarray .long, 2) by decide +kernel) rfl (by decide) ar_21 (by decide) (by decide) q31 ?_
  show Go d MX10_init 49 [some (vR a0)] [vR (sn S30 + 1), vR a0] (na S30 21 6912 6912) (nF S30 F26) (nG S30 G27) Q
  obtain ⟨x32, x32e⟩ : ∃ x32 : Nat, x32 = sn S30 + 1 := ⟨_, rfl⟩
  have h := h x32 x32e
  rw [← x32e]
  obtain ⟨S33, S33e⟩ : ∃ S33 : AS, S33 = na S30 21 6912 6912 := ⟨_, rfl⟩
  have h := h S33 S33e
  rw [← S33e]
  obtain ⟨F34, F34e⟩ : ∃ F34 : AF, F34 = nF S30 F26 := ⟨_, rfl⟩
  have h := h F34 F34e
  rw [← F34e]
  obtain ⟨G35, G35e⟩ : ∃ G35 : AG, G35 = nG S30 G27 := ⟨_, rfl⟩
  have h := h G35 G35e
  rw [← G35e]
  obtain ⟨q36, h⟩ := h
  obtain ⟨q37, h⟩ := h
  refine go_putR (show decode cX10_init 49 = .ok (.putfield 35, 3) by decide +kernel) fl_X10_35 rfl (Or.inr ⟨rfl, rfl⟩) q36 q37 ?_
  obtain ⟨S38, S38e⟩ : ∃ S38 : AS, S38 = ru S33 a0 7 x32 := ⟨_, rfl⟩
  have h := h S38 S38e
  rw [← S38e]
  refine go_aload_n (show decode cX10_init 52 = .ok (.aload_n 0, 1) by decide +kernel) (by rfl) ?_
  refine go_ldc (show decode cX10_init 53 = .ok (.ldc 39, 2) by decide +kernel) ic_X10_39 (by decide) ?_
  obtain ⟨q39, h⟩ := h
  refine go_newa (K := 21) (show decode cX10_init 55 = .ok (.newarray .long, 2) by decide +kernel) rfl (by decide) ar_21 (by decide) (by decide) q39 ?_
  show Go d MX10_init 57 [some (vR a0)] [vR (sn S38 + 1), vR a0] (na S38 21 55296 55296) (nF S38 F34) (nG S38 G35) Q
  obtain ⟨x40, x40e⟩ : ∃ x40 : Nat, x40 = sn S38 + 1 := ⟨_, rfl⟩
  have h := h x40 x40e
  rw [← x40e]
  obtain ⟨S41, S41e⟩ : ∃ S41 : AS, S41 = na S38 21 55296 55296 := ⟨_, rfl⟩
  have h := h S41 S41e
  rw [← S41e]
  obtain ⟨F42, F42e⟩ : ∃ F42 : AF, F42 = nF S38 F34 := ⟨_, rfl⟩
  have h := h F42 F42e
  rw [← F42e]
  obtain ⟨G43, G43e⟩ : ∃ G43 : AG, G43 = nG S38 G35 := ⟨_, rfl⟩
  have h := h G43 G43e
  rw [← G43e]
  obtain ⟨q44, h⟩ := h
  obtain ⟨q45, h⟩ := h
  refine go_putR (show decode cX10_init 57 = .ok (.putfield 40, 3) by decide +kernel) fl_X10_40 rfl (Or.inr ⟨rfl, rfl⟩) q44 q45 ?_
  obtain ⟨S46, S46e⟩ : ∃ S46 : AS, S46 = ru S41 a0 8 x40 := ⟨_, rfl⟩
  have h := h S46 S46e
  rw [← S46e]
  refine go_aload_n (show decode cX10_init 60 = .ok (.aload_n 0, 1) by decide +kernel) (by rfl) ?_
  refine go_iconst (show decode cX10_init 61 = .ok (.iconst 3, 1) by decide +kernel) (by decide) ?_
  obtain ⟨q47, h⟩ := h
  refine go_newa (K := 21) (show decode cX10_init 62 = .ok (.newarray .long, 2) by decide +kernel) rfl (by decide) ar_21 (by decide) (by decide) q47 ?_
  show Go d MX10_init 64 [some (vR a0)] [vR (sn S46 + 1), vR a0] (na S46 21 3 3) (nF S46 F42) (nG S46 G43) Q
  obtain ⟨x48, x48e⟩ : ∃ x48 : Nat, x48 = sn S46 + 1 := ⟨_, rfl⟩
  have h := h x48 x48e
  rw [← x48e]
  obtain ⟨S49, S49e⟩ : ∃ S49 : AS, S49 = na S46 21 3 3 := ⟨_, rfl⟩
  have h := h S49 S49e
  rw [← S49e]
  obtain ⟨F50, F50e⟩ : ∃ F50 : AF, F50 = nF S46 F42 := ⟨_, rfl⟩
  have h := h F50 F50e
  rw [← F50e]
  obtain ⟨G51, G51e⟩ : ∃ G51 : AG, G51 = nG S46 G43 := ⟨_, rfl⟩
  have h := h G51 G51e
  rw [← G51e]
  obtain ⟨q52, h⟩ := h
  obtain ⟨q53, h⟩ := h
  refine go_putR (show decode cX10_init 64 = .ok (.putfield 43, 3) by decide +kernel) fl_X10_43 rfl (Or.inr ⟨rfl, rfl⟩) q52 q53 ?_
  obtain ⟨S54, S54e⟩ : ∃ S54 : AS, S54 = ru S49 a0 9 x48 := ⟨_, rfl⟩
  have h := h S54 S54e
  rw [← S54e]
  refine go_aload_n (show decode cX10_init 67 = .ok (.aload_n 0, 1) by decide +kernel) (by rfl) ?_
  refine go_bipush (show decode cX10_init 68 = .ok (.bipush 24, 2) by decide +kernel) (by decide) ?_
  obtain ⟨q55, h⟩ := h
  refine go_newa (K := 21) (show decode cX10_init 70 = .ok (.newarray .long, 2) by decide +kernel) rfl (by decide) ar_21 (by decide) (by decide) q55 ?_
  show Go d MX10_init 72 [some (vR a0)] [vR (sn S54 + 1), vR a0] (na S54 21 24 24) (nF S54 F50) (nG S54 G51) Q
  obtain ⟨x56, x56e⟩ : ∃ x56 : Nat, x56 = sn S54 + 1 := ⟨_, rfl⟩
  have h := h x56 x56e
  rw [← x56e]
  obtain ⟨S57, S57e⟩ : ∃ S57 : AS, S57 = na S54 21 24 24 := ⟨_, rfl⟩
  have h := h S57 S57e
  rw [← S57e]
  obtain ⟨F58, F58e⟩ : ∃ F58 : AF, F58 = nF S54 F50 := ⟨_, rfl⟩
  have h := h F58 F58e
  rw [← F58e]
  obtain ⟨G59, G59e⟩ : ∃ G59 : AG, G59 = nG S54 G51 := ⟨_, rfl⟩
  have h := h G59 G59e
  rw [← G59e]
  obtain ⟨q60, h⟩ := h
  obtain ⟨q61, h⟩ := h
  refine go_putR (show decode cX10_init 72 = .ok (.putfield 46, 3) by decide +kernel) fl_X10_46 rfl (Or.inr ⟨rfl, rfl⟩) q60 q61 ?_
  obtain ⟨S62, S62e⟩ : ∃ S62 : AS, S62 = ru S57 a0 10 x56 := ⟨_, rfl⟩
  have h := h S62 S62e
  rw [← S62e]
  refine go_aload_n (show decode cX10_init 75 = .ok (.aload_n 0, 1) by decide +kernel) (by rfl) ?_
  refine go_bipush (show decode cX10_init 76 = .ok (.bipush 8, 2) by decide +kernel) (by decide) ?_
  obtain ⟨q63, h⟩ := h
  refine go_newa (K := 20) (show decode cX10_init 78 = .ok (.newarray .int, 2) by decide +kernel) rfl (by decide) ar_20 (by decide) (by decide) q63 ?_
  show Go d MX10_init 80 [some (vR a0)] [vR (sn S62 + 1), vR a0] (na S62 20 8 8) (nF S62 F58) (nG S62 G59) Q
  obtain ⟨x64, x64e⟩ : ∃ x64 : Nat, x64 = sn S62 + 1 := ⟨_, rfl⟩
  have h := h x64 x64e
  rw [← x64e]
  obtain ⟨S65, S65e⟩ : ∃ S65 : AS, S65 = na S62 20 8 8 := ⟨_, rfl⟩
  have h := h S65 S65e
  rw [← S65e]
  obtain ⟨F66, F66e⟩ : ∃ F66 : AF, F66 = nF S62 F58 := ⟨_, rfl⟩
  have h := h F66 F66e
  rw [← F66e]
  obtain ⟨G67, G67e⟩ : ∃ G67 : AG, G67 = nG S62 G59 := ⟨_, rfl⟩
  have h := h G67 G67e
  rw [← G67e]
  obtain ⟨q68, h⟩ := h
  obtain ⟨q69, h⟩ := h
  refine go_putR (show decode cX10_init 80 = .ok (.putfield 49, 3) by decide +kernel) fl_X10_49 rfl (Or.inr ⟨rfl, rfl⟩) q68 q69 ?_
  obtain ⟨S70, S70e⟩ : ∃ S70 : AS, S70 = ru S65 a0 12 x64 := ⟨_, rfl⟩
  have h := h S70 S70e
  rw [← S70e]
  refine go_aload_n (show decode cX10_init 83 = .ok (.aload_n 0, 1) by decide +kernel) (by rfl) ?_
  refine go_sipush (show decode cX10_init 84 = .ok (.sipush 280, 3) by decide +kernel) (by decide) ?_
  obtain ⟨q71, h⟩ := h
  refine go_newa (K := 21) (show decode cX10_init 87 = .ok (.newarray .long, 2) by decide +kernel) rfl (by decide) ar_21 (by decide) (by decide) q71 ?_
  show Go d MX10_init 89 [some (vR a0)] [vR (sn S70 + 1), vR a0] (na S70 21 280 280) (nF S70 F66) (nG S70 G67) Q
  obtain ⟨x72, x72e⟩ : ∃ x72 : Nat, x72 = sn S70 + 1 := ⟨_, rfl⟩
  have h := h x72 x72e
  rw [← x72e]
  obtain ⟨S73, S73e⟩ : ∃ S73 : AS, S73 = na S70 21 280 280 := ⟨_, rfl⟩
  have h := h S73 S73e
  rw [← S73e]
  obtain ⟨F74, F74e⟩ : ∃ F74 : AF, F74 = nF S70 F66 := ⟨_, rfl⟩
  have h := h F74 F74e
  rw [← F74e]
  obtain ⟨G75, G75e⟩ : ∃ G75 : AG, G75 = nG S70 G67 := ⟨_, rfl⟩
  have h := h G75 G75e
  rw [← G75e]
  obtain ⟨q76, h⟩ := h
  obtain ⟨q77, h⟩ := h
  refine go_putR (show decode cX10_init 89 = .ok (.putfield 52, 3) by decide +kernel) fl_X10_52 rfl (Or.inr ⟨rfl, rfl⟩) q76 q77 ?_
  obtain ⟨S78, S78e⟩ : ∃ S78 : AS, S78 = ru S73 a0 13 x72 := ⟨_, rfl⟩
  have h := h S78 S78e
  rw [← S78e]
  refine go_aload_n (show decode cX10_init 92 = .ok (.aload_n 0, 1) by decide +kernel) (by rfl) ?_
  refine go_bipush (show decode cX10_init 93 = .ok (.bipush 24, 2) by decide +kernel) (by decide) ?_
  obtain ⟨q79, h⟩ := h
  refine go_newa (K := 20) (show decode cX10_init 95 = .ok (.newarray .int, 2) by decide +kernel) rfl (by decide) ar_20 (by decide) (by decide) q79 ?_
  show Go d MX10_init 97 [some (vR a0)] [vR (sn S78 + 1), vR a0] (na S78 20 24 24) (nF S78 F74) (nG S78 G75) Q
  obtain ⟨x80, x80e⟩ : ∃ x80 : Nat, x80 = sn S78 + 1 := ⟨_, rfl⟩
  have h := h x80 x80e
  rw [← x80e]
  obtain ⟨S81, S81e⟩ : ∃ S81 : AS, S81 = na S78 20 24 24 := ⟨_, rfl⟩
  have h := h S81 S81e
  rw [← S81e]
  obtain ⟨F82, F82e⟩ : ∃ F82 : AF, F82 = nF S78 F74 := ⟨_, rfl⟩
  have h := h F82 F82e
  rw [← F82e]
  obtain ⟨G83, G83e⟩ : ∃ G83 : AG, G83 = nG S78 G75 := ⟨_, rfl⟩
  have h := h G83 G83e
  rw [← G83e]
  obtain ⟨q84, h⟩ := h
  obtain ⟨q85, h⟩ := h
  refine go_putR (show decode cX10_init 97 = .ok (.putfield 55, 3) by decide +kernel) fl_X10_55 rfl (Or.inr ⟨rfl, rfl⟩) q84 q85 ?_
  obtain ⟨S86, S86e⟩ : ∃ S86 : AS, S86 = ru S81 a0 15 x80 := ⟨_, rfl⟩
  have h := h S86 S86e
  rw [← S86e]
  refine go_aload_n (show decode cX10_init 100 = .ok (.aload_n 0, 1) by decide +kernel) (by rfl) ?_
  refine go_bipush (show decode cX10_init 101 = .ok (.bipush 6, 2) by decide +kernel) (by decide) ?_
  obtain ⟨q87, h⟩ := h
  refine go_newa (K := 21) (show decode cX10_init 103 = .ok (.newarray .long, 2) by decide +kernel) rfl (by decide) ar_21 (by decide) (by decide) q87 ?_
  show Go d MX10_init 105 [some (vR a0)] [vR (sn S86 + 1), vR a0] (na S86 21 6 6) (nF S86 F82) (nG S86 G83) Q
  obtain ⟨x88, x88e⟩ : ∃ x88 : Nat, x88 = sn S86 + 1 := ⟨_, rfl⟩
  have h := h x88 x88e
  rw [← x88e]
  obtain ⟨S89, S89e⟩ : ∃ S89 : AS, S89 = na S86 21 6 6 := ⟨_, rfl⟩
  have h := h S89 S89e
  rw [← S89e]
  obtain ⟨F90, F90e⟩ : ∃ F90 : AF, F90 = nF S86 F82 := ⟨_, rfl⟩
  have h := h F90 F90e
  rw [← F90e]
  obtain ⟨G91, G91e⟩ : ∃ G91 : AG, G91 = nG S86 G83 := ⟨_, rfl⟩
  have h := h G91 G91e
  rw [← G91e]
  obtain ⟨q92, h⟩ := h
  obtain ⟨q93, h⟩ := h
  refine go_putR (show decode cX10_init 105 = .ok (.putfield 58, 3) by decide +kernel) fl_X10_58 rfl (Or.inr ⟨rfl, rfl⟩) q92 q93 ?_
  obtain ⟨S94, S94e⟩ : ∃ S94 : AS, S94 = ru S89 a0 16 x88 := ⟨_, rfl⟩
  have h := h S94 S94e
  rw [← S94e]
  refine go_aload_n (show decode cX10_init 108 = .ok (.aload_n 0, 1) by decide +kernel) (by rfl) ?_
  refine go_bipush (show decode cX10_init 109 = .ok (.bipush 6, 2) by decide +kernel) (by decide) ?_
  obtain ⟨q95, h⟩ := h
  refine go_newa (K := 23) (show decode cX10_init 111 = .ok (.newarray .boolean, 2) by decide +kernel) rfl (by decide) ar_23 (by decide) (by decide) q95 ?_
  show Go d MX10_init 113 [some (vR a0)] [vR (sn S94 + 1), vR a0] (na S94 23 6 6) (nF S94 F90) (nG S94 G91) Q
  obtain ⟨x96, x96e⟩ : ∃ x96 : Nat, x96 = sn S94 + 1 := ⟨_, rfl⟩
  have h := h x96 x96e
  rw [← x96e]
  obtain ⟨S97, S97e⟩ : ∃ S97 : AS, S97 = na S94 23 6 6 := ⟨_, rfl⟩
  have h := h S97 S97e
  rw [← S97e]
  obtain ⟨F98, F98e⟩ : ∃ F98 : AF, F98 = nF S94 F90 := ⟨_, rfl⟩
  have h := h F98 F98e
  rw [← F98e]
  obtain ⟨G99, G99e⟩ : ∃ G99 : AG, G99 = nG S94 G91 := ⟨_, rfl⟩
  have h := h G99 G99e
  rw [← G99e]
  obtain ⟨q100, h⟩ := h
  obtain ⟨q101, h⟩ := h
  refine go_putR (show decode cX10_init 113 = .ok (.putfield 61, 3) by decide +kernel) fl_X10_61 rfl (Or.inr ⟨rfl, rfl⟩) q100 q101 ?_
  obtain ⟨S102, S102e⟩ : ∃ S102 : AS, S102 = ru S97 a0 17 x96 := ⟨_, rfl⟩
  have h := h S102 S102e
  rw [← S102e]
  refine go_aload_n (show decode cX10_init 116 = .ok (.aload_n 0, 1) by decide +kernel) (by rfl) ?_
  refine go_iconst (show decode cX10_init 117 = .ok (.iconst 2, 1) by decide +kernel) (by decide) ?_
  obtain ⟨q103, h⟩ := h
  refine go_newa (K := 20) (show decode cX10_init 118 = .ok (.newarray .int, 2) by decide +kernel) rfl (by decide) ar_20 (by decide) (by decide) q103 ?_
  show Go d MX10_init 120 [some (vR a0)] [vR (sn S102 + 1), vR a0] (na S102 20 2 2) (nF S102 F98) (nG S102 G99) Q
  obtain ⟨x104, x104e⟩ : ∃ x104 : Nat, x104 = sn S102 + 1 := ⟨_, rfl⟩
  have h := h x104 x104e
  rw [← x104e]
  obtain ⟨S105, S105e⟩ : ∃ S105 : AS, S105 = na S102 20 2 2 := ⟨_, rfl⟩
  have h := h S105 S105e
  rw [← S105e]
  obtain ⟨F106, F106e⟩ : ∃ F106 : AF, F106 = nF S102 F98 := ⟨_, rfl⟩
  have h := h F106 F106e
  rw [← F106e]
  obtain ⟨G107, G107e⟩ : ∃ G107 : AG, G107 = nG S102 G99 := ⟨_, rfl⟩
  have h := h G107 G107e
  rw [← G107e]
  obtain ⟨q108, h⟩ := h
  obtain ⟨q109, h⟩ := h
  refine go_putR (show decode cX10_init 120 = .ok (.putfield 65, 3) by decide +kernel) fl_X10_65 rfl (Or.inr ⟨rfl, rfl⟩) q108 q109 ?_
  obtain ⟨S110, S110e⟩ : ∃ S110 : AS, S110 = ru S105 a0 18 x104 := ⟨_, rfl⟩
  have h := h S110 S110e
  rw [← S110e]
  refine go_aload_n (show decode cX10_init 123 = .ok (.aload_n 0, 1) by decide +kernel) (by rfl) ?_
  refine go_bipush (show decode cX10_init 124 = .ok (.bipush 64, 2) by decide +kernel) (by decide) ?_
  obtain ⟨q111, h⟩ := h
  refine go_newa (K := 20) (show decode cX10_init 126 = .ok (.newarray .int, 2) by decide +kernel) rfl (by decide) ar_20 (by decide) (by decide) q111 ?_
  show Go d MX10_init 128 [some (vR a0)] [vR (sn S110 + 1), vR a0] (na S110 20 64 64) (nF S110 F106) (nG S110 G107) Q
  obtain ⟨x112, x112e⟩ : ∃ x112 : Nat, x112 = sn S110 + 1 := ⟨_, rfl⟩
  have h := h x112 x112e
  rw [← x112e]
  obtain ⟨S113, S113e⟩ : ∃ S113 : AS, S113 = na S110 20 64 64 := ⟨_, rfl⟩
  have h := h S113 S113e
  rw [← S113e]
  obtain ⟨F114, F114e⟩ : ∃ F114 : AF, F114 = nF S110 F106 := ⟨_, rfl⟩
  have h := h F114 F114e
  rw [← F114e]
  obtain ⟨G115, G115e⟩ : ∃ G115 : AG, G115 = nG S110 G107 := ⟨_, rfl⟩
  have h := h G115 G115e
  rw [← G115e]
  obtain ⟨q116, h⟩ := h
  obtain ⟨q117, h⟩ := h
  refine go_putR (show decode cX10_init 128 = .ok (.putfield 68, 3) by decide +kernel) fl_X10_68 rfl (Or.inr ⟨rfl, rfl⟩) q116 q117 ?_
  obtain ⟨S118, S118e⟩ : ∃ S118 : AS, S118 = ru S113 a0 19 x112 := ⟨_, rfl⟩
  have h := h S118 S118e
  rw [← S118e]
  refine go_aload_n (show decode cX10_init 131 = .ok (.aload_n 0, 1) by decide +kernel) (by rfl) ?_
  refine go_bipush (show decode cX10_init 132 = .ok (.bipush 96, 2) by decide +kernel) (by decide) ?_
  obtain ⟨q119, h⟩ := h
  refine go_newa (K := 20) (show decode cX10_init 134 = .ok (.newarray .int, 2) by decide +kernel) rfl (by decide) ar_20 (by decide) (by decide) q119 ?_
  show Go d MX10_init 136 [some (vR a0)] [vR (sn S118 + 1), vR a0] (na S118 20 96 96) (nF S118 F114) (nG S118 G115) Q
  obtain ⟨x120, x120e⟩ : ∃ x120 : Nat, x120 = sn S118 + 1 := ⟨_, rfl⟩
  have h := h x120 x120e
  rw [← x120e]
  obtain ⟨S121, S121e⟩ : ∃ S121 : AS, S121 = na S118 20 96 96 := ⟨_, rfl⟩
  have h := h S121 S121e
  rw [← S121e]
  obtain ⟨F122, F122e⟩ : ∃ F122 : AF, F122 = nF S118 F114 := ⟨_, rfl⟩
  have h := h F122 F122e
  rw [← F122e]
  obtain ⟨G123, G123e⟩ : ∃ G123 : AG, G123 = nG S118 G115 := ⟨_, rfl⟩
  have h := h G123 G123e
  rw [← G123e]
  obtain ⟨q124, h⟩ := h
  obtain ⟨q125, h⟩ := h
  refine go_putR (show decode cX10_init 136 = .ok (.putfield 71, 3) by decide +kernel) fl_X10_71 rfl (Or.inr ⟨rfl, rfl⟩) q124 q125 ?_
  obtain ⟨S126, S126e⟩ : ∃ S126 : AS, S126 = ru S121 a0 28 x120 := ⟨_, rfl⟩
  have h := h S126 S126e
  rw [← S126e]
  refine go_aload_n (show decode cX10_init 139 = .ok (.aload_n 0, 1) by decide +kernel) (by rfl) ?_
  refine go_iconst (show decode cX10_init 140 = .ok (.iconst 2, 1) by decide +kernel) (by decide) ?_
  obtain ⟨q127, h⟩ := h
  refine go_newa (K := 20) (show decode cX10_init 141 = .ok (.newarray .int, 2) by decide +kernel) rfl (by decide) ar_20 (by decide) (by decide) q127 ?_
  show Go d MX10_init 143 [some (vR a0)] [vR (sn S126 + 1), vR a0] (na S126 20 2 2) (nF S126 F122) (nG S126 G123) Q
  obtain ⟨x128, x128e⟩ : ∃ x128 : Nat, x128 = sn S126 + 1 := ⟨_, rfl⟩
  have h := h x128 x128e
  rw [← x128e]
  obtain ⟨S129, S129e⟩ : ∃ S129 : AS, S129 = na S126 20 2 2 := ⟨_, rfl⟩
  have h := h S129 S129e
  rw [← S129e]
  obtain ⟨F130, F130e⟩ : ∃ F130 : AF, F130 = nF S126 F122 := ⟨_, rfl⟩
  have h := h F130 F130e
  rw [← F130e]
  obtain ⟨G131, G131e⟩ : ∃ G131 : AG, G131 = nG S126 G123 := ⟨_, rfl⟩
  have h := h G131 G131e
  rw [← G131e]
  obtain ⟨q132, h⟩ := h
  obtain ⟨q133, h⟩ := h
  refine go_putR (show decode cX10_init 143 = .ok (.putfield 74, 3) by decide +kernel) fl_X10_74 rfl (Or.inr ⟨rfl, rfl⟩) q132 q133 ?_
  obtain ⟨S134, S134e⟩ : ∃ S134 : AS, S134 = ru S129 a0 29 x128 := ⟨_, rfl⟩
  have h := h S134 S134e
  rw [← S134e]
  refine go_aload_n (show decode cX10_init 146 = .ok (.aload_n 0, 1) by decide +kernel) (by rfl) ?_
  refine go_sipush (show decode cX10_init 147 = .ok (.sipush 2304, 3) by decide +kernel) (by decide) ?_
  obtain ⟨q135, h⟩ := h
  refine go_newa (K := 21) (show decode cX10_init 150 = .ok (.newarray .long, 2) by decide +kernel) rfl (by decide) ar_21 (by decide) (by decide) q135 ?_
  show Go d MX10_init 152 [some (vR a0)] [vR (sn S134 + 1), vR a0] (na S134 21 2304 2304) (nF S134 F130) (nG S134 G131) Q
  obtain ⟨x136, x136e⟩ : ∃ x136 : Nat, x136 = sn S134 + 1 := ⟨_, rfl⟩
  have h := h x136 x136e
  rw [← x136e]
  obtain ⟨S137, S137e⟩ : ∃ S137 : AS, S137 = na S134 21 2304 2304 := ⟨_, rfl⟩
  have h := h S137 S137e
  rw [← S137e]
  obtain ⟨F138, F138e⟩ : ∃ F138 : AF, F138 = nF S134 F130 := ⟨_, rfl⟩
  have h := h F138 F138e
  rw [← F138e]
  obtain ⟨G139, G139e⟩ : ∃ G139 : AG, G139 = nG S134 G131 := ⟨_, rfl⟩
  have h := h G139 G139e
  rw [← G139e]
  obtain ⟨q140, h⟩ := h
  obtain ⟨q141, h⟩ := h
  refine go_putR (show decode cX10_init 152 = .ok (.putfield 77, 3) by decide +kernel) fl_X10_77 rfl (Or.inr ⟨rfl, rfl⟩) q140 q141 ?_
  obtain ⟨S142, S142e⟩ : ∃ S142 : AS, S142 = ru S137 a0 30 x136 := ⟨_, rfl⟩
  have h := h S142 S142e
  rw [← S142e]
  refine go_aload_n (show decode cX10_init 155 = .ok (.aload_n 0, 1) by decide +kernel) (by rfl) ?_
  refine go_bipush (show decode cX10_init 156 = .ok (.bipush 64, 2) by decide +kernel) (by decide) ?_
  obtain ⟨q143, h⟩ := h
  refine go_newa (K := 20) (show decode cX10_init 158 = .ok (.newarray .int, 2) by decide +kernel) rfl (by decide) ar_20 (by decide) (by decide) q143 ?_
  show Go d MX10_init 160 [some (vR a0)] [vR (sn S142 + 1), vR a0] (na S142 20 64 64) (nF S142 F138) (nG S142 G139) Q
  obtain ⟨x144, x144e⟩ : ∃ x144 : Nat, x144 = sn S142 + 1 := ⟨_, rfl⟩
  have h := h x144 x144e
  rw [← x144e]
  obtain ⟨S145, S145e⟩ : ∃ S145 : AS, S145 = na S142 20 64 64 := ⟨_, rfl⟩
  have h := h S145 S145e
  rw [← S145e]
  obtain ⟨F146, F146e⟩ : ∃ F146 : AF, F146 = nF S142 F138 := ⟨_, rfl⟩
  have h := h F146 F146e
  rw [← F146e]
  obtain ⟨G147, G147e⟩ : ∃ G147 : AG, G147 = nG S142 G139 := ⟨_, rfl⟩
  have h := h G147 G147e
  rw [← G147e]
  obtain ⟨q148, h⟩ := h
  obtain ⟨q149, h⟩ := h
  refine go_putR (show decode cX10_init 160 = .ok (.putfield 80, 3) by decide +kernel) fl_X10_80 rfl (Or.inr ⟨rfl, rfl⟩) q148 q149 ?_
  obtain ⟨S150, S150e⟩ : ∃ S150 : AS, S150 = ru S145 a0 31 x144 := ⟨_, rfl⟩
  have h := h S150 S150e
  rw [← S150e]
  refine go_aload_n (show decode cX10_init 163 = .ok (.aload_n 0, 1) by decide +kernel) (by rfl) ?_
  refine go_sipush (show decode cX10_init 164 = .ok (.sipush 500, 3) by decide +kernel) (by decide) ?_
  obtain ⟨q151, h⟩ := h
  refine go_newa (K := 22) (show decode cX10_init 167 = .ok (.newarray .byte, 2) by decide +kernel) rfl (by decide) ar_22 (by decide) (by decide) q151 ?_
  show Go d MX10_init 169 [some (vR a0)] [vR (sn S150 + 1), vR a0] (na S150 22 500 500) (nF S150 F146) (nG S150 G147) Q
  obtain ⟨x152, x152e⟩ : ∃ x152 : Nat, x152 = sn S150 + 1 := ⟨_, rfl⟩
  have h := h x152 x152e
  rw [← x152e]
  obtain ⟨S153, S153e⟩ : ∃ S153 : AS, S153 = na S150 22 500 500 := ⟨_, rfl⟩
  have h := h S153 S153e
  rw [← S153e]
  obtain ⟨F154, F154e⟩ : ∃ F154 : AF, F154 = nF S150 F146 := ⟨_, rfl⟩
  have h := h F154 F154e
  rw [← F154e]
  obtain ⟨G155, G155e⟩ : ∃ G155 : AG, G155 = nG S150 G147 := ⟨_, rfl⟩
  have h := h G155 G155e
  rw [← G155e]
  obtain ⟨q156, h⟩ := h
  obtain ⟨q157, h⟩ := h
  refine go_putR (show decode cX10_init 169 = .ok (.putfield 83, 3) by decide +kernel) fl_X10_83 rfl (Or.inr ⟨rfl, rfl⟩) q156 q157 ?_
  obtain ⟨S158, S158e⟩ : ∃ S158 : AS, S158 = ru S153 a0 33 x152 := ⟨_, rfl⟩
  have h := h S158 S158e
  rw [← S158e]
  refine go_aload_n (show decode cX10_init 172 = .ok (.aload_n 0, 1) by decide +kernel) (by rfl) ?_
  refine go_iconst (show decode cX10_init 173 = .ok (.iconst (-1), 1) by decide +kernel) (by decide) ?_
  obtain ⟨q159, h⟩ := h
  refine go_putI (show decode cX10_init 174 = .ok (.putfield 87, 3) by decide +kernel) fl_X10_87 rfl (Or.inl rfl) q159 ?_
  obtain ⟨F160, F160e⟩ : ∃ F160 : AF, F160 = fu F154 a0 38 (-1) := ⟨_, rfl⟩
  have h := h F160 F160e
  rw [← F160e]
  refine go_aload_n (show decode cX10_init 177 = .ok (.aload_n 0, 1) by decide +kernel) (by rfl) ?_
  refine go_sipush (show decode cX10_init 178 = .ok (.sipush 210, 3) by decide +kernel) (by decide) ?_
  obtain ⟨q161, h⟩ := h
  refine go_newa (K := 21) (show decode cX10_init 181 = .ok (.newarray .long, 2) by decide +kernel) rfl (by decide) ar_21 (by decide) (by decide) q161 ?_
  show Go d MX10_init 183 [some (vR a0)] [vR (sn S158 + 1), vR a0] (na S158 21 210 210) (nF S158 F160) (nG S158 G155) Q
  obtain ⟨x162, x162e⟩ : ∃ x162 : Nat, x162 = sn S158 + 1 := ⟨_, rfl⟩
  have h := h x162 x162e
  rw [← x162e]
  obtain ⟨S163, S163e⟩ : ∃ S163 : AS, S163 = na S158 21 210 210 := ⟨_, rfl⟩
  have h := h S163 S163e
  rw [← S163e]
  obtain ⟨F164, F164e⟩ : ∃ F164 : AF, F164 = nF S158 F160 := ⟨_, rfl⟩
  have h := h F164 F164e
  rw [← F164e]
  obtain ⟨G165, G165e⟩ : ∃ G165 : AG, G165 = nG S158 G155 := ⟨_, rfl⟩
  have h := h G165 G165e
  rw [← G165e]
  obtain ⟨q166, h⟩ := h
  obtain ⟨q167, h⟩ := h
  refine go_putR (show decode cX10_init 183 = .ok (.putfield 90, 3) by decide +kernel) fl_X10_90 rfl (Or.inr ⟨rfl, rfl⟩) q166 q167 ?_
  obtain ⟨S168, S168e⟩ : ∃ S168 : AS, S168 = ru S163 a0 40 x162 := ⟨_, rfl⟩
  have h := h S168 S168e
  rw [← S168e]
  refine go_aload_n (show decode cX10_init 186 = .ok (.aload_n 0, 1) by decide +kernel) (by rfl) ?_
  refine go_bipush (show decode cX10_init 187 = .ok (.bipush 48, 2) by decide +kernel) (by decide) ?_
  obtain ⟨q169, h⟩ := h
  refine go_newa (K := 23) (show decode cX10_init 189 = .ok (.newarray .boolean, 2) by decide +kernel) rfl (by decide) ar_23 (by decide) (by decide) q169 ?_
  show Go d MX10_init 191 [some (vR a0)] [vR (sn S168 + 1), vR a0] (na S168 23 48 48) (nF S168 F164) (nG S168 G165) Q
  obtain ⟨x170, x170e⟩ : ∃ x170 : Nat, x170 = sn S168 + 1 := ⟨_, rfl⟩
  have h := h x170 x170e
  rw [← x170e]
  obtain ⟨S171, S171e⟩ : ∃ S171 : AS, S171 = na S168 23 48 48 := ⟨_, rfl⟩
  have h := h S171 S171e
  rw [← S171e]
  obtain ⟨F172, F172e⟩ : ∃ F172 : AF, F172 = nF S168 F164 := ⟨_, rfl⟩
  have h := h F172 F172e
  rw [← F172e]
  obtain ⟨G173, G173e⟩ : ∃ G173 : AG, G173 = nG S168 G165 := ⟨_, rfl⟩
  have h := h G173 G173e
  rw [← G173e]
  obtain ⟨q174, h⟩ := h
  obtain ⟨q175, h⟩ := h
  refine go_putR (show decode cX10_init 191 = .ok (.putfield 93, 3) by decide +kernel) fl_X10_93 rfl (Or.inr ⟨rfl, rfl⟩) q174 q175 ?_
  obtain ⟨S176, S176e⟩ : ∃ S176 : AS, S176 = ru S171 a0 47 x170 := ⟨_, rfl⟩
  have h := h S176 S176e
  rw [← S176e]
  refine go_aload_n (show decode cX10_init 194 = .ok (.aload_n 0, 1) by decide +kernel) (by rfl) ?_
  refine go_bipush (show decode cX10_init 195 = .ok (.bipush 98, 2) by decide +kernel) (by decide) ?_
  obtain ⟨q177, h⟩ := h
  refine go_newa (K := 20) (show decode cX10_init 197 = .ok (.newarray .int, 2) by decide +kernel) rfl (by decide) ar_20 (by decide) (by decide) q177 ?_
  show Go d MX10_init 199 [some (vR a0)] [vR (sn S176 + 1), vR a0] (na S176 20 98 98) (nF S176 F172) (nG S176 G173) Q
  obtain ⟨x178, x178e⟩ : ∃ x178 : Nat, x178 = sn S176 + 1 := ⟨_, rfl⟩
  have h := h x178 x178e
  rw [← x178e]
  obtain ⟨S179, S179e⟩ : ∃ S179 : AS, S179 = na S176 20 98 98 := ⟨_, rfl⟩
  have h := h S179 S179e
  rw [← S179e]
  obtain ⟨F180, F180e⟩ : ∃ F180 : AF, F180 = nF S176 F172 := ⟨_, rfl⟩
  have h := h F180 F180e
  rw [← F180e]
  obtain ⟨G181, G181e⟩ : ∃ G181 : AG, G181 = nG S176 G173 := ⟨_, rfl⟩
  have h := h G181 G181e
  rw [← G181e]
  obtain ⟨q182, h⟩ := h
  obtain ⟨q183, h⟩ := h
  refine go_putR (show decode cX10_init 199 = .ok (.putfield 96, 3) by decide +kernel) fl_X10_96 rfl (Or.inr ⟨rfl, rfl⟩) q182 q183 ?_
  obtain ⟨S184, S184e⟩ : ∃ S184 : AS, S184 = ru S179 a0 48 x178 := ⟨_, rfl⟩
  have h := h S184 S184e
  rw [← S184e]
  refine go_aload_n (show decode cX10_init 202 = .ok (.aload_n 0, 1) by decide +kernel) (by rfl) ?_
  refine go_bipush (show decode cX10_init 203 = .ok (.bipush 98, 2) by decide +kernel) (by decide) ?_
  obtain ⟨q185, h⟩ := h
  refine go_newa (K := 20) (show decode cX10_init 205 = .ok (.newarray .int, 2) by decide +kernel) rfl (by decide) ar_20 (by decide) (by decide) q185 ?_
  show Go d MX10_init 207 [some (vR a0)] [vR (sn S184 + 1), vR a0] (na S184 20 98 98) (nF S184 F180) (nG S184 G181) Q
  obtain ⟨x186, x186e⟩ : ∃ x186 : Nat, x186 = sn S184 + 1 := ⟨_, rfl⟩
  have h := h x186 x186e
  rw [← x186e]
  obtain ⟨S187, S187e⟩ : ∃ S187 : AS, S187 = na S184 20 98 98 := ⟨_, rfl⟩
  have h := h S187 S187e
  rw [← S187e]
  obtain ⟨F188, F188e⟩ : ∃ F188 : AF, F188 = nF S184 F180 := ⟨_, rfl⟩
  have h := h F188 F188e
  rw [← F188e]
  obtain ⟨G189, G189e⟩ : ∃ G189 : AG, G189 = nG S184 G181 := ⟨_, rfl⟩
  have h := h G189 G189e
  rw [← G189e]
  obtain ⟨q190, h⟩ := h
  obtain ⟨q191, h⟩ := h
  refine go_putR (show decode cX10_init 207 = .ok (.putfield 99, 3) by decide +kernel) fl_X10_99 rfl (Or.inr ⟨rfl, rfl⟩) q190 q191 ?_
  obtain ⟨S192, S192e⟩ : ∃ S192 : AS, S192 = ru S187 a0 49 x186 := ⟨_, rfl⟩
  have h := h S192 S192e
  rw [← S192e]
  refine go_aload_n (show decode cX10_init 210 = .ok (.aload_n 0, 1) by decide +kernel) (by rfl) ?_
  refine go_bipush (show decode cX10_init 211 = .ok (.bipush 48, 2) by decide +kernel) (by decide) ?_
  obtain ⟨q193, h⟩ := h
  refine go_newa (K := 21) (show decode cX10_init 213 = .ok (.newarray .long, 2) by decide +kernel) rfl (by decide) ar_21 (by decide) (by decide) q193 ?_
  show Go d MX10_init 215 [some (vR a0)] [vR (sn S192 + 1), vR a0] (na S192 21 48 48) (nF S192 F188) (nG S192 G189) Q
  obtain ⟨x194, x194e⟩ : ∃ x194 : Nat, x194 = sn S192 + 1 := ⟨_, rfl⟩
  have h := h x194 x194e
  rw [← x194e]
  obtain ⟨S195, S195e⟩ : ∃ S195 : AS, S195 = na S192 21 48 48 := ⟨_, rfl⟩
  have h := h S195 S195e
  rw [← S195e]
  obtain ⟨F196, F196e⟩ : ∃ F196 : AF, F196 = nF S192 F188 := ⟨_, rfl⟩
  have h := h F196 F196e
  rw [← F196e]
  obtain ⟨G197, G197e⟩ : ∃ G197 : AG, G197 = nG S192 G189 := ⟨_, rfl⟩
  have h := h G197 G197e
  rw [← G197e]
  obtain ⟨q198, h⟩ := h
  obtain ⟨q199, h⟩ := h
  refine go_putR (show decode cX10_init 215 = .ok (.putfield 102, 3) by decide +kernel) fl_X10_102 rfl (Or.inr ⟨rfl, rfl⟩) q198 q199 ?_
  obtain ⟨S200, S200e⟩ : ∃ S200 : AS, S200 = ru S195 a0 50 x194 := ⟨_, rfl⟩
  have h := h S200 S200e
  rw [← S200e]
  refine go_aload_n (show decode cX10_init 218 = .ok (.aload_n 0, 1) by decide +kernel) (by rfl) ?_
  obtain ⟨q201, h⟩ := h
  obtain ⟨q206, h⟩ := h
  refine go_callV (d2 := d - 1) (M2 := MX10_begins) (n := 0) (ci := 10) (av := []) (st := []) (show decode cX10_init 219 = .ok (.invokevirtual 105, 3) by decide +kernel) ml_X10_105 mt_X10_begins min_X10_begins mse_X10_begins (by decide) q206 rfl (Nat.le_of_ble_eq_true rfl) (by omega) (ok_mono h (fun w202 S203 F204 G205 h => ?_))
  obtain ⟨e9, h⟩ := h
  subst e9
  show Go d MX10_init 222 [some (vR a0)] [] S203 F204 G205 Q
  exact go_vret (show decode cX10_init 222 = .ok (.return_, 1) by decide +kernel) rfl h
def V_X10_begins_97 (d : Nat) (S : AS) (F : AF) (G : AG) (Q : AQ) (a0 : Nat) (a1 : Int) : Prop :=
  ((6 ≤ a1) →
    Q none S F G) ∧
  ((¬ 6 ≤ a1) →
    (sK S a0 = 10) ∧
    (sK S (sR S a0 17) = 23) ∧
    ((0 : Int) ≤ a1) ∧
    ((a1 : Int) < (sN S (sR S a0 17) : Int)) ∧
    ∀ G5 : AG, G5 = gu G (sR S a0 17) a1 0 →
    (r32 (a1 + 1)) ∧
    Go d MX10_begins 97 [some (vR a0), some (vI (a1 + 1))] [] S F G5 Q)
theorem R_X10_begins_97 {d : Nat} {S : AS} {F : AF} {G : AG} {Q : AQ} {a0 : Nat} {a1 : Int} (h : V_X10_begins_97 d S F G Q a0 a1) : Go d MX10_begins 97 [some (vR a0), some (vI a1)] [] S F G Q := by
  unfold V_X10_begins_97 at h
  refine go_iload_n (show decode cX10_begins 97 = .ok (.iload_n 1, 1) by decide +kernel) (by rfl) ?_
  refine go_bipush (show decode cX10_begins 98 = .ok (.bipush 6, 2) by decide +kernel) (by decide) ?_
  obtain ⟨ht, hf⟩ := h
  refine go_icmpge (tgt := 116) (show decode cX10_begins 100 = .ok (.if_icmp .ge 16, 3) by decide +kernel) (by decide) (fun hc => ?_) (fun hc => ?_)
  · have h := ht hc
    exact go_vret (show decode cX10_begins 116 = .ok (.return_, 1) by decide +kernel) rfl h
  · have h := hf hc
    refine go_aload_n (show decode cX10_begins 103 = .ok (.aload_n 0, 1) by decide +kernel) (by rfl) ?_
    obtain ⟨q1, h⟩ := h
    refine go_getR (show decode cX10_begins 104 = .ok (.getfield 61, 3) by decide +kernel) fl_X10_61 rfl q1 ?_
    refine go_iload_n (show decode cX10_begins 107 = .ok (.iload_n 1, 1) by decide +kernel) (by rfl) ?_
    refine go_iconst (show decode cX10_begins 108 = .ok (.iconst 0, 1) by decide +kernel) (by decide) ?_
    obtain ⟨q2, h⟩ := h
    obtain ⟨q3, h⟩ := h
    obtain ⟨q4, h⟩ := h
    refine go_zastore (show decode cX10_begins 109 = .ok (.bastore, 1) by decide +kernel) q2 q3 q4 (by decide) ?_
    obtain ⟨G5, G5e⟩ : ∃ G5 : AG, G5 = gu G (sR S a0 17) a1 0 := ⟨_, rfl⟩
    have h := h G5 G5e
    rw [← G5e]
    obtain ⟨q6, h⟩ := h
    refine go_iinc (show decode cX10_begins 110 = .ok (.iinc 1 1, 3) by decide +kernel) (by rfl) q6 (by decide) ?_
    show Go d MX10_begins 113 [some (vR a0), some (vI (a1 + 1))] [] S F G5 Q
    refine go_goto (tgt := 97) (show decode cX10_begins 113 = .ok (.goto (-16), 3) by decide +kernel) (by decide) ?_
    exact h
def V_X10_begins_67 (d : Nat) (S : AS) (F : AF) (G : AG) (Q : AQ) (a0 : Nat) (a1 : Int) : Prop :=
  ((3 ≤ a1) →
    (sK S a0 = 10) ∧
    ∀ F2 : AF, F2 = fu F a0 11 0 →
    ∀ F3 : AF, F3 = fu F2 a0 14 0 →
    Go d MX10_begins 97 [some (vR a0), some (vI 0)] [] S F3 G Q) ∧
  ((¬ 3 ≤ a1) →
    (sK S a0 = 10) ∧
    (sK S (sR S a0 9) = 21) ∧
    ((0 : Int) ≤ a1) ∧
    ((a1 : Int) < (sN S (sR S a0 9) : Int)) ∧
    ∀ G8 : AG, G8 = gu G (sR S a0 9) a1 0 →
    (r32 (a1 + 1)) ∧
    Go d MX10_begins 67 [some (vR a0), some (vI (a1 + 1))] [] S F G8 Q)
theorem R_X10_begins_67 {d : Nat} {S : AS} {F : AF} {G : AG} {Q : AQ} {a0 : Nat} {a1 : Int} (h : V_X10_begins_67 d S F G Q a0 a1) : Go d MX10_begins 67 [some (vR a0), some (vI a1)] [] S F G Q := by
  unfold V_X10_begins_67 at h
  refine go_iload_n (show decode cX10_begins 67 = .ok (.iload_n 1, 1) by decide +kernel) (by rfl) ?_
  refine go_iconst (show decode cX10_begins 68 = .ok (.iconst 3, 1) by decide +kernel) (by decide) ?_
  obtain ⟨ht, hf⟩ := h
  refine go_icmpge (tgt := 85) (show decode cX10_begins 69 = .ok (.if_icmp .ge 16, 3) by decide +kernel) (by decide) (fun hc => ?_) (fun hc => ?_)
  · have h := ht hc
    refine go_aload_n (show decode cX10_begins 85 = .ok (.aload_n 0, 1) by decide +kernel) (by rfl) ?_
    refine go_iconst (show decode cX10_begins 86 = .ok (.iconst 0, 1) by decide +kernel) (by decide) ?_
    obtain ⟨q1, h⟩ := h
    refine go_putI (show decode cX10_begins 87 = .ok (.putfield 108, 3) by decide +kernel) fl_X10_108 rfl (Or.inl rfl) q1 ?_
    obtain ⟨F2, F2e⟩ : ∃ F2 : AF, F2 = fu F a0 11 0 := ⟨_, rfl⟩
    have h := h F2 F2e
    rw [← F2e]
    refine go_aload_n (show decode cX10_begins 90 = .ok (.aload_n 0, 1) by decide +kernel) (by rfl) ?_
    refine go_iconst (show decode cX10_begins 91 = .ok (.iconst 0, 1) by decide +kernel) (by decide) ?_
    refine go_putI (show decode cX10_begins 92 = .ok (.putfield 111, 3) by decide +kernel) fl_X10_111 rfl (Or.inl rfl) q1 ?_
    obtain ⟨F3, F3e⟩ : ∃ F3 : AF, F3 = fu F2 a0 14 0 := ⟨_, rfl⟩
    have h := h F3 F3e
    rw [← F3e]
    refine go_iconst (show decode cX10_begins 95 = .ok (.iconst 0, 1) by decide +kernel) (by decide) ?_
    refine go_istore_n (show decode cX10_begins 96 = .ok (.istore_n 1, 1) by decide +kernel) (by decide) ?_
    show Go d MX10_begins 97 [some (vR a0), some (vI 0)] [] S F3 G Q
    exact h
  · have h := hf hc
    refine go_aload_n (show decode cX10_begins 72 = .ok (.aload_n 0, 1) by decide +kernel) (by rfl) ?_
    obtain ⟨q4, h⟩ := h
    refine go_getR (show decode cX10_begins 73 = .ok (.getfield 43, 3) by decide +kernel) fl_X10_43 rfl q4 ?_
    refine go_iload_n (show decode cX10_begins 76 = .ok (.iload_n 1, 1) by decide +kernel) (by rfl) ?_
    refine go_lconst (n := 0) (show decode cX10_begins 77 = .ok (.lconst 0, 1) by decide +kernel) ?_
    show Go d MX10_begins 78 [some (vR a0), some (vI a1)] [vJ 0, vI a1, vR (sR S a0 9)] S F G Q
    obtain ⟨q5, h⟩ := h
    obtain ⟨q6, h⟩ := h
    obtain ⟨q7, h⟩ := h
    refine go_lastore (show decode cX10_begins 78 = .ok (.lastore, 1) by decide +kernel) q5 q6 q7  ?_
    obtain ⟨G8, G8e⟩ : ∃ G8 : AG, G8 = gu G (sR S a0 9) a1 0 := ⟨_, rfl⟩
    have h := h G8 G8e
    rw [← G8e]
    obtain ⟨q9, h⟩ := h
    refine go_iinc (show decode cX10_begins 79 = .ok (.iinc 1 1, 3) by decide +kernel) (by rfl) q9 (by decide) ?_
    show Go d MX10_begins 82 [some (vR a0), some (vI (a1 + 1))] [] S F G8 Q
    refine go_goto (tgt := 67) (show decode cX10_begins 82 = .ok (.goto (-15), 3) by decide +kernel) (by decide) ?_
    exact h
def V_X10_begins_45 (d : Nat) (S : AS) (F : AF) (G : AG) (Q : AQ) (a0 : Nat) (a1 : Int) : Prop :=
  ((6912 ≤ a1) →
    Go d MX10_begins 67 [some (vR a0), some (vI 0)] [] S F G Q) ∧
  ((¬ 6912 ≤ a1) →
    (sK S a0 = 10) ∧
    (sK S (sR S a0 7) = 21) ∧
    ((0 : Int) ≤ a1) ∧
    ((a1 : Int) < (sN S (sR S a0 7) : Int)) ∧
    ∀ G5 : AG, G5 = gu G (sR S a0 7) a1 0 →
    (r32 (a1 + 1)) ∧
    Go d MX10_begins 45 [some (vR a0), some (vI (a1 + 1))] [] S F G5 Q)
theorem R_X10_begins_45 {d : Nat} {S : AS} {F : AF} {G : AG} {Q : AQ} {a0 : Nat} {a1 : Int} (h : V_X10_begins_45 d S F G Q a0 a1) : Go d MX10_begins 45 [some (vR a0), some (vI a1)] [] S F G Q := by
  unfold V_X10_begins_45 at h
  refine go_iload_n (show decode cX10_begins 45 = .ok (.iload_n 1, 1) by decide +kernel) (by rfl) ?_
  refine go_sipush (show decode cX10_begins 46 = .ok (.sipush 6912, 3) by decide +kernel) (by decide) ?_
  obtain ⟨ht, hf⟩ := h
  refine go_icmpge (tgt := 65) (show decode cX10_begins 49 = .ok (.if_icmp .ge 16, 3) by decide +kernel) (by decide) (fun hc => ?_) (fun hc => ?_)
  · have h := ht hc
    refine go_iconst (show decode cX10_begins 65 = .ok (.iconst 0, 1) by decide +kernel) (by decide) ?_
    refine go_istore_n (show decode cX10_begins 66 = .ok (.istore_n 1, 1) by decide +kernel) (by decide) ?_
    show Go d MX10_begins 67 [some (vR a0), some (vI 0)] [] S F G Q
    exact h
  · have h := hf hc
    refine go_aload_n (show decode cX10_begins 52 = .ok (.aload_n 0, 1) by decide +kernel) (by rfl) ?_
    obtain ⟨q1, h⟩ := h
    refine go_getR (show decode cX10_begins 53 = .ok (.getfield 35, 3) by decide +kernel) fl_X10_35 rfl q1 ?_
    refine go_iload_n (show decode cX10_begins 56 = .ok (.iload_n 1, 1) by decide +kernel) (by rfl) ?_
    refine go_lconst (n := 0) (show decode cX10_begins 57 = .ok (.lconst 0, 1) by decide +kernel) ?_
    show Go d MX10_begins 58 [some (vR a0), some (vI a1)] [vJ 0, vI a1, vR (sR S a0 7)] S F G Q
    obtain ⟨q2, h⟩ := h
    obtain ⟨q3, h⟩ := h
    obtain ⟨q4, h⟩ := h
    refine go_lastore (show decode cX10_begins 58 = .ok (.lastore, 1) by decide +kernel) q2 q3 q4  ?_
    obtain ⟨G5, G5e⟩ : ∃ G5 : AG, G5 = gu G (sR S a0 7) a1 0 := ⟨_, rfl⟩
    have h := h G5 G5e
    rw [← G5e]
    obtain ⟨q6, h⟩ := h
    refine go_iinc (show decode cX10_begins 59 = .ok (.iinc 1 1, 3) by decide +kernel) (by rfl) q6 (by decide) ?_
    show Go d MX10_begins 62 [some (vR a0), some (vI (a1 + 1))] [] S F G5 Q
    refine go_goto (tgt := 45) (show decode cX10_begins 62 = .ok (.goto (-17), 3) by decide +kernel) (by decide) ?_
    exact h
def V_X10_begins_0 (d : Nat) (S : AS) (F : AF) (G : AG) (Q : AQ) (a0 : Nat) : Prop :=
  (sK S a0 = 10) ∧
  (sK S (sR S a0 4) = 20) ∧
  ((0 : Int) < (sN S (sR S a0 4) : Int)) ∧
  ∀ G4 : AG, G4 = gu G (sR S a0 4) 0 0 →
  ((48 : Int) < (sN S (sR S a0 4) : Int)) ∧
  ∀ G6 : AG, G6 = gu G4 (sR S a0 4) 48 0 →
  (sK S (sR S a0 5) = 20) ∧
  ((0 : Int) < (sN S (sR S a0 5) : Int)) ∧
  ∀ G9 : AG, G9 = gu G6 (sR S a0 5) 0 1 →
  ((1 : Int) < (sN S (sR S a0 5) : Int)) ∧
  ∀ G11 : AG, G11 = gu G9 (sR S a0 5) 1 1 →
  (sK S (sR S a0 6) = 20) ∧
  ((0 : Int) < (sN S (sR S a0 6) : Int)) ∧
  ∀ G14 : AG, G14 = gu G11 (sR S a0 6) 0 0 →
  ((1 : Int) < (sN S (sR S a0 6) : Int)) ∧
  ∀ G16 : AG, G16 = gu G14 (sR S a0 6) 1 0 →
  Go d MX10_begins 45 [some (vR a0), some (vI 0)] [] S F G16 Q
theorem R_X10_begins_0 {d : Nat} {S : AS} {F : AF} {G : AG} {Q : AQ} {a0 : Nat} (h : V_X10_begins_0 d S F G Q a0) : Go d MX10_begins 0 [some (vR a0), none] [] S F G Q := by
  unfold V_X10_begins_0 at h
  refine go_aload_n (show decode cX10_begins 0 = .ok (.aload_n 0, 1) by decide +kernel) (by rfl) ?_
  obtain ⟨q1, h⟩ := h
  refine go_getR (show decode cX10_begins 1 = .ok (.getfield 25, 3) by decide +kernel) fl_X10_25 rfl q1 ?_
  refine go_iconst (show decode cX10_begins 4 = .ok (.iconst 0, 1) by decide +kernel) (by decide) ?_
  refine go_iconst (show decode cX10_begins 5 = .ok (.iconst 0, 1) by decide +kernel) (by decide) ?_
  obtain ⟨q2, h⟩ := h
  obtain ⟨q3, h⟩ := h
  refine go_iastore (show decode cX10_begins 6 = .ok (.iastore, 1) by decide +kernel) q2 (by decide) q3  ?_
  obtain ⟨G4, G4e⟩ : ∃ G4 : AG, G4 = gu G (sR S a0 4) 0 0 := ⟨_, rfl⟩
  have h := h G4 G4e
  rw [← G4e]
  refine go_aload_n (show decode cX10_begins 7 = .ok (.aload_n 0, 1) by decide +kernel) (by rfl) ?_
  refine go_getR (show decode cX10_begins 8 = .ok (.getfield 25, 3) by decide +kernel) fl_X10_25 rfl q1 ?_
  refine go_bipush (show decode cX10_begins 11 = .ok (.bipush 48, 2) by decide +kernel) (by decide) ?_
  refine go_iconst (show decode cX10_begins 13 = .ok (.iconst 0, 1) by decide +kernel) (by decide) ?_
  obtain ⟨q5, h⟩ := h
  refine go_iastore (show decode cX10_begins 14 = .ok (.iastore, 1) by decide +kernel) q2 (by decide) q5  ?_
  obtain ⟨G6, G6e⟩ : ∃ G6 : AG, G6 = gu G4 (sR S a0 4) 48 0 := ⟨_, rfl⟩
  have h := h G6 G6e
  rw [← G6e]
  refine go_aload_n (show decode cX10_begins 15 = .ok (.aload_n 0, 1) by decide +kernel) (by rfl) ?_
  refine go_getR (show decode cX10_begins 16 = .ok (.getfield 29, 3) by decide +kernel) fl_X10_29 rfl q1 ?_
  refine go_iconst (show decode cX10_begins 19 = .ok (.iconst 0, 1) by decide +kernel) (by decide) ?_
  refine go_iconst (show decode cX10_begins 20 = .ok (.iconst 1, 1) by decide +kernel) (by decide) ?_
  obtain ⟨q7, h⟩ := h
  obtain ⟨q8, h⟩ := h
  refine go_iastore (show decode cX10_begins 21 = .ok (.iastore, 1) by decide +kernel) q7 (by decide) q8  ?_
  obtain ⟨G9, G9e⟩ : ∃ G9 : AG, G9 = gu G6 (sR S a0 5) 0 1 := ⟨_, rfl⟩
  have h := h G9 G9e
  rw [← G9e]
  refine go_aload_n (show decode cX10_begins 22 = .ok (.aload_n 0, 1) by decide +kernel) (by rfl) ?_
  refine go_getR (show decode cX10_begins 23 = .ok (.getfield 29, 3) by decide +kernel) fl_X10_29 rfl q1 ?_
  refine go_iconst (show decode cX10_begins 26 = .ok (.iconst 1, 1) by decide +kernel) (by decide) ?_
  refine go_iconst (show decode cX10_begins 27 = .ok (.iconst 1, 1) by decide +kernel) (by decide) ?_
  obtain ⟨q10, h⟩ := h
  refine go_iastore (show decode cX10_begins 28 = .ok (.iastore, 1) by decide +kernel) q7 (by decide) q10  ?_
  obtain ⟨G11, G11e⟩ : ∃ G11 : AG, G11 = gu G9 (sR S a0 5) 1 1 := ⟨_, rfl⟩
  have h := h G11 G11e
  rw [← G11e]
  refine go_aload_n (show decode cX10_begins 29 = .ok (.aload_n 0, 1) by decide +kernel) (by rfl) ?_
  refine go_getR (show decode cX10_begins 30 = .ok (.getfield 32, 3) by decide +kernel) fl_X10_32 rfl q1 ?_
  refine go_iconst (show decode cX10_begins 33 = .ok (.iconst 0, 1) by decide +kernel) (by decide) ?_
  refine go_iconst (show decode cX10_begins 34 = .ok (.iconst 0, 1) by decide +kernel) (by decide) ?_
  obtain ⟨q12, h⟩ := h
  obtain ⟨q13, h⟩ := h
  refine go_iastore (show decode cX10_begins 35 = .ok (.iastore, 1) by decide +kernel) q12 (by decide) q13  ?_
  obtain ⟨G14, G14e⟩ : ∃ G14 : AG, G14 = gu G11 (sR S a0 6) 0 0 := ⟨_, rfl⟩
  have h := h G14 G14e
  rw [← G14e]
  refine go_aload_n (show decode cX10_begins 36 = .ok (.aload_n 0, 1) by decide +kernel) (by rfl) ?_
  refine go_getR (show decode cX10_begins 37 = .ok (.getfield 32, 3) by decide +kernel) fl_X10_32 rfl q1 ?_
  refine go_iconst (show decode cX10_begins 40 = .ok (.iconst 1, 1) by decide +kernel) (by decide) ?_
  refine go_iconst (show decode cX10_begins 41 = .ok (.iconst 0, 1) by decide +kernel) (by decide) ?_
  obtain ⟨q15, h⟩ := h
  refine go_iastore (show decode cX10_begins 42 = .ok (.iastore, 1) by decide +kernel) q12 (by decide) q15  ?_
  obtain ⟨G16, G16e⟩ : ∃ G16 : AG, G16 = gu G14 (sR S a0 6) 1 0 := ⟨_, rfl⟩
  have h := h G16 G16e
  rw [← G16e]
  refine go_iconst (show decode cX10_begins 43 = .ok (.iconst 0, 1) by decide +kernel) (by decide) ?_
  refine go_istore_n (show decode cX10_begins 44 = .ok (.istore_n 1, 1) by decide +kernel) (by decide) ?_
  show Go d MX10_begins 45 [some (vR a0), some (vI 0)] [] S F G16 Q
  exact h
def V_X10_world_0 (d : Nat) (S : AS) (F : AF) (G : AG) (Q : AQ) (a0 : Nat) (a1 : Int) (a2 : Int) (a3 : Int) : Prop :=
  (sK S a0 = 10) ∧
  ∀ F2 : AF, F2 = fu F a0 0 0 →
  (1 ≤ d) ∧
  Ok (d - 1) MX10_isIn [vJ a1, vJ 1, vJ 10000] S F2 G (fun w4 S5 F6 G7 =>
  ∃ z8 : Int, w4 = some (vI z8) ∧
  ((z8 = 0) →
    Q (some (vJ (-3))) S5 F6 G7) ∧
  ((¬ z8 = 0) →
    Ok (d - 1) MX10_isIn [vJ a2, vJ 1, vJ 10000] S5 F6 G7 (fun w9 S10 F11 G12 =>
    ∃ z13 : Int, w9 = some (vI z13) ∧
    ((z13 = 0) →
      Q (some (vJ (-3))) S10 F11 G12) ∧
    ((¬ z13 = 0) →
      Ok (d - 1) MX10_isIn [vJ a3, vJ 1, vJ 1000000000000] S10 F11 G12 (fun w14 S15 F16 G17 =>
      ∃ z18 : Int, w14 = some (vI z18) ∧
      ((¬ z18 = 0) →
        (sK S15 a0 = 10) ∧
        ∀ F20 : AF, F20 = fu F16 a0 1 a1 →
        ∀ F21 : AF, F21 = fu F20 a0 2 a2 →
        ∀ F22 : AF, F22 = fu F21 a0 3 a3 →
        Ok (d - 1) MX10_begins [vR a0] S15 F22 G17 (fun w23 S24 F25 G26 =>
        w23 = none ∧
        (r64 (a1 * a2)) ∧
        Q (some (vJ (a1 * a2))) S24 F25 G26)) ∧
      ((z18 = 0) →
        Q (some (vJ (-3))) S15 F16 G17))))))
theorem R_X10_world_0 {d : Nat} {S : AS} {F : AF} {G : AG} {Q : AQ} {a0 : Nat} {a1 : Int} {a2 : Int} {a3 : Int} (h : V_X10_world_0 d S F G Q a0 a1 a2 a3) : Go d MX10_world 0 [some (vR a0), some (vI a1), some (vI a2), some (vJ a3), none] [] S F G Q := by
  unfold V_X10_world_0 at h
  refine go_aload_n (show decode cX10_world 0 = .ok (.aload_n 0, 1) by decide +kernel) (by rfl) ?_
  refine go_iconst (show decode cX10_world 1 = .ok (.iconst 0, 1) by decide +kernel) (by decide) ?_
  obtain ⟨q1, h⟩ := h
  refine go_putI (show decode cX10_world 2 = .ok (.putfield 1, 3) by decide +kernel) fl_X10_1 rfl (Or.inl rfl) q1 ?_
  obtain ⟨F2, F2e⟩ : ∃ F2 : AF, F2 = fu F a0 0 0 := ⟨_, rfl⟩
  have h := h F2 F2e
  rw [← F2e]
  refine go_iload_n (show decode cX10_world 5 = .ok (.iload_n 1, 1) by decide +kernel) (by rfl) ?_
  refine go_i2l (show decode cX10_world 6 = .ok (.i2l, 1) by decide +kernel) ?_
  refine go_lconst (n := 1) (show decode cX10_world 7 = .ok (.lconst 1, 1) by decide +kernel) ?_
  show Go d MX10_world 8 [some (vR a0), some (vI a1), some (vI a2), some (vJ a3), none] [vJ 1, vJ a1] S F2 G Q
  refine go_ldc2 (show decode cX10_world 8 = .ok (.ldc2_w 114, 3) by decide +kernel) lc_X10_114 (by decide) ?_
  obtain ⟨q3, h⟩ := h
  refine go_callS (d2 := d - 1) (M2 := MX10_isIn) (n := 3) (av := [vJ a1, vJ 1, vJ 10000]) (st := []) (show decode cX10_world 11 = .ok (.invokestatic 116, 3) by decide +kernel) ml_X10_116 mt_X10_isIn mst_X10_isIn rfl (Nat.le_of_ble_eq_true rfl) (by omega) (ok_mono h (fun w4 S5 F6 G7 h => ?_))
  obtain ⟨z8, e9, h⟩ := h
  subst e9
  show Go d MX10_world 14 [some (vR a0), some (vI a1), some (vI a2), some (vJ a3), none] [vI z8] S5 F6 G7 Q
  obtain ⟨ht, hf⟩ := h
  refine go_ifeq (tgt := 40) (show decode cX10_world 14 = .ok (.ifCond .eq 26, 3) by decide +kernel) (by decide) (fun hc => ?_) (fun hc => ?_)
  · have h := ht hc
    refine go_ldc2 (show decode cX10_world 40 = .ok (.ldc2_w 120, 3) by decide +kernel) lc_X10_120 (by decide) ?_
    exact go_lret (show decode cX10_world 43 = .ok (.lreturn, 1) by decide +kernel) rfl h
  · have h := hf hc
    refine go_iload_n (show decode cX10_world 17 = .ok (.iload_n 2, 1) by decide +kernel) (by rfl) ?_
    refine go_i2l (show decode cX10_world 18 = .ok (.i2l, 1) by decide +kernel) ?_
    refine go_lconst (n := 1) (show decode cX10_world 19 = .ok (.lconst 1, 1) by decide +kernel) ?_
    show Go d MX10_world 20 [some (vR a0), some (vI a1), some (vI a2), some (vJ a3), none] [vJ 1, vJ a2] S5 F6 G7 Q
    refine go_ldc2 (show decode cX10_world 20 = .ok (.ldc2_w 114, 3) by decide +kernel) lc_X10_114 (by decide) ?_
    refine go_callS (d2 := d - 1) (M2 := MX10_isIn) (n := 3) (av := [vJ a2, vJ 1, vJ 10000]) (st := []) (show decode cX10_world 23 = .ok (.invokestatic 116, 3) by decide +kernel) ml_X10_116 mt_X10_isIn mst_X10_isIn rfl (Nat.le_of_ble_eq_true rfl) (by omega) (ok_mono h (fun w9 S10 F11 G12 h => ?_))
    obtain ⟨z13, e9, h⟩ := h
    subst e9
    show Go d MX10_world 26 [some (vR a0), some (vI a1), some (vI a2), some (vJ a3), none] [vI z13] S10 F11 G12 Q
    obtain ⟨ht, hf⟩ := h
    refine go_ifeq (tgt := 40) (show decode cX10_world 26 = .ok (.ifCond .eq 14, 3) by decide +kernel) (by decide) (fun hc => ?_) (fun hc => ?_)
    · have h := ht hc
      refine go_ldc2 (show decode cX10_world 40 = .ok (.ldc2_w 120, 3) by decide +kernel) lc_X10_120 (by decide) ?_
      exact go_lret (show decode cX10_world 43 = .ok (.lreturn, 1) by decide +kernel) rfl h
    · have h := hf hc
      refine go_lload_n (show decode cX10_world 29 = .ok (.lload_n 3, 1) by decide +kernel) (by rfl) ?_
      refine go_lconst (n := 1) (show decode cX10_world 30 = .ok (.lconst 1, 1) by decide +kernel) ?_
      show Go d MX10_world 31 [some (vR a0), some (vI a1), some (vI a2), some (vJ a3), none] [vJ 1, vJ a3] S10 F11 G12 Q
      refine go_ldc2 (show decode cX10_world 31 = .ok (.ldc2_w 19, 3) by decide +kernel) lc_X10_19 (by decide) ?_
      refine go_callS (d2 := d - 1) (M2 := MX10_isIn) (n := 3) (av := [vJ a3, vJ 1, vJ 1000000000000]) (st := []) (show decode cX10_world 34 = .ok (.invokestatic 116, 3) by decide +kernel) ml_X10_116 mt_X10_isIn mst_X10_isIn rfl (Nat.le_of_ble_eq_true rfl) (by omega) (ok_mono h (fun w14 S15 F16 G17 h => ?_))
      obtain ⟨z18, e9, h⟩ := h
      subst e9
      show Go d MX10_world 37 [some (vR a0), some (vI a1), some (vI a2), some (vJ a3), none] [vI z18] S15 F16 G17 Q
      obtain ⟨ht, hf⟩ := h
      refine go_ifne (tgt := 44) (show decode cX10_world 37 = .ok (.ifCond .ne 7, 3) by decide +kernel) (by decide) (fun hc => ?_) (fun hc => ?_)
      · have h := ht hc
        refine go_aload_n (show decode cX10_world 44 = .ok (.aload_n 0, 1) by decide +kernel) (by rfl) ?_
        refine go_iload_n (show decode cX10_world 45 = .ok (.iload_n 1, 1) by decide +kernel) (by rfl) ?_
        obtain ⟨q19, h⟩ := h
        refine go_putI (show decode cX10_world 46 = .ok (.putfield 13, 3) by decide +kernel) fl_X10_13 rfl (Or.inl rfl) q19 ?_
        obtain ⟨F20, F20e⟩ : ∃ F20 : AF, F20 = fu F16 a0 1 a1 := ⟨_, rfl⟩
        have h := h F20 F20e
        rw [← F20e]
        refine go_aload_n (show decode cX10_world 49 = .ok (.aload_n 0, 1) by decide +kernel) (by rfl) ?_
        refine go_iload_n (show decode cX10_world 50 = .ok (.iload_n 2, 1) by decide +kernel) (by rfl) ?_
        refine go_putI (show decode cX10_world 51 = .ok (.putfield 16, 3) by decide +kernel) fl_X10_16 rfl (Or.inl rfl) q19 ?_
        obtain ⟨F21, F21e⟩ : ∃ F21 : AF, F21 = fu F20 a0 2 a2 := ⟨_, rfl⟩
        have h := h F21 F21e
        rw [← F21e]
        refine go_aload_n (show decode cX10_world 54 = .ok (.aload_n 0, 1) by decide +kernel) (by rfl) ?_
        refine go_lload_n (show decode cX10_world 55 = .ok (.lload_n 3, 1) by decide +kernel) (by rfl) ?_
        refine go_putJ (show decode cX10_world 56 = .ok (.putfield 21, 3) by decide +kernel) fl_X10_21 rfl (Or.inl rfl) q19 ?_
        obtain ⟨F22, F22e⟩ : ∃ F22 : AF, F22 = fu F21 a0 3 a3 := ⟨_, rfl⟩
        have h := h F22 F22e
        rw [← F22e]
        refine go_aload_n (show decode cX10_world 59 = .ok (.aload_n 0, 1) by decide +kernel) (by rfl) ?_
        refine go_callV (d2 := d - 1) (M2 := MX10_begins) (n := 0) (ci := 10) (av := []) (st := []) (show decode cX10_world 60 = .ok (.invokevirtual 105, 3) by decide +kernel) ml_X10_105 mt_X10_begins min_X10_begins mse_X10_begins (by decide) q19 rfl (Nat.le_of_ble_eq_true rfl) (by omega) (ok_mono h (fun w23 S24 F25 G26 h => ?_))
        obtain ⟨e9, h⟩ := h
        subst e9
        show Go d MX10_world 63 [some (vR a0), some (vI a1), some (vI a2), some (vJ a3), none] [] S24 F25 G26 Q
        refine go_iload_n (show decode cX10_world 63 = .ok (.iload_n 1, 1) by decide +kernel) (by rfl) ?_
        refine go_i2l (show decode cX10_world 64 = .ok (.i2l, 1) by decide +kernel) ?_
        refine go_iload_n (show decode cX10_world 65 = .ok (.iload_n 2, 1) by decide +kernel) (by rfl) ?_
        refine go_i2l (show decode cX10_world 66 = .ok (.i2l, 1) by decide +kernel) ?_
        obtain ⟨q27, h⟩ := h
        refine go_lmul (show decode cX10_world 67 = .ok (.lmul, 1) by decide +kernel) q27 ?_
        exact go_lret (show decode cX10_world 68 = .ok (.lreturn, 1) by decide +kernel) rfl h
      · have h := hf hc
        refine go_ldc2 (show decode cX10_world 40 = .ok (.ldc2_w 120, 3) by decide +kernel) lc_X10_120 (by decide) ?_
        exact go_lret (show decode cX10_world 43 = .ok (.lreturn, 1) by decide +kernel) rfl h
def V_X10_isIn_0 (d : Nat) (S : AS) (F : AF) (G : AG) (Q : AQ) (a0 : Int) (a2 : Int) (a4 : Int) : Prop :=
  ((a0 < a2) →
    Q (some (vI 0)) S F G) ∧
  ((¬ a0 < a2) →
    ((a4 < a0) →
      Q (some (vI 0)) S F G) ∧
    ((¬ a4 < a0) →
      Q (some (vI 1)) S F G))
theorem R_X10_isIn_0 {d : Nat} {S : AS} {F : AF} {G : AG} {Q : AQ} {a0 : Int} {a2 : Int} {a4 : Int} (h : V_X10_isIn_0 d S F G Q a0 a2 a4) : Go d MX10_isIn 0 [some (vJ a0), none, some (vJ a2), none, some (vJ a4), none] [] S F G Q := by
  unfold V_X10_isIn_0 at h
  refine go_lload_n (show decode cX10_isIn 0 = .ok (.lload_n 0, 1) by decide +kernel) (by rfl) ?_
  refine go_lload_n (show decode cX10_isIn 1 = .ok (.lload_n 2, 1) by decide +kernel) (by rfl) ?_
  obtain ⟨ht, hf⟩ := h
  refine go_jlt (tgt := 17) (show decode cX10_isIn 2 = .ok (.lcmp, 1) by decide +kernel) (show decode cX10_isIn 3 = .ok (.ifCond .lt 14, 3) by decide +kernel) (by decide) (fun hc => ?_) (fun hc => ?_)
  · have h := ht hc
    refine go_iconst (show decode cX10_isIn 17 = .ok (.iconst 0, 1) by decide +kernel) (by decide) ?_
    exact go_zret (show decode cX10_isIn 18 = .ok (.ireturn, 1) by decide +kernel) rfl (by decide) h
  · have h := hf hc
    refine go_lload_n (show decode cX10_isIn 6 = .ok (.lload_n 0, 1) by decide +kernel) (by rfl) ?_
    refine go_lload (show decode cX10_isIn 7 = .ok (.lload 4, 2) by decide +kernel) (by rfl) ?_
    obtain ⟨ht, hf⟩ := h
    refine go_jgt (tgt := 17) (show decode cX10_isIn 9 = .ok (.lcmp, 1) by decide +kernel) (show decode cX10_isIn 10 = .ok (.ifCond .gt 7, 3) by decide +kernel) (by decide) (fun hc => ?_) (fun hc => ?_)
    · have h := ht hc
      refine go_iconst (show decode cX10_isIn 17 = .ok (.iconst 0, 1) by decide +kernel) (by decide) ?_
      exact go_zret (show decode cX10_isIn 18 = .ok (.ireturn, 1) by decide +kernel) rfl (by decide) h
    · have h := hf hc
      refine go_iconst (show decode cX10_isIn 13 = .ok (.iconst 1, 1) by decide +kernel) (by decide) ?_
      refine go_goto (tgt := 18) (show decode cX10_isIn 14 = .ok (.goto 4, 3) by decide +kernel) (by decide) ?_
      exact go_zret (show decode cX10_isIn 18 = .ok (.ireturn, 1) by decide +kernel) rfl (by decide) h
def V_X10_add_329 (d : Nat) (S : AS) (F : AF) (G : AG) (Q : AQ) (a0 : Nat) (a1 : Int) (a2 : Int) (a3 : Int) (a4 : Int) (a5 : Int) (a6 : Int) (a7 : Int) (a8 : Int) (a10 : Int) (a11 : Int) : Prop :=
  (r32 (a11 + 1)) ∧
  Go d MX10_add 273 [some (vR a0), some (vI a1), some (vI a2), some (vI a3), some (vI a4), some (vI a5), some (vI a6), some (vI a7), some (vJ a8), none, some (vI a10), some (vI (a11 + 1))] [] S F G Q
theorem R_X10_add_329 {d : Nat} {S : AS} {F : AF} {G : AG} {Q : AQ} {a0 : Nat} {a1 : Int} {a2 : Int} {a3 : Int} {a4 : Int} {a5 : Int} {a6 : Int} {a7 : Int} {a8 : Int} {a10 : Int} {a11 : Int} (h : V_X10_add_329 d S F G Q a0 a1 a2 a3 a4 a5 a6 a7 a8 a10 a11) : Go d MX10_add 329 [some (vR a0), some (vI a1), some (vI a2), some (vI a3), some (vI a4), some (vI a5), some (vI a6), some (vI a7), some (vJ a8), none, some (vI a10), some (vI a11)] [] S F G Q := by
  unfold V_X10_add_329 at h
  obtain ⟨q1, h⟩ := h
  refine go_iinc (show decode cX10_add 329 = .ok (.iinc 11 1, 3) by decide +kernel) (by rfl) q1 (by decide) ?_
  show Go d MX10_add 332 [some (vR a0), some (vI a1), some (vI a2), some (vI a3), some (vI a4), some (vI a5), some (vI a6), some (vI a7), some (vJ a8), none, some (vI a10), some (vI (a11 + 1))] [] S F G Q
  refine go_goto (tgt := 273) (show decode cX10_add 332 = .ok (.goto (-59), 3) by decide +kernel) (by decide) ?_
  exact h
def V_X10_add_273 (d : Nat) (S : AS) (F : AF) (G : AG) (Q : AQ) (a0 : Nat) (a1 : Int) (a2 : Int) (a3 : Int) (a4 : Int) (a5 : Int) (a6 : Int) (a7 : Int) (a8 : Int) (a10 : Int) (a11 : Int) : Prop :=
  (sK S a0 = 10) ∧
  (sK S (sR S a0 5) = 20) ∧
  ((1 : Int) < (sN S (sR S a0 5) : Int)) ∧
  ((G (sR S a0 5) 1 ≤ a11) →
    (r32 (a10 + 1)) ∧
    Go d MX10_add 259 [some (vR a0), some (vI a1), some (vI a2), some (vI a3), some (vI a4), some (vI a5), some (vI a6), some (vI a7), some (vJ a8), none, some (vI (a10 + 1)), none] [] S F G Q) ∧
  ((¬ G (sR S a0 5) 1 ≤ a11) →
    (1 ≤ d) ∧
    Ok (d - 1) MX10_part [vR a0, vI 0, vI a10, vI a2, vI a4] S F G (fun w6 S7 F8 G9 =>
    ∃ z10 : Int, w6 = some (vI z10) ∧
    ((z10 ≤ 0) →
      V_X10_add_329 d S7 F8 G9 Q a0 a1 a2 a3 a4 a5 a6 a7 a8 a10 a11) ∧
    ((¬ z10 ≤ 0) →
      (sK S7 a0 = 10) ∧
      Ok (d - 1) MX10_part [vR a0, vI 1, vI a11, vI a3, vI a5] S7 F8 G9 (fun w11 S12 F13 G14 =>
      ∃ z16 : Int, w11 = some (vI z16) ∧
      ((z16 ≤ 0) →
        V_X10_add_329 d S12 F13 G14 Q a0 a1 a2 a3 a4 a5 a6 a7 a8 a10 a11) ∧
      ((¬ z16 ≤ 0) →
        (sK S12 a0 = 10) ∧
        Ok (d - 1) MX10_slot [vI a1, vI a10, vI a11] S12 F13 G14 (fun w18 S19 F20 G21 =>
        ∃ z22 : Int, w18 = some (vI z22) ∧
        (sK S19 (sR S12 a0 7) = 21) ∧
        ((0 : Int) ≤ z22) ∧
        ((z22 : Int) < (sN S19 (sR S12 a0 7) : Int)) ∧
        (r64 ((G21 (sR S12 a0 7) z22) + a6)) ∧
        ∀ G27 : AG, G27 = gu G21 (sR S12 a0 7) z22 ((G21 (sR S12 a0 7) z22) + a6) →
        V_X10_add_329 d S19 F20 G27 Q a0 a1 a2 a3 a4 a5 a6 a7 a8 a10 a11))))))
theorem R_X10_add_273 {d : Nat} {S : AS} {F : AF} {G : AG} {Q : AQ} {a0 : Nat} {a1 : Int} {a2 : Int} {a3 : Int} {a4 : Int} {a5 : Int} {a6 : Int} {a7 : Int} {a8 : Int} {a10 : Int} {a11 : Int} (h : V_X10_add_273 d S F G Q a0 a1 a2 a3 a4 a5 a6 a7 a8 a10 a11) : Go d MX10_add 273 [some (vR a0), some (vI a1), some (vI a2), some (vI a3), some (vI a4), some (vI a5), some (vI a6), some (vI a7), some (vJ a8), none, some (vI a10), some (vI a11)] [] S F G Q := by
  unfold V_X10_add_273 at h
  refine go_iload (show decode cX10_add 273 = .ok (.iload 11, 2) by decide +kernel) (by rfl) ?_
  refine go_aload_n (show decode cX10_add 275 = .ok (.aload_n 0, 1) by decide +kernel) (by rfl) ?_
  obtain ⟨q1, h⟩ := h
  refine go_getR (show decode cX10_add 276 = .ok (.getfield 29, 3) by decide +kernel) fl_X10_29 rfl q1 ?_
  refine go_iconst (show decode cX10_add 279 = .ok (.iconst 1, 1) by decide +kernel) (by decide) ?_
  obtain ⟨q2, h⟩ := h
  obtain ⟨q3, h⟩ := h
  refine go_iaload (show decode cX10_add 280 = .ok (.iaload, 1) by decide +kernel) q2 (by decide) q3 ?_
  obtain ⟨ht, hf⟩ := h
  refine go_icmpge (tgt := 335) (show decode cX10_add 281 = .ok (.if_icmp .ge 54, 3) by decide +kernel) (by decide) (fun hc => ?_) (fun hc => ?_)
  · have h := ht hc
    obtain ⟨q4, h⟩ := h
    refine go_iinc (show decode cX10_add 335 = .ok (.iinc 10 1, 3) by decide +kernel) (by rfl) q4 (by decide) ?_
    show Go d MX10_add 338 [some (vR a0), some (vI a1), some (vI a2), some (vI a3), some (vI a4), some (vI a5), some (vI a6), some (vI a7), some (vJ a8), none, some (vI (a10 + 1)), some (vI a11)] [] S F G Q
    refine go_goto (tgt := 259) (show decode cX10_add 338 = .ok (.goto (-79), 3) by decide +kernel) (by decide) ?_
    refine go_clr 11 ?_
    exact h
  · have h := hf hc
    refine go_aload_n (show decode cX10_add 284 = .ok (.aload_n 0, 1) by decide +kernel) (by rfl) ?_
    refine go_iconst (show decode cX10_add 285 = .ok (.iconst 0, 1) by decide +kernel) (by decide) ?_
    refine go_iload (show decode cX10_add 286 = .ok (.iload 10, 2) by decide +kernel) (by rfl) ?_
    refine go_iload_n (show decode cX10_add 288 = .ok (.iload_n 2, 1) by decide +kernel) (by rfl) ?_
    refine go_iload (show decode cX10_add 289 = .ok (.iload 4, 2) by decide +kernel) (by rfl) ?_
    obtain ⟨q5, h⟩ := h
    refine go_callV (d2 := d - 1) (M2 := MX10_part) (n := 4) (ci := 10) (av := [vI 0, vI a10, vI a2, vI a4]) (st := []) (show decode cX10_add 291 = .ok (.invokevirtual 159, 3) by decide +kernel) ml_X10_159 mt_X10_part min_X10_part mse_X10_part (by decide) q1 rfl (Nat.le_of_ble_eq_true rfl) (by omega) (ok_mono h (fun w6 S7 F8 G9 h => ?_))
    obtain ⟨z10, e9, h⟩ := h
    subst e9
    show Go d MX10_add 294 [some (vR a0), some (vI a1), some (vI a2), some (vI a3), some (vI a4), some (vI a5), some (vI a6), some (vI a7), some (vJ a8), none, some (vI a10), some (vI a11)] [vI z10] S7 F8 G9 Q
    obtain ⟨ht, hf⟩ := h
    refine go_ifle (tgt := 329) (show decode cX10_add 294 = .ok (.ifCond .le 35, 3) by decide +kernel) (by decide) (fun hc => ?_) (fun hc => ?_)
    · have h := ht hc
      exact R_X10_add_329 h
    · have h := hf hc
      refine go_aload_n (show decode cX10_add 297 = .ok (.aload_n 0, 1) by decide +kernel) (by rfl) ?_
      refine go_iconst (show decode cX10_add 298 = .ok (.iconst 1, 1) by decide +kernel) (by decide) ?_
      refine go_iload (show decode cX10_add 299 = .ok (.iload 11, 2) by decide +kernel) (by rfl) ?_
      refine go_iload_n (show decode cX10_add 301 = .ok (.iload_n 3, 1) by decide +kernel) (by rfl) ?_
      refine go_iload (show decode cX10_add 302 = .ok (.iload 5, 2) by decide +kernel) (by rfl) ?_
      obtain ⟨q15, h⟩ := h
      refine go_callV (d2 := d - 1) (M2 := MX10_part) (n := 4) (ci := 10) (av := [vI 1, vI a11, vI a3, vI a5]) (st := []) (show decode cX10_add 304 = .ok (.invokevirtual 159, 3) by decide +kernel) ml_X10_159 mt_X10_part min_X10_part mse_X10_part (by decide) q15 rfl (Nat.le_of_ble_eq_true rfl) (by omega) (ok_mono h (fun w11 S12 F13 G14 h => ?_))
      obtain ⟨z16, e9, h⟩ := h
      subst e9
      show Go d MX10_add 307 [some (vR a0), some (vI a1), some (vI a2), some (vI a3), some (vI a4), some (vI a5), some (vI a6), some (vI a7), some (vJ a8), none, some (vI a10), some (vI a11)] [vI z16] S12 F13 G14 Q
      obtain ⟨ht, hf⟩ := h
      refine go_ifle (tgt := 329) (show decode cX10_add 307 = .ok (.ifCond .le 22, 3) by decide +kernel) (by decide) (fun hc => ?_) (fun hc => ?_)
      · have h := ht hc
        exact R_X10_add_329 h
      · have h := hf hc
        refine go_aload_n (show decode cX10_add 310 = .ok (.aload_n 0, 1) by decide +kernel) (by rfl) ?_
        obtain ⟨q17, h⟩ := h
        refine go_getR (show decode cX10_add 311 = .ok (.getfield 35, 3) by decide +kernel) fl_X10_35 rfl q17 ?_
        refine go_iload_n (show decode cX10_add 314 = .ok (.iload_n 1, 1) by decide +kernel) (by rfl) ?_
        refine go_iload (show decode cX10_add 315 = .ok (.iload 10, 2) by decide +kernel) (by rfl) ?_
        refine go_iload (show decode cX10_add 317 = .ok (.iload 11, 2) by decide +kernel) (by rfl) ?_
        refine go_callS (d2 := d - 1) (M2 := MX10_slot) (n := 3) (av := [vI a1, vI a10, vI a11]) (st := [vR (sR S12 a0 7)]) (show decode cX10_add 319 = .ok (.invokestatic 130, 3) by decide +kernel) ml_X10_130 mt_X10_slot mst_X10_slot rfl (Nat.le_of_ble_eq_true rfl) (by omega) (ok_mono h (fun w18 S19 F20 G21 h => ?_))
        obtain ⟨z22, e9, h⟩ := h
        subst e9
        show Go d MX10_add 322 [some (vR a0), some (vI a1), some (vI a2), some (vI a3), some (vI a4), some (vI a5), some (vI a6), some (vI a7), some (vJ a8), none, some (vI a10), some (vI a11)] [vI z22, vR (sR S12 a0 7)] S19 F20 G21 Q
        refine go_dup2 (show decode cX10_add 322 = .ok (.dup2, 1) by decide +kernel) ?_
        obtain ⟨q23, h⟩ := h
        obtain ⟨q24, h⟩ := h
        obtain ⟨q25, h⟩ := h
        refine go_laload (show decode cX10_add 323 = .ok (.laload, 1) by decide +kernel) q23 q24 q25 ?_
        refine go_iload (show decode cX10_add 324 = .ok (.iload 6, 2) by decide +kernel) (by rfl) ?_
        refine go_i2l (show decode cX10_add 326 = .ok (.i2l, 1) by decide +kernel) ?_
        obtain ⟨q26, h⟩ := h
        refine go_ladd (show decode cX10_add 327 = .ok (.ladd, 1) by decide +kernel) q26 ?_
        refine go_lastore (show decode cX10_add 328 = .ok (.lastore, 1) by decide +kernel) q23 q24 q25  ?_
        obtain ⟨G27, G27e⟩ : ∃ G27 : AG, G27 = gu G21 (sR S12 a0 7) z22 ((G21 (sR S12 a0 7) z22) + a6) := ⟨_, rfl⟩
        have h := h G27 G27e
        rw [← G27e]
        exact R_X10_add_329 h
def V_X10_add_259 (d : Nat) (S : AS) (F : AF) (G : AG) (Q : AQ) (a0 : Nat) (a1 : Int) (a2 : Int) (a3 : Int) (a4 : Int) (a5 : Int) (a6 : Int) (a7 : Int) (a8 : Int) (a10 : Int) : Prop :=
  (sK S a0 = 10) ∧
  (sK S (sR S a0 5) = 20) ∧
  ((0 : Int) < (sN S (sR S a0 5) : Int)) ∧
  ((G (sR S a0 5) 0 ≤ a10) →
    (sK S (sR S a0 9) = 21) ∧
    ((0 : Int) ≤ a1) ∧
    ((a1 : Int) < (sN S (sR S a0 9) : Int)) ∧
    (r64 ((G (sR S a0 9) a1) + a8)) ∧
    ∀ G8 : AG, G8 = gu G (sR S a0 9) a1 ((G (sR S a0 9) a1) + a8) →
    (1 ≤ d) ∧
    Ok (d - 1) MX10_tells [vR a0, vI 0, vI a1, vI a2, vI a3, vI a4, vI a5, vJ a6] S F G8 (fun w10 S11 F12 G13 =>
    w10 = none ∧
    (sK S11 a0 = 10) ∧
    (sK S11 (sR S11 a0 9) = 21) ∧
    ((0 : Int) ≤ a1) ∧
    ((a1 : Int) < (sN S11 (sR S11 a0 9) : Int)) ∧
    Q (some (vJ (G13 (sR S11 a0 9) a1))) S11 F12 G13)) ∧
  ((¬ G (sR S a0 5) 0 ≤ a10) →
    Go d MX10_add 273 [some (vR a0), some (vI a1), some (vI a2), some (vI a3), some (vI a4), some (vI a5), some (vI a6), some (vI a7), some (vJ a8), none, some (vI a10), some (vI 0)] [] S F G Q)
theorem R_X10_add_259 {d : Nat} {S : AS} {F : AF} {G : AG} {Q : AQ} {a0 : Nat} {a1 : Int} {a2 : Int} {a3 : Int} {a4 : Int} {a5 : Int} {a6 : Int} {a7 : Int} {a8 : Int} {a10 : Int} (h : V_X10_add_259 d S F G Q a0 a1 a2 a3 a4 a5 a6 a7 a8 a10) : Go d MX10_add 259 [some (vR a0), some (vI a1), some (vI a2), some (vI a3), some (vI a4), some (vI a5), some (vI a6), some (vI a7), some (vJ a8), none, some (vI a10), none] [] S F G Q := by
  unfold V_X10_add_259 at h
  refine go_iload (show decode cX10_add 259 = .ok (.iload 10, 2) by decide +kernel) (by rfl) ?_
  refine go_aload_n (show decode cX10_add 261 = .ok (.aload_n 0, 1) by decide +kernel) (by rfl) ?_
  obtain ⟨q1, h⟩ := h
  refine go_getR (show decode cX10_add 262 = .ok (.getfield 29, 3) by decide +kernel) fl_X10_29 rfl q1 ?_
  refine go_iconst (show decode cX10_add 265 = .ok (.iconst 0, 1) by decide +kernel) (by decide) ?_
  obtain ⟨q2, h⟩ := h
  obtain ⟨q3, h⟩ := h
  refine go_iaload (show decode cX10_add 266 = .ok (.iaload, 1) by decide +kernel) q2 (by decide) q3 ?_
  obtain ⟨ht, hf⟩ := h
  refine go_icmpge (tgt := 341) (show decode cX10_add 267 = .ok (.if_icmp .ge 74, 3) by decide +kernel) (by decide) (fun hc => ?_) (fun hc => ?_)
  · have h := ht hc
    refine go_aload_n (show decode cX10_add 341 = .ok (.aload_n 0, 1) by decide +kernel) (by rfl) ?_
    refine go_getR (show decode cX10_add 342 = .ok (.getfield 43, 3) by decide +kernel) fl_X10_43 rfl q1 ?_
    refine go_iload_n (show decode cX10_add 345 = .ok (.iload_n 1, 1) by decide +kernel) (by rfl) ?_
    refine go_dup2 (show decode cX10_add 346 = .ok (.dup2, 1) by decide +kernel) ?_
    obtain ⟨q4, h⟩ := h
    obtain ⟨q5, h⟩ := h
    obtain ⟨q6, h⟩ := h
    refine go_laload (show decode cX10_add 347 = .ok (.laload, 1) by decide +kernel) q4 q5 q6 ?_
    refine go_lload (show decode cX10_add 348 = .ok (.lload 8, 2) by decide +kernel) (by rfl) ?_
    obtain ⟨q7, h⟩ := h
    refine go_ladd (show decode cX10_add 350 = .ok (.ladd, 1) by decide +kernel) q7 ?_
    refine go_lastore (show decode cX10_add 351 = .ok (.lastore, 1) by decide +kernel) q4 q5 q6  ?_
    obtain ⟨G8, G8e⟩ : ∃ G8 : AG, G8 = gu G (sR S a0 9) a1 ((G (sR S a0 9) a1) + a8) := ⟨_, rfl⟩
    have h := h G8 G8e
    rw [← G8e]
    refine go_aload_n (show decode cX10_add 352 = .ok (.aload_n 0, 1) by decide +kernel) (by rfl) ?_
    refine go_iconst (show decode cX10_add 353 = .ok (.iconst 0, 1) by decide +kernel) (by decide) ?_
    refine go_iload_n (show decode cX10_add 354 = .ok (.iload_n 1, 1) by decide +kernel) (by rfl) ?_
    refine go_iload_n (show decode cX10_add 355 = .ok (.iload_n 2, 1) by decide +kernel) (by rfl) ?_
    refine go_iload_n (show decode cX10_add 356 = .ok (.iload_n 3, 1) by decide +kernel) (by rfl) ?_
    refine go_iload (show decode cX10_add 357 = .ok (.iload 4, 2) by decide +kernel) (by rfl) ?_
    refine go_iload (show decode cX10_add 359 = .ok (.iload 5, 2) by decide +kernel) (by rfl) ?_
    refine go_iload (show decode cX10_add 361 = .ok (.iload 6, 2) by decide +kernel) (by rfl) ?_
    refine go_i2l (show decode cX10_add 363 = .ok (.i2l, 1) by decide +kernel) ?_
    obtain ⟨q9, h⟩ := h
    refine go_callV (d2 := d - 1) (M2 := MX10_tells) (n := 7) (ci := 10) (av := [vI 0, vI a1, vI a2, vI a3, vI a4, vI a5, vJ a6]) (st := []) (show decode cX10_add 364 = .ok (.invokevirtual 213, 3) by decide +kernel) ml_X10_213 mt_X10_tells min_X10_tells mse_X10_tells (by decide) q1 rfl (Nat.le_of_ble_eq_true rfl) (by omega) (ok_mono h (fun w10 S11 F12 G13 h => ?_))
    obtain ⟨e9, h⟩ := h
    subst e9
    show Go d MX10_add 367 [some (vR a0), some (vI a1), some (vI a2), some (vI a3), some (vI a4), some (vI a5), some (vI a6), some (vI a7), some (vJ a8), none, some (vI a10), none] [] S11 F12 G13 Q
    refine go_aload_n (show decode cX10_add 367 = .ok (.aload_n 0, 1) by decide +kernel) (by rfl) ?_
    obtain ⟨q14, h⟩ := h
    refine go_getR (show decode cX10_add 368 = .ok (.getfield 43, 3) by decide +kernel) fl_X10_43 rfl q14 ?_
    refine go_iload_n (show decode cX10_add 371 = .ok (.iload_n 1, 1) by decide +kernel) (by rfl) ?_
    obtain ⟨q15, h⟩ := h
    obtain ⟨q16, h⟩ := h
    obtain ⟨q17, h⟩ := h
    refine go_laload (show decode cX10_add 372 = .ok (.laload, 1) by decide +kernel) q15 q16 q17 ?_
    exact go_lret (show decode cX10_add 373 = .ok (.lreturn, 1) by decide +kernel) rfl h
  · have h := hf hc
    refine go_iconst (show decode cX10_add 270 = .ok (.iconst 0, 1) by decide +kernel) (by decide) ?_
    refine go_istore (show decode cX10_add 271 = .ok (.istore 11, 2) by decide +kernel) (by decide) ?_
    show Go d MX10_add 273 [some (vR a0), some (vI a1), some (vI a2), some (vI a3), some (vI a4), some (vI a5), some (vI a6), some (vI a7), some (vJ a8), none, some (vI a10), some (vI 0)] [] S F G Q
    exact h
def V_X10_add_147 (d : Nat) (S : AS) (F : AF) (G : AG) (Q : AQ) (a0 : Nat) (a1 : Int) (a2 : Int) (a3 : Int) (a4 : Int) (a5 : Int) (a6 : Int) (a7 : Int) (a8 : Int) : Prop :=
  (r32 (a8 + 1)) ∧
  Go d MX10_add 80 [some (vR a0), some (vI a1), some (vI a2), some (vI a3), some (vI a4), some (vI a5), some (vI a6), some (vI a7), some (vI (a8 + 1)), none, none, none] [] S F G Q
theorem R_X10_add_147 {d : Nat} {S : AS} {F : AF} {G : AG} {Q : AQ} {a0 : Nat} {a1 : Int} {a2 : Int} {a3 : Int} {a4 : Int} {a5 : Int} {a6 : Int} {a7 : Int} {a8 : Int} (h : V_X10_add_147 d S F G Q a0 a1 a2 a3 a4 a5 a6 a7 a8) : Go d MX10_add 147 [some (vR a0), some (vI a1), some (vI a2), some (vI a3), some (vI a4), some (vI a5), some (vI a6), some (vI a7), some (vI a8), none, none, none] [] S F G Q := by
  unfold V_X10_add_147 at h
  obtain ⟨q1, h⟩ := h
  refine go_iinc (show decode cX10_add 147 = .ok (.iinc 8 1, 3) by decide +kernel) (by rfl) q1 (by decide) ?_
  show Go d MX10_add 150 [some (vR a0), some (vI a1), some (vI a2), some (vI a3), some (vI a4), some (vI a5), some (vI a6), some (vI a7), some (vI (a8 + 1)), none, none, none] [] S F G Q
  refine go_goto (tgt := 80) (show decode cX10_add 150 = .ok (.goto (-70), 3) by decide +kernel) (by decide) ?_
  exact h
def V_X10_add_80 (d : Nat) (S : AS) (F : AF) (G : AG) (Q : AQ) (a0 : Nat) (a1 : Int) (a2 : Int) (a3 : Int) (a4 : Int) (a5 : Int) (a6 : Int) (a7 : Int) (a8 : Int) : Prop :=
  ((6 ≤ a8) →
    (r32 (a4 - a2)) ∧
    (r64 ((a4 - a2) + 1)) ∧
    (r32 (a5 - a3)) ∧
    (r64 ((a5 - a3) + 1)) ∧
    (r64 (((a4 - a2) + 1) * ((a5 - a3) + 1))) ∧
    (r64 ((((a4 - a2) + 1) * ((a5 - a3) + 1)) * a6)) ∧
    ∀ x7 : Int, x7 = (((a4 - a2) + 1) * ((a5 - a3) + 1)) * a6 →
    (sK S a0 = 10) ∧
    (sK S (sR S a0 9) = 21) ∧
    ((0 : Int) ≤ a1) ∧
    ((a1 : Int) < (sN S (sR S a0 9) : Int)) ∧
    (r64 ((G (sR S a0 9) a1) + x7)) ∧
    (((G (sR S a0 9) a1) + x7 ≤ 3000000000000000000) →
      (1 ≤ d) ∧
      Ok (d - 1) MX10_hasRoom [vR a0, vI 0, vI a2, vI a4, vI (-1)] S F G (fun w14 S15 F16 G17 =>
      ∃ z18 : Int, w14 = some (vI z18) ∧
      ((z18 = 0) →
        Q (some (vJ (-4))) S15 F16 G17) ∧
      ((¬ z18 = 0) →
        (sK S15 a0 = 10) ∧
        Ok (d - 1) MX10_hasRoom [vR a0, vI 1, vI a3, vI a5, vI (-1)] S15 F16 G17 (fun w19 S20 F21 G22 =>
        ∃ z24 : Int, w19 = some (vI z24) ∧
        ((¬ z24 = 0) →
          (sK S20 a0 = 10) ∧
          Ok (d - 1) MX10_acts [vR a0] S20 F21 G22 (fun w25 S26 F27 G28 =>
          w25 = none ∧
          (sK S26 a0 = 10) ∧
          Ok (d - 1) MX10_comes [vR a0, vI 0, vI a2] S26 F27 G28 (fun w30 S31 F32 G33 =>
          w30 = none ∧
          (r32 (a4 + 1)) ∧
          (sK S31 a0 = 10) ∧
          Ok (d - 1) MX10_comes [vR a0, vI 0, vI (a4 + 1)] S31 F32 G33 (fun w36 S37 F38 G39 =>
          w36 = none ∧
          (sK S37 a0 = 10) ∧
          Ok (d - 1) MX10_comes [vR a0, vI 1, vI a3] S37 F38 G39 (fun w41 S42 F43 G44 =>
          w41 = none ∧
          (r32 (a5 + 1)) ∧
          (sK S42 a0 = 10) ∧
          Ok (d - 1) MX10_comes [vR a0, vI 1, vI (a5 + 1)] S42 F43 G44 (fun w47 S48 F49 G50 =>
          w47 = none ∧
          Go d MX10_add 259 [some (vR a0), some (vI a1), some (vI a2), some (vI a3), some (vI a4), some (vI a5), some (vI a6), some (vI a7), some (vJ x7), none, some (vI 0), none] [] S48 F49 G50 Q)))))) ∧
        ((z24 = 0) →
          Q (some (vJ (-4))) S20 F21 G22))))) ∧
    ((¬ (G (sR S a0 9) a1) + x7 ≤ 3000000000000000000) →
      Q (some (vJ (-6))) S F G)) ∧
  ((¬ 6 ≤ a8) →
    ((a6 ≤ 0) →
      V_X10_add_147 d S F G Q a0 a1 a2 a3 a4 a5 a6 a7 a8) ∧
    ((¬ a6 ≤ 0) →
      (sK S a0 = 10) ∧
      (sK S (sR S a0 17) = 23) ∧
      ((0 : Int) ≤ a8) ∧
      ((a8 : Int) < (sN S (sR S a0 17) : Int)) ∧
      ((G (sR S a0 17) a8 = 0) →
        V_X10_add_147 d S F G Q a0 a1 a2 a3 a4 a5 a6 a7 a8) ∧
      ((¬ G (sR S a0 17) a8 = 0) →
        (1 ≤ d) ∧
        Ok (d - 1) MX10_meets [vR a0, vI a8, vI a2, vI a3, vI a4, vI a5] S F G (fun w57 S58 F59 G60 =>
        ∃ z61 : Int, w57 = some (vI z61) ∧
        ((z61 = 0) →
          V_X10_add_147 d S58 F59 G60 Q a0 a1 a2 a3 a4 a5 a6 a7 a8) ∧
        ((¬ z61 = 0) →
          (sK S58 a0 = 10) ∧
          Ok (d - 1) MX10_zoned [vR a0, vI a8] S58 F59 G60 (fun w62 S63 F64 G65 =>
          ∃ z67 : Int, w62 = some (vJ z67) ∧
          (sK S63 a0 = 10) ∧
          Ok (d - 1) MX10_cells [vR a0] S63 F64 G65 (fun w68 S69 F70 G71 =>
          ∃ z73 : Int, w68 = some (vJ z73) ∧
          (r64 (z73 * a6)) ∧
          (r64 (z67 + (z73 * a6))) ∧
          (sK S69 a0 = 10) ∧
          (sK S69 (sR S69 a0 16) = 21) ∧
          ((0 : Int) ≤ a8) ∧
          ((a8 : Int) < (sN S69 (sR S69 a0 16) : Int)) ∧
          ((z67 + (z73 * a6) ≤ G71 (sR S69 a0 16) a8) →
            V_X10_add_147 d S69 F70 G71 Q a0 a1 a2 a3 a4 a5 a6 a7 a8) ∧
          ((¬ z67 + (z73 * a6) ≤ G71 (sR S69 a0 16) a8) →
            Q (some (vJ (-9))) S69 F70 G71))))))))
theorem R_X10_add_80 {d : Nat} {S : AS} {F : AF} {G : AG} {Q : AQ} {a0 : Nat} {a1 : Int} {a2 : Int} {a3 : Int} {a4 : Int} {a5 : Int} {a6 : Int} {a7 : Int} {a8 : Int} (h : V_X10_add_80 d S F G Q a0 a1 a2 a3 a4 a5 a6 a7 a8) : Go d MX10_add 80 [some (vR a0), some (vI a1), some (vI a2), some (vI a3), some (vI a4), some (vI a5), some (vI a6), some (vI a7), some (vI a8), none, none, none] [] S F G Q := by
  unfold V_X10_add_80 at h
  refine go_iload (show decode cX10_add 80 = .ok (.iload 8, 2) by decide +kernel) (by rfl) ?_
  refine go_bipush (show decode cX10_add 82 = .ok (.bipush 6, 2) by decide +kernel) (by decide) ?_
  obtain ⟨ht, hf⟩ := h
  refine go_icmpge (tgt := 153) (show decode cX10_add 84 = .ok (.if_icmp .ge 69, 3) by decide +kernel) (by decide) (fun hc => ?_) (fun hc => ?_)
  · have h := ht hc
    refine go_iload (show decode cX10_add 153 = .ok (.iload 4, 2) by decide +kernel) (by rfl) ?_
    refine go_iload_n (show decode cX10_add 155 = .ok (.iload_n 2, 1) by decide +kernel) (by rfl) ?_
    obtain ⟨q1, h⟩ := h
    refine go_isub (show decode cX10_add 156 = .ok (.isub, 1) by decide +kernel) q1 ?_
    refine go_i2l (show decode cX10_add 157 = .ok (.i2l, 1) by decide +kernel) ?_
    refine go_lconst (n := 1) (show decode cX10_add 158 = .ok (.lconst 1, 1) by decide +kernel) ?_
    show Go d MX10_add 159 [some (vR a0), some (vI a1), some (vI a2), some (vI a3), some (vI a4), some (vI a5), some (vI a6), some (vI a7), some (vI a8), none, none, none] [vJ 1, vJ (a4 - a2)] S F G Q
    obtain ⟨q2, h⟩ := h
    refine go_ladd (show decode cX10_add 159 = .ok (.ladd, 1) by decide +kernel) q2 ?_
    refine go_iload (show decode cX10_add 160 = .ok (.iload 5, 2) by decide +kernel) (by rfl) ?_
    refine go_iload_n (show decode cX10_add 162 = .ok (.iload_n 3, 1) by decide +kernel) (by rfl) ?_
    obtain ⟨q3, h⟩ := h
    refine go_isub (show decode cX10_add 163 = .ok (.isub, 1) by decide +kernel) q3 ?_
    refine go_i2l (show decode cX10_add 164 = .ok (.i2l, 1) by decide +kernel) ?_
    refine go_lconst (n := 1) (show decode cX10_add 165 = .ok (.lconst 1, 1) by decide +kernel) ?_
    show Go d MX10_add 166 [some (vR a0), some (vI a1), some (vI a2), some (vI a3), some (vI a4), some (vI a5), some (vI a6), some (vI a7), some (vI a8), none, none, none] [vJ 1, vJ (a5 - a3), vJ ((a4 - a2) + 1)] S F G Q
    obtain ⟨q4, h⟩ := h
    refine go_ladd (show decode cX10_add 166 = .ok (.ladd, 1) by decide +kernel) q4 ?_
    obtain ⟨q5, h⟩ := h
    refine go_lmul (show decode cX10_add 167 = .ok (.lmul, 1) by decide +kernel) q5 ?_
    refine go_iload (show decode cX10_add 168 = .ok (.iload 6, 2) by decide +kernel) (by rfl) ?_
    refine go_i2l (show decode cX10_add 170 = .ok (.i2l, 1) by decide +kernel) ?_
    obtain ⟨q6, h⟩ := h
    refine go_lmul (show decode cX10_add 171 = .ok (.lmul, 1) by decide +kernel) q6 ?_
    obtain ⟨x7, x7e⟩ : ∃ x7 : Int, x7 = (((a4 - a2) + 1) * ((a5 - a3) + 1)) * a6 := ⟨_, rfl⟩
    have h := h x7 x7e
    rw [← x7e]
    refine go_lstore (show decode cX10_add 172 = .ok (.lstore 8, 2) by decide +kernel) (by decide) ?_
    show Go d MX10_add 174 [some (vR a0), some (vI a1), some (vI a2), some (vI a3), some (vI a4), some (vI a5), some (vI a6), some (vI a7), some (vJ x7), none, none, none] [] S F G Q
    refine go_aload_n (show decode cX10_add 174 = .ok (.aload_n 0, 1) by decide +kernel) (by rfl) ?_
    obtain ⟨q8, h⟩ := h
    refine go_getR (show decode cX10_add 175 = .ok (.getfield 43, 3) by decide +kernel) fl_X10_43 rfl q8 ?_
    refine go_iload_n (show decode cX10_add 178 = .ok (.iload_n 1, 1) by decide +kernel) (by rfl) ?_
    obtain ⟨q9, h⟩ := h
    obtain ⟨q10, h⟩ := h
    obtain ⟨q11, h⟩ := h
    refine go_laload (show decode cX10_add 179 = .ok (.laload, 1) by decide +kernel) q9 q10 q11 ?_
    refine go_lload (show decode cX10_add 180 = .ok (.lload 8, 2) by decide +kernel) (by rfl) ?_
    obtain ⟨q12, h⟩ := h
    refine go_ladd (show decode cX10_add 182 = .ok (.ladd, 1) by decide +kernel) q12 ?_
    refine go_ldc2 (show decode cX10_add 183 = .ok (.ldc2_w 198, 3) by decide +kernel) lc_X10_198 (by decide) ?_
    obtain ⟨ht, hf⟩ := h
    refine go_jle (tgt := 194) (show decode cX10_add 186 = .ok (.lcmp, 1) by decide +kernel) (show decode cX10_add 187 = .ok (.ifCond .le 7, 3) by decide +kernel) (by decide) (fun hc => ?_) (fun hc => ?_)
    · have h := ht hc
      refine go_aload_n (show decode cX10_add 194 = .ok (.aload_n 0, 1) by decide +kernel) (by rfl) ?_
      refine go_iconst (show decode cX10_add 195 = .ok (.iconst 0, 1) by decide +kernel) (by decide) ?_
      refine go_iload_n (show decode cX10_add 196 = .ok (.iload_n 2, 1) by decide +kernel) (by rfl) ?_
      refine go_iload (show decode cX10_add 197 = .ok (.iload 4, 2) by decide +kernel) (by rfl) ?_
      refine go_iconst (show decode cX10_add 199 = .ok (.iconst (-1), 1) by decide +kernel) (by decide) ?_
      obtain ⟨q13, h⟩ := h
      refine go_callV (d2 := d - 1) (M2 := MX10_hasRoom) (n := 4) (ci := 10) (av := [vI 0, vI a2, vI a4, vI (-1)]) (st := []) (show decode cX10_add 200 = .ok (.invokevirtual 202, 3) by decide +kernel) ml_X10_202 mt_X10_hasRoom min_X10_hasRoom mse_X10_hasRoom (by decide) q8 rfl (Nat.le_of_ble_eq_true rfl) (by omega) (ok_mono h (fun w14 S15 F16 G17 h => ?_))
      obtain ⟨z18, e9, h⟩ := h
      subst e9
      show Go d MX10_add 203 [some (vR a0), some (vI a1), some (vI a2), some (vI a3), some (vI a4), some (vI a5), some (vI a6), some (vI a7), some (vJ x7), none, none, none] [vI z18] S15 F16 G17 Q
      obtain ⟨ht, hf⟩ := h
      refine go_ifeq (tgt := 218) (show decode cX10_add 203 = .ok (.ifCond .eq 15, 3) by decide +kernel) (by decide) (fun hc => ?_) (fun hc => ?_)
      · have h := ht hc
        refine go_ldc2 (show decode cX10_add 218 = .ok (.ldc2_w 205, 3) by decide +kernel) lc_X10_205 (by decide) ?_
        exact go_lret (show decode cX10_add 221 = .ok (.lreturn, 1) by decide +kernel) rfl h
      · have h := hf hc
        refine go_aload_n (show decode cX10_add 206 = .ok (.aload_n 0, 1) by decide +kernel) (by rfl) ?_
        refine go_iconst (show decode cX10_add 207 = .ok (.iconst 1, 1) by decide +kernel) (by decide) ?_
        refine go_iload_n (show decode cX10_add 208 = .ok (.iload_n 3, 1) by decide +kernel) (by rfl) ?_
        refine go_iload (show decode cX10_add 209 = .ok (.iload 5, 2) by decide +kernel) (by rfl) ?_
        refine go_iconst (show decode cX10_add 211 = .ok (.iconst (-1), 1) by decide +kernel) (by decide) ?_
        obtain ⟨q23, h⟩ := h
        refine go_callV (d2 := d - 1) (M2 := MX10_hasRoom) (n := 4) (ci := 10) (av := [vI 1, vI a3, vI a5, vI (-1)]) (st := []) (show decode cX10_add 212 = .ok (.invokevirtual 202, 3) by decide +kernel) ml_X10_202 mt_X10_hasRoom min_X10_hasRoom mse_X10_hasRoom (by decide) q23 rfl (Nat.le_of_ble_eq_true rfl) (by omega) (ok_mono h (fun w19 S20 F21 G22 h => ?_))
        obtain ⟨z24, e9, h⟩ := h
        subst e9
        show Go d MX10_add 215 [some (vR a0), some (vI a1), some (vI a2), some (vI a3), some (vI a4), some (vI a5), some (vI a6), some (vI a7), some (vJ x7), none, none, none] [vI z24] S20 F21 G22 Q
        obtain ⟨ht, hf⟩ := h
        refine go_ifne (tgt := 222) (show decode cX10_add 215 = .ok (.ifCond .ne 7, 3) by decide +kernel) (by decide) (fun hc => ?_) (fun hc => ?_)
        · have h := ht hc
          refine go_aload_n (show decode cX10_add 222 = .ok (.aload_n 0, 1) by decide +kernel) (by rfl) ?_
          obtain ⟨q29, h⟩ := h
          refine go_callV (d2 := d - 1) (M2 := MX10_acts) (n := 0) (ci := 10) (av := []) (st := []) (show decode cX10_add 223 = .ok (.invokevirtual 207, 3) by decide +kernel) ml_X10_207 mt_X10_acts min_X10_acts mse_X10_acts (by decide) q29 rfl (Nat.le_of_ble_eq_true rfl) (by omega) (ok_mono h (fun w25 S26 F27 G28 h => ?_))
          obtain ⟨e9, h⟩ := h
          subst e9
          show Go d MX10_add 226 [some (vR a0), some (vI a1), some (vI a2), some (vI a3), some (vI a4), some (vI a5), some (vI a6), some (vI a7), some (vJ x7), none, none, none] [] S26 F27 G28 Q
          refine go_aload_n (show decode cX10_add 226 = .ok (.aload_n 0, 1) by decide +kernel) (by rfl) ?_
          refine go_iconst (show decode cX10_add 227 = .ok (.iconst 0, 1) by decide +kernel) (by decide) ?_
          refine go_iload_n (show decode cX10_add 228 = .ok (.iload_n 2, 1) by decide +kernel) (by rfl) ?_
          obtain ⟨q34, h⟩ := h
          refine go_callV (d2 := d - 1) (M2 := MX10_comes) (n := 2) (ci := 10) (av := [vI 0, vI a2]) (st := []) (show decode cX10_add 229 = .ok (.invokevirtual 210, 3) by decide +kernel) ml_X10_210 mt_X10_comes min_X10_comes mse_X10_comes (by decide) q34 rfl (Nat.le_of_ble_eq_true rfl) (by omega) (ok_mono h (fun w30 S31 F32 G33 h => ?_))
          obtain ⟨e9, h⟩ := h
          subst e9
          show Go d MX10_add 232 [some (vR a0), some (vI a1), some (vI a2), some (vI a3), some (vI a4), some (vI a5), some (vI a6), some (vI a7), some (vJ x7), none, none, none] [] S31 F32 G33 Q
          refine go_aload_n (show decode cX10_add 232 = .ok (.aload_n 0, 1) by decide +kernel) (by rfl) ?_
          refine go_iconst (show decode cX10_add 233 = .ok (.iconst 0, 1) by decide +kernel) (by decide) ?_
          refine go_iload (show decode cX10_add 234 = .ok (.iload 4, 2) by decide +kernel) (by rfl) ?_
          refine go_iconst (show decode cX10_add 236 = .ok (.iconst 1, 1) by decide +kernel) (by decide) ?_
          obtain ⟨q35, h⟩ := h
          refine go_iadd (show decode cX10_add 237 = .ok (.iadd, 1) by decide +kernel) q35 ?_
          obtain ⟨q40, h⟩ := h
          refine go_callV (d2 := d - 1) (M2 := MX10_comes) (n := 2) (ci := 10) (av := [vI 0, vI (a4 + 1)]) (st := []) (show decode cX10_add 238 = .ok (.invokevirtual 210, 3) by decide +kernel) ml_X10_210 mt_X10_comes min_X10_comes mse_X10_comes (by decide) q40 rfl (Nat.le_of_ble_eq_true rfl) (by omega) (ok_mono h (fun w36 S37 F38 G39 h => ?_))
          obtain ⟨e9, h⟩ := h
          subst e9
          show Go d MX10_add 241 [some (vR a0), some (vI a1), some (vI a2), some (vI a3), some (vI a4), some (vI a5), some (vI a6), some (vI a7), some (vJ x7), none, none, none] [] S37 F38 G39 Q
          refine go_aload_n (show decode cX10_add 241 = .ok (.aload_n 0, 1) by decide +kernel) (by rfl) ?_
          refine go_iconst (show decode cX10_add 242 = .ok (.iconst 1, 1) by decide +kernel) (by decide) ?_
          refine go_iload_n (show decode cX10_add 243 = .ok (.iload_n 3, 1) by decide +kernel) (by rfl) ?_
          obtain ⟨q45, h⟩ := h
          refine go_callV (d2 := d - 1) (M2 := MX10_comes) (n := 2) (ci := 10) (av := [vI 1, vI a3]) (st := []) (show decode cX10_add 244 = .ok (.invokevirtual 210, 3) by decide +kernel) ml_X10_210 mt_X10_comes min_X10_comes mse_X10_comes (by decide) q45 rfl (Nat.le_of_ble_eq_true rfl) (by omega) (ok_mono h (fun w41 S42 F43 G44 h => ?_))
          obtain ⟨e9, h⟩ := h
          subst e9
          show Go d MX10_add 247 [some (vR a0), some (vI a1), some (vI a2), some (vI a3), some (vI a4), some (vI a5), some (vI a6), some (vI a7), some (vJ x7), none, none, none] [] S42 F43 G44 Q
          refine go_aload_n (show decode cX10_add 247 = .ok (.aload_n 0, 1) by decide +kernel) (by rfl) ?_
          refine go_iconst (show decode cX10_add 248 = .ok (.iconst 1, 1) by decide +kernel) (by decide) ?_
          refine go_iload (show decode cX10_add 249 = .ok (.iload 5, 2) by decide +kernel) (by rfl) ?_
          refine go_iconst (show decode cX10_add 251 = .ok (.iconst 1, 1) by decide +kernel) (by decide) ?_
          obtain ⟨q46, h⟩ := h
          refine go_iadd (show decode cX10_add 252 = .ok (.iadd, 1) by decide +kernel) q46 ?_
          obtain ⟨q51, h⟩ := h
          refine go_callV (d2 := d - 1) (M2 := MX10_comes) (n := 2) (ci := 10) (av := [vI 1, vI (a5 + 1)]) (st := []) (show decode cX10_add 253 = .ok (.invokevirtual 210, 3) by decide +kernel) ml_X10_210 mt_X10_comes min_X10_comes mse_X10_comes (by decide) q51 rfl (Nat.le_of_ble_eq_true rfl) (by omega) (ok_mono h (fun w47 S48 F49 G50 h => ?_))
          obtain ⟨e9, h⟩ := h
          subst e9
          show Go d MX10_add 256 [some (vR a0), some (vI a1), some (vI a2), some (vI a3), some (vI a4), some (vI a5), some (vI a6), some (vI a7), some (vJ x7), none, none, none] [] S48 F49 G50 Q
          refine go_iconst (show decode cX10_add 256 = .ok (.iconst 0, 1) by decide +kernel) (by decide) ?_
          refine go_istore (show decode cX10_add 257 = .ok (.istore 10, 2) by decide +kernel) (by decide) ?_
          show Go d MX10_add 259 [some (vR a0), some (vI a1), some (vI a2), some (vI a3), some (vI a4), some (vI a5), some (vI a6), some (vI a7), some (vJ x7), none, some (vI 0), none] [] S48 F49 G50 Q
          exact h
        · have h := hf hc
          refine go_ldc2 (show decode cX10_add 218 = .ok (.ldc2_w 205, 3) by decide +kernel) lc_X10_205 (by decide) ?_
          exact go_lret (show decode cX10_add 221 = .ok (.lreturn, 1) by decide +kernel) rfl h
    · have h := hf hc
      refine go_ldc2 (show decode cX10_add 190 = .ok (.ldc2_w 200, 3) by decide +kernel) lc_X10_200 (by decide) ?_
      exact go_lret (show decode cX10_add 193 = .ok (.lreturn, 1) by decide +kernel) rfl h
  · have h := hf hc
    refine go_iload (show decode cX10_add 87 = .ok (.iload 6, 2) by decide +kernel) (by rfl) ?_
    obtain ⟨ht, hf⟩ := h
    refine go_ifle (tgt := 147) (show decode cX10_add 89 = .ok (.ifCond .le 58, 3) by decide +kernel) (by decide) (fun hc => ?_) (fun hc => ?_)
    · have h := ht hc
      exact R_X10_add_147 h
    · have h := hf hc
      refine go_aload_n (show decode cX10_add 92 = .ok (.aload_n 0, 1) by decide +kernel) (by rfl) ?_
      obtain ⟨q52, h⟩ := h
      refine go_getR (show decode cX10_add 93 = .ok (.getfield 61, 3) by decide +kernel) fl_X10_61 rfl q52 ?_
      refine go_iload (show decode cX10_add 96 = .ok (.iload 8, 2) by decide +kernel) (by rfl) ?_
      obtain ⟨q53, h⟩ := h
      obtain ⟨q54, h⟩ := h
      obtain ⟨q55, h⟩ := h
      refine go_zaload (show decode cX10_add 98 = .ok (.baload, 1) by decide +kernel) q53 q54 q55 ?_
      obtain ⟨ht, hf⟩ := h
      refine go_ifeq (tgt := 147) (show decode cX10_add 99 = .ok (.ifCond .eq 48, 3) by decide +kernel) (by decide) (fun hc => ?_) (fun hc => ?_)
      · have h := ht hc
        exact R_X10_add_147 h
      · have h := hf hc
        refine go_aload_n (show decode cX10_add 102 = .ok (.aload_n 0, 1) by decide +kernel) (by rfl) ?_
        refine go_iload (show decode cX10_add 103 = .ok (.iload 8, 2) by decide +kernel) (by rfl) ?_
        refine go_iload_n (show decode cX10_add 105 = .ok (.iload_n 2, 1) by decide +kernel) (by rfl) ?_
        refine go_iload_n (show decode cX10_add 106 = .ok (.iload_n 3, 1) by decide +kernel) (by rfl) ?_
        refine go_iload (show decode cX10_add 107 = .ok (.iload 4, 2) by decide +kernel) (by rfl) ?_
        refine go_iload (show decode cX10_add 109 = .ok (.iload 5, 2) by decide +kernel) (by rfl) ?_
        obtain ⟨q56, h⟩ := h
        refine go_callV (d2 := d - 1) (M2 := MX10_meets) (n := 5) (ci := 10) (av := [vI a8, vI a2, vI a3, vI a4, vI a5]) (st := []) (show decode cX10_add 111 = .ok (.invokevirtual 184, 3) by decide +kernel) ml_X10_184 mt_X10_meets min_X10_meets mse_X10_meets (by decide) q52 rfl (Nat.le_of_ble_eq_true rfl) (by omega) (ok_mono h (fun w57 S58 F59 G60 h => ?_))
        obtain ⟨z61, e9, h⟩ := h
        subst e9
        show Go d MX10_add 114 [some (vR a0), some (vI a1), some (vI a2), some (vI a3), some (vI a4), some (vI a5), some (vI a6), some (vI a7), some (vI a8), none, none, none] [vI z61] S58 F59 G60 Q
        obtain ⟨ht, hf⟩ := h
        refine go_ifeq (tgt := 147) (show decode cX10_add 114 = .ok (.ifCond .eq 33, 3) by decide +kernel) (by decide) (fun hc => ?_) (fun hc => ?_)
        · have h := ht hc
          exact R_X10_add_147 h
        · have h := hf hc
          refine go_aload_n (show decode cX10_add 117 = .ok (.aload_n 0, 1) by decide +kernel) (by rfl) ?_
          refine go_iload (show decode cX10_add 118 = .ok (.iload 8, 2) by decide +kernel) (by rfl) ?_
          obtain ⟨q66, h⟩ := h
          refine go_callV (d2 := d - 1) (M2 := MX10_zoned) (n := 1) (ci := 10) (av := [vI a8]) (st := []) (show decode cX10_add 120 = .ok (.invokevirtual 188, 3) by decide +kernel) ml_X10_188 mt_X10_zoned min_X10_zoned mse_X10_zoned (by decide) q66 rfl (Nat.le_of_ble_eq_true rfl) (by omega) (ok_mono h (fun w62 S63 F64 G65 h => ?_))
          obtain ⟨z67, e9, h⟩ := h
          subst e9
          show Go d MX10_add 123 [some (vR a0), some (vI a1), some (vI a2), some (vI a3), some (vI a4), some (vI a5), some (vI a6), some (vI a7), some (vI a8), none, none, none] [vJ z67] S63 F64 G65 Q
          refine go_aload_n (show decode cX10_add 123 = .ok (.aload_n 0, 1) by decide +kernel) (by rfl) ?_
          obtain ⟨q72, h⟩ := h
          refine go_callV (d2 := d - 1) (M2 := MX10_cells) (n := 0) (ci := 10) (av := []) (st := [vJ z67]) (show decode cX10_add 124 = .ok (.invokevirtual 192, 3) by decide +kernel) ml_X10_192 mt_X10_cells min_X10_cells mse_X10_cells (by decide) q72 rfl (Nat.le_of_ble_eq_true rfl) (by omega) (ok_mono h (fun w68 S69 F70 G71 h => ?_))
          obtain ⟨z73, e9, h⟩ := h
          subst e9
          show Go d MX10_add 127 [some (vR a0), some (vI a1), some (vI a2), some (vI a3), some (vI a4), some (vI a5), some (vI a6), some (vI a7), some (vI a8), none, none, none] [vJ z73, vJ z67] S69 F70 G71 Q
          refine go_iload (show decode cX10_add 127 = .ok (.iload 6, 2) by decide +kernel) (by rfl) ?_
          refine go_i2l (show decode cX10_add 129 = .ok (.i2l, 1) by decide +kernel) ?_
          obtain ⟨q74, h⟩ := h
          refine go_lmul (show decode cX10_add 130 = .ok (.lmul, 1) by decide +kernel) q74 ?_
          obtain ⟨q75, h⟩ := h
          refine go_ladd (show decode cX10_add 131 = .ok (.ladd, 1) by decide +kernel) q75 ?_
          refine go_aload_n (show decode cX10_add 132 = .ok (.aload_n 0, 1) by decide +kernel) (by rfl) ?_
          obtain ⟨q76, h⟩ := h
          refine go_getR (show decode cX10_add 133 = .ok (.getfield 58, 3) by decide +kernel) fl_X10_58 rfl q76 ?_
          refine go_iload (show decode cX10_add 136 = .ok (.iload 8, 2) by decide +kernel) (by rfl) ?_
          obtain ⟨q77, h⟩ := h
          obtain ⟨q78, h⟩ := h
          obtain ⟨q79, h⟩ := h
          refine go_laload (show decode cX10_add 138 = .ok (.laload, 1) by decide +kernel) q77 q78 q79 ?_
          obtain ⟨ht, hf⟩ := h
          refine go_jle (tgt := 147) (show decode cX10_add 139 = .ok (.lcmp, 1) by decide +kernel) (show decode cX10_add 140 = .ok (.ifCond .le 7, 3) by decide +kernel) (by decide) (fun hc => ?_) (fun hc => ?_)
          · have h := ht hc
            exact R_X10_add_147 h
          · have h := hf hc
            refine go_ldc2 (show decode cX10_add 143 = .ok (.ldc2_w 196, 3) by decide +kernel) lc_X10_196 (by decide) ?_
            exact go_lret (show decode cX10_add 146 = .ok (.lreturn, 1) by decide +kernel) rfl h
def V_X10_add_0 (d : Nat) (S : AS) (F : AF) (G : AG) (Q : AQ) (a0 : Nat) (a1 : Int) (a2 : Int) (a3 : Int) (a4 : Int) (a5 : Int) (a6 : Int) : Prop :=
  (sK S a0 = 10) ∧
  ∀ F2 : AF, F2 = fu F a0 0 0 →
  (1 ≤ d) ∧
  Ok (d - 1) MX10_isGood [vI a1] S F2 G (fun w4 S5 F6 G7 =>
  ∃ z8 : Int, w4 = some (vI z8) ∧
  ((z8 = 0) →
    Q (some (vJ (-2))) S5 F6 G7) ∧
  ((¬ z8 = 0) →
    (sK S5 a0 = 10) ∧
    Ok (d - 1) MX10_isRectangle [vR a0, vI a2, vI a3, vI a4, vI a5] S5 F6 G7 (fun w9 S10 F11 G12 =>
    ∃ z14 : Int, w9 = some (vI z14) ∧
    ((¬ z14 = 0) →
      Ok (d - 1) MX10_isIn [vJ a6, vJ (-1000000000), vJ 1000000000] S10 F11 G12 (fun w15 S16 F17 G18 =>
      ∃ z19 : Int, w15 = some (vI z19) ∧
      ((z19 = 0) →
        Q (some (vJ (-3))) S16 F17 G18) ∧
      ((¬ z19 = 0) →
        ((¬ a6 = 0) →
          (sK S16 a0 = 10) ∧
          Ok (d - 1) MX10_breaksBy [vR a0, vI a1, vI a2, vI a3, vI a4, vI a5, vI a6] S16 F17 G18 (fun w20 S21 F22 G23 =>
          ∃ z25 : Int, w20 = some (vI z25) ∧
          ((z25 = 0) →
            Go d MX10_add 80 [some (vR a0), some (vI a1), some (vI a2), some (vI a3), some (vI a4), some (vI a5), some (vI a6), some (vI z25), some (vI 0), none, none, none] [] S21 F22 G23 Q) ∧
          ((¬ z25 = 0) →
            Q (some (vJ z25)) S21 F22 G23))) ∧
        ((a6 = 0) →
          Q (some (vJ (-3))) S16 F17 G18)))) ∧
    ((z14 = 0) →
      Q (some (vJ (-2))) S10 F11 G12))))
theorem R_X10_add_0 {d : Nat} {S : AS} {F : AF} {G : AG} {Q : AQ} {a0 : Nat} {a1 : Int} {a2 : Int} {a3 : Int} {a4 : Int} {a5 : Int} {a6 : Int} (h : V_X10_add_0 d S F G Q a0 a1 a2 a3 a4 a5 a6) : Go d MX10_add 0 [some (vR a0), some (vI a1), some (vI a2), some (vI a3), some (vI a4), some (vI a5), some (vI a6), none, none, none, none, none] [] S F G Q := by
  unfold V_X10_add_0 at h
  refine go_aload_n (show decode cX10_add 0 = .ok (.aload_n 0, 1) by decide +kernel) (by rfl) ?_
  refine go_iconst (show decode cX10_add 1 = .ok (.iconst 0, 1) by decide +kernel) (by decide) ?_
  obtain ⟨q1, h⟩ := h
  refine go_putI (show decode cX10_add 2 = .ok (.putfield 1, 3) by decide +kernel) fl_X10_1 rfl (Or.inl rfl) q1 ?_
  obtain ⟨F2, F2e⟩ : ∃ F2 : AF, F2 = fu F a0 0 0 := ⟨_, rfl⟩
  have h := h F2 F2e
  rw [← F2e]
  refine go_iload_n (show decode cX10_add 5 = .ok (.iload_n 1, 1) by decide +kernel) (by rfl) ?_
  obtain ⟨q3, h⟩ := h
  refine go_callS (d2 := d - 1) (M2 := MX10_isGood) (n := 1) (av := [vI a1]) (st := []) (show decode cX10_add 6 = .ok (.invokestatic 167, 3) by decide +kernel) ml_X10_167 mt_X10_isGood mst_X10_isGood rfl (Nat.le_of_ble_eq_true rfl) (by omega) (ok_mono h (fun w4 S5 F6 G7 h => ?_))
  obtain ⟨z8, e9, h⟩ := h
  subst e9
  show Go d MX10_add 9 [some (vR a0), some (vI a1), some (vI a2), some (vI a3), some (vI a4), some (vI a5), some (vI a6), none, none, none, none, none] [vI z8] S5 F6 G7 Q
  obtain ⟨ht, hf⟩ := h
  refine go_ifeq (tgt := 25) (show decode cX10_add 9 = .ok (.ifCond .eq 16, 3) by decide +kernel) (by decide) (fun hc => ?_) (fun hc => ?_)
  · have h := ht hc
    refine go_ldc2 (show decode cX10_add 25 = .ok (.ldc2_w 174, 3) by decide +kernel) lc_X10_174 (by decide) ?_
    exact go_lret (show decode cX10_add 28 = .ok (.lreturn, 1) by decide +kernel) rfl h
  · have h := hf hc
    refine go_aload_n (show decode cX10_add 12 = .ok (.aload_n 0, 1) by decide +kernel) (by rfl) ?_
    refine go_iload_n (show decode cX10_add 13 = .ok (.iload_n 2, 1) by decide +kernel) (by rfl) ?_
    refine go_iload_n (show decode cX10_add 14 = .ok (.iload_n 3, 1) by decide +kernel) (by rfl) ?_
    refine go_iload (show decode cX10_add 15 = .ok (.iload 4, 2) by decide +kernel) (by rfl) ?_
    refine go_iload (show decode cX10_add 17 = .ok (.iload 5, 2) by decide +kernel) (by rfl) ?_
    obtain ⟨q13, h⟩ := h
    refine go_callV (d2 := d - 1) (M2 := MX10_isRectangle) (n := 4) (ci := 10) (av := [vI a2, vI a3, vI a4, vI a5]) (st := []) (show decode cX10_add 19 = .ok (.invokevirtual 170, 3) by decide +kernel) ml_X10_170 mt_X10_isRectangle min_X10_isRectangle mse_X10_isRectangle (by decide) q13 rfl (Nat.le_of_ble_eq_true rfl) (by omega) (ok_mono h (fun w9 S10 F11 G12 h => ?_))
    obtain ⟨z14, e9, h⟩ := h
    subst e9
    show Go d MX10_add 22 [some (vR a0), some (vI a1), some (vI a2), some (vI a3), some (vI a4), some (vI a5), some (vI a6), none, none, none, none, none] [vI z14] S10 F11 G12 Q
    obtain ⟨ht, hf⟩ := h
    refine go_ifne (tgt := 29) (show decode cX10_add 22 = .ok (.ifCond .ne 7, 3) by decide +kernel) (by decide) (fun hc => ?_) (fun hc => ?_)
    · have h := ht hc
      refine go_iload (show decode cX10_add 29 = .ok (.iload 6, 2) by decide +kernel) (by rfl) ?_
      refine go_i2l (show decode cX10_add 31 = .ok (.i2l, 1) by decide +kernel) ?_
      refine go_ldc2 (show decode cX10_add 32 = .ok (.ldc2_w 176, 3) by decide +kernel) lc_X10_176 (by decide) ?_
      refine go_ldc2 (show decode cX10_add 35 = .ok (.ldc2_w 178, 3) by decide +kernel) lc_X10_178 (by decide) ?_
      refine go_callS (d2 := d - 1) (M2 := MX10_isIn) (n := 3) (av := [vJ a6, vJ (-1000000000), vJ 1000000000]) (st := []) (show decode cX10_add 38 = .ok (.invokestatic 116, 3) by decide +kernel) ml_X10_116 mt_X10_isIn mst_X10_isIn rfl (Nat.le_of_ble_eq_true rfl) (by omega) (ok_mono h (fun w15 S16 F17 G18 h => ?_))
      obtain ⟨z19, e9, h⟩ := h
      subst e9
      show Go d MX10_add 41 [some (vR a0), some (vI a1), some (vI a2), some (vI a3), some (vI a4), some (vI a5), some (vI a6), none, none, none, none, none] [vI z19] S16 F17 G18 Q
      obtain ⟨ht, hf⟩ := h
      refine go_ifeq (tgt := 49) (show decode cX10_add 41 = .ok (.ifCond .eq 8, 3) by decide +kernel) (by decide) (fun hc => ?_) (fun hc => ?_)
      · have h := ht hc
        refine go_ldc2 (show decode cX10_add 49 = .ok (.ldc2_w 120, 3) by decide +kernel) lc_X10_120 (by decide) ?_
        exact go_lret (show decode cX10_add 52 = .ok (.lreturn, 1) by decide +kernel) rfl h
      · have h := hf hc
        refine go_iload (show decode cX10_add 44 = .ok (.iload 6, 2) by decide +kernel) (by rfl) ?_
        obtain ⟨ht, hf⟩ := h
        refine go_ifne (tgt := 53) (show decode cX10_add 46 = .ok (.ifCond .ne 7, 3) by decide +kernel) (by decide) (fun hc => ?_) (fun hc => ?_)
        · have h := ht hc
          refine go_aload_n (show decode cX10_add 53 = .ok (.aload_n 0, 1) by decide +kernel) (by rfl) ?_
          refine go_iload_n (show decode cX10_add 54 = .ok (.iload_n 1, 1) by decide +kernel) (by rfl) ?_
          refine go_iload_n (show decode cX10_add 55 = .ok (.iload_n 2, 1) by decide +kernel) (by rfl) ?_
          refine go_iload_n (show decode cX10_add 56 = .ok (.iload_n 3, 1) by decide +kernel) (by rfl) ?_
          refine go_iload (show decode cX10_add 57 = .ok (.iload 4, 2) by decide +kernel) (by rfl) ?_
          refine go_iload (show decode cX10_add 59 = .ok (.iload 5, 2) by decide +kernel) (by rfl) ?_
          refine go_iload (show decode cX10_add 61 = .ok (.iload 6, 2) by decide +kernel) (by rfl) ?_
          obtain ⟨q24, h⟩ := h
          refine go_callV (d2 := d - 1) (M2 := MX10_breaksBy) (n := 6) (ci := 10) (av := [vI a1, vI a2, vI a3, vI a4, vI a5, vI a6]) (st := []) (show decode cX10_add 63 = .ok (.invokevirtual 180, 3) by decide +kernel) ml_X10_180 mt_X10_breaksBy min_X10_breaksBy mse_X10_breaksBy (by decide) q24 rfl (Nat.le_of_ble_eq_true rfl) (by omega) (ok_mono h (fun w20 S21 F22 G23 h => ?_))
          obtain ⟨z25, e9, h⟩ := h
          subst e9
          show Go d MX10_add 66 [some (vR a0), some (vI a1), some (vI a2), some (vI a3), some (vI a4), some (vI a5), some (vI a6), none, none, none, none, none] [vI z25] S21 F22 G23 Q
          refine go_istore (show decode cX10_add 66 = .ok (.istore 7, 2) by decide +kernel) (by decide) ?_
          show Go d MX10_add 68 [some (vR a0), some (vI a1), some (vI a2), some (vI a3), some (vI a4), some (vI a5), some (vI a6), some (vI z25), none, none, none, none] [] S21 F22 G23 Q
          refine go_iload (show decode cX10_add 68 = .ok (.iload 7, 2) by decide +kernel) (by rfl) ?_
          obtain ⟨ht, hf⟩ := h
          refine go_ifeq (tgt := 77) (show decode cX10_add 70 = .ok (.ifCond .eq 7, 3) by decide +kernel) (by decide) (fun hc => ?_) (fun hc => ?_)
          · have h := ht hc
            refine go_iconst (show decode cX10_add 77 = .ok (.iconst 0, 1) by decide +kernel) (by decide) ?_
            refine go_istore (show decode cX10_add 78 = .ok (.istore 8, 2) by decide +kernel) (by decide) ?_
            show Go d MX10_add 80 [some (vR a0), some (vI a1), some (vI a2), some (vI a3), some (vI a4), some (vI a5), some (vI a6), some (vI z25), some (vI 0), none, none, none] [] S21 F22 G23 Q
            exact h
          · have h := hf hc
            refine go_iload (show decode cX10_add 73 = .ok (.iload 7, 2) by decide +kernel) (by rfl) ?_
            refine go_i2l (show decode cX10_add 75 = .ok (.i2l, 1) by decide +kernel) ?_
            exact go_lret (show decode cX10_add 76 = .ok (.lreturn, 1) by decide +kernel) rfl h
        · have h := hf hc
          refine go_ldc2 (show decode cX10_add 49 = .ok (.ldc2_w 120, 3) by decide +kernel) lc_X10_120 (by decide) ?_
          exact go_lret (show decode cX10_add 52 = .ok (.lreturn, 1) by decide +kernel) rfl h
    · have h := hf hc
      refine go_ldc2 (show decode cX10_add 25 = .ok (.ldc2_w 174, 3) by decide +kernel) lc_X10_174 (by decide) ?_
      exact go_lret (show decode cX10_add 28 = .ok (.lreturn, 1) by decide +kernel) rfl h
def V_X10_isGood_0 (d : Nat) (S : AS) (F : AF) (G : AG) (Q : AQ) (a0 : Int) : Prop :=
  (1 ≤ d) ∧
  Ok (d - 1) MX10_isIn [vJ a0, vJ 0, vJ 2] S F G (fun w2 S3 F4 G5 =>
  ∃ z6 : Int, w2 = some (vI z6) ∧
  (z6 = 0 ∨ z6 = 1) ∧
  Q (some (vI z6)) S3 F4 G5)
theorem R_X10_isGood_0 {d : Nat} {S : AS} {F : AF} {G : AG} {Q : AQ} {a0 : Int} (h : V_X10_isGood_0 d S F G Q a0) : Go d MX10_isGood 0 [some (vI a0)] [] S F G Q := by
  unfold V_X10_isGood_0 at h
  refine go_iload_n (show decode cX10_isGood 0 = .ok (.iload_n 0, 1) by decide +kernel) (by rfl) ?_
  refine go_i2l (show decode cX10_isGood 1 = .ok (.i2l, 1) by decide +kernel) ?_
  refine go_lconst (n := 0) (show decode cX10_isGood 2 = .ok (.lconst 0, 1) by decide +kernel) ?_
  show Go d MX10_isGood 3 [some (vI a0)] [vJ 0, vJ a0] S F G Q
  refine go_ldc2 (show decode cX10_isGood 3 = .ok (.ldc2_w 157, 3) by decide +kernel) lc_X10_157 (by decide) ?_
  obtain ⟨q1, h⟩ := h
  refine go_callS (d2 := d - 1) (M2 := MX10_isIn) (n := 3) (av := [vJ a0, vJ 0, vJ 2]) (st := []) (show decode cX10_isGood 6 = .ok (.invokestatic 116, 3) by decide +kernel) ml_X10_116 mt_X10_isIn mst_X10_isIn rfl (Nat.le_of_ble_eq_true rfl) (by omega) (ok_mono h (fun w2 S3 F4 G5 h => ?_))
  obtain ⟨z6, e9, h⟩ := h
  subst e9
  show Go d MX10_isGood 9 [some (vI a0)] [vI z6] S3 F4 G5 Q
  obtain ⟨q7, h⟩ := h
  exact go_zret (show decode cX10_isGood 9 = .ok (.ireturn, 1) by decide +kernel) rfl q7 h
def V_X10_isRectangle_0 (d : Nat) (S : AS) (F : AF) (G : AG) (Q : AQ) (a0 : Nat) (a1 : Int) (a2 : Int) (a3 : Int) (a4 : Int) : Prop :=
  ((a1 < 0) →
    Q (some (vI 0)) S F G) ∧
  ((¬ a1 < 0) →
    ((a3 < a1) →
      Q (some (vI 0)) S F G) ∧
    ((¬ a3 < a1) →
      (sK S a0 = 10) ∧
      ((F a0 1 ≤ a3) →
        Q (some (vI 0)) S F G) ∧
      ((¬ F a0 1 ≤ a3) →
        ((a2 < 0) →
          Q (some (vI 0)) S F G) ∧
        ((¬ a2 < 0) →
          ((a4 < a2) →
            Q (some (vI 0)) S F G) ∧
          ((¬ a4 < a2) →
            ((F a0 2 ≤ a4) →
              Q (some (vI 0)) S F G) ∧
            ((¬ F a0 2 ≤ a4) →
              Q (some (vI 1)) S F G))))))
theorem R_X10_isRectangle_0 {d : Nat} {S : AS} {F : AF} {G : AG} {Q : AQ} {a0 : Nat} {a1 : Int} {a2 : Int} {a3 : Int} {a4 : Int} (h : V_X10_isRectangle_0 d S F G Q a0 a1 a2 a3 a4) : Go d MX10_isRectangle 0 [some (vR a0), some (vI a1), some (vI a2), some (vI a3), some (vI a4)] [] S F G Q := by
  unfold V_X10_isRectangle_0 at h
  refine go_iload_n (show decode cX10_isRectangle 0 = .ok (.iload_n 1, 1) by decide +kernel) (by rfl) ?_
  obtain ⟨ht, hf⟩ := h
  refine go_iflt (tgt := 40) (show decode cX10_isRectangle 1 = .ok (.ifCond .lt 39, 3) by decide +kernel) (by decide) (fun hc => ?_) (fun hc => ?_)
  · have h := ht hc
    refine go_iconst (show decode cX10_isRectangle 40 = .ok (.iconst 0, 1) by decide +kernel) (by decide) ?_
    exact go_zret (show decode cX10_isRectangle 41 = .ok (.ireturn, 1) by decide +kernel) rfl (by decide) h
  · have h := hf hc
    refine go_iload_n (show decode cX10_isRectangle 4 = .ok (.iload_n 1, 1) by decide +kernel) (by rfl) ?_
    refine go_iload_n (show decode cX10_isRectangle 5 = .ok (.iload_n 3, 1) by decide +kernel) (by rfl) ?_
    obtain ⟨ht, hf⟩ := h
    refine go_icmpgt (tgt := 40) (show decode cX10_isRectangle 6 = .ok (.if_icmp .gt 34, 3) by decide +kernel) (by decide) (fun hc => ?_) (fun hc => ?_)
    · have h := ht hc
      refine go_iconst (show decode cX10_isRectangle 40 = .ok (.iconst 0, 1) by decide +kernel) (by decide) ?_
      exact go_zret (show decode cX10_isRectangle 41 = .ok (.ireturn, 1) by decide +kernel) rfl (by decide) h
    · have h := hf hc
      refine go_iload_n (show decode cX10_isRectangle 9 = .ok (.iload_n 3, 1) by decide +kernel) (by rfl) ?_
      refine go_aload_n (show decode cX10_isRectangle 10 = .ok (.aload_n 0, 1) by decide +kernel) (by rfl) ?_
      obtain ⟨q1, h⟩ := h
      refine go_getI (show decode cX10_isRectangle 11 = .ok (.getfield 13, 3) by decide +kernel) fl_X10_13 (Or.inl rfl) q1 ?_
      obtain ⟨ht, hf⟩ := h
      refine go_icmpge (tgt := 40) (show decode cX10_isRectangle 14 = .ok (.if_icmp .ge 26, 3) by decide +kernel) (by decide) (fun hc => ?_) (fun hc => ?_)
      · have h := ht hc
        refine go_iconst (show decode cX10_isRectangle 40 = .ok (.iconst 0, 1) by decide +kernel) (by decide) ?_
        exact go_zret (show decode cX10_isRectangle 41 = .ok (.ireturn, 1) by decide +kernel) rfl (by decide) h
      · have h := hf hc
        refine go_iload_n (show decode cX10_isRectangle 17 = .ok (.iload_n 2, 1) by decide +kernel) (by rfl) ?_
        obtain ⟨ht, hf⟩ := h
        refine go_iflt (tgt := 40) (show decode cX10_isRectangle 18 = .ok (.ifCond .lt 22, 3) by decide +kernel) (by decide) (fun hc => ?_) (fun hc => ?_)
        · have h := ht hc
          refine go_iconst (show decode cX10_isRectangle 40 = .ok (.iconst 0, 1) by decide +kernel) (by decide) ?_
          exact go_zret (show decode cX10_isRectangle 41 = .ok (.ireturn, 1) by decide +kernel) rfl (by decide) h
        · have h := hf hc
          refine go_iload_n (show decode cX10_isRectangle 21 = .ok (.iload_n 2, 1) by decide +kernel) (by rfl) ?_
          refine go_iload (show decode cX10_isRectangle 22 = .ok (.iload 4, 2) by decide +kernel) (by rfl) ?_
          obtain ⟨ht, hf⟩ := h
          refine go_icmpgt (tgt := 40) (show decode cX10_isRectangle 24 = .ok (.if_icmp .gt 16, 3) by decide +kernel) (by decide) (fun hc => ?_) (fun hc => ?_)
          · have h := ht hc
            refine go_iconst (show decode cX10_isRectangle 40 = .ok (.iconst 0, 1) by decide +kernel) (by decide) ?_
            exact go_zret (show decode cX10_isRectangle 41 = .ok (.ireturn, 1) by decide +kernel) rfl (by decide) h
          · have h := hf hc
            refine go_iload (show decode cX10_isRectangle 27 = .ok (.iload 4, 2) by decide +kernel) (by rfl) ?_
            refine go_aload_n (show decode cX10_isRectangle 29 = .ok (.aload_n 0, 1) by decide +kernel) (by rfl) ?_
            refine go_getI (show decode cX10_isRectangle 30 = .ok (.getfield 16, 3) by decide +kernel) fl_X10_16 (Or.inl rfl) q1 ?_
            obtain ⟨ht, hf⟩ := h
            refine go_icmpge (tgt := 40) (show decode cX10_isRectangle 33 = .ok (.if_icmp .ge 7, 3) by decide +kernel) (by decide) (fun hc => ?_) (fun hc => ?_)
            · have h := ht hc
              refine go_iconst (show decode cX10_isRectangle 40 = .ok (.iconst 0, 1) by decide +kernel) (by decide) ?_
              exact go_zret (show decode cX10_isRectangle 41 = .ok (.ireturn, 1) by decide +kernel) rfl (by decide) h
            · have h := hf hc
              refine go_iconst (show decode cX10_isRectangle 36 = .ok (.iconst 1, 1) by decide +kernel) (by decide) ?_
              refine go_goto (tgt := 41) (show decode cX10_isRectangle 37 = .ok (.goto 4, 3) by decide +kernel) (by decide) ?_
              exact go_zret (show decode cX10_isRectangle 41 = .ok (.ireturn, 1) by decide +kernel) rfl (by decide) h
def V_X10_breaksBy_126 (d : Nat) (S : AS) (F : AF) (G : AG) (Q : AQ) (a0 : Nat) (a1 : Int) (a2 : Int) (a3 : Int) (a4 : Int) (a5 : Int) (a6 : Int) (a7 : Int) (a8 : Int) (a9 : Int) (a10 : Int) : Prop :=
  (r32 (a10 + 1)) ∧
  Go d MX10_breaksBy 23 [some (vR a0), some (vI a1), some (vI a2), some (vI a3), some (vI a4), some (vI a5), some (vI a6), some (vI a7), some (vI a8), some (vI a9), some (vI (a10 + 1))] [] S F G Q
theorem R_X10_breaksBy_126 {d : Nat} {S : AS} {F : AF} {G : AG} {Q : AQ} {a0 : Nat} {a1 : Int} {a2 : Int} {a3 : Int} {a4 : Int} {a5 : Int} {a6 : Int} {a7 : Int} {a8 : Int} {a9 : Int} {a10 : Int} (h : V_X10_breaksBy_126 d S F G Q a0 a1 a2 a3 a4 a5 a6 a7 a8 a9 a10) : Go d MX10_breaksBy 126 [some (vR a0), some (vI a1), some (vI a2), some (vI a3), some (vI a4), some (vI a5), some (vI a6), some (vI a7), some (vI a8), some (vI a9), some (vI a10)] [] S F G Q := by
  unfold V_X10_breaksBy_126 at h
  obtain ⟨q1, h⟩ := h
  refine go_iinc (show decode cX10_breaksBy 126 = .ok (.iinc 10 1, 3) by decide +kernel) (by rfl) q1 (by decide) ?_
  show Go d MX10_breaksBy 129 [some (vR a0), some (vI a1), some (vI a2), some (vI a3), some (vI a4), some (vI a5), some (vI a6), some (vI a7), some (vI a8), some (vI a9), some (vI (a10 + 1))] [] S F G Q
  refine go_goto (tgt := 23) (show decode cX10_breaksBy 129 = .ok (.goto (-106), 3) by decide +kernel) (by decide) ?_
  exact h
def V_X10_breaksBy_124 (d : Nat) (S : AS) (F : AF) (G : AG) (Q : AQ) (a0 : Nat) (a1 : Int) (a2 : Int) (a3 : Int) (a4 : Int) (a5 : Int) (a6 : Int) (a7 : Int) (a8 : Int) (a9 : Int) (a10 : Int) (s0 : Int) : Prop :=
  V_X10_breaksBy_126 d S F G Q a0 a1 a2 a3 a4 a5 a6 a7 s0 a9 a10
theorem R_X10_breaksBy_124 {d : Nat} {S : AS} {F : AF} {G : AG} {Q : AQ} {a0 : Nat} {a1 : Int} {a2 : Int} {a3 : Int} {a4 : Int} {a5 : Int} {a6 : Int} {a7 : Int} {a8 : Int} {a9 : Int} {a10 : Int} {s0 : Int} (h : V_X10_breaksBy_124 d S F G Q a0 a1 a2 a3 a4 a5 a6 a7 a8 a9 a10 s0) : Go d MX10_breaksBy 124 [some (vR a0), some (vI a1), some (vI a2), some (vI a3), some (vI a4), some (vI a5), some (vI a6), some (vI a7), some (vI a8), some (vI a9), some (vI a10)] [vI s0] S F G Q := by
  unfold V_X10_breaksBy_124 at h
  refine go_istore (show decode cX10_breaksBy 124 = .ok (.istore 8, 2) by decide +kernel) (by decide) ?_
  show Go d MX10_breaksBy 126 [some (vR a0), some (vI a1), some (vI a2), some (vI a3), some (vI a4), some (vI a5), some (vI a6), some (vI a7), some (vI s0), some (vI a9), some (vI a10)] [] S F G Q
  exact R_X10_breaksBy_126 h
def V_X10_breaksBy_119 (d : Nat) (S : AS) (F : AF) (G : AG) (Q : AQ) (a0 : Nat) (a1 : Int) (a2 : Int) (a3 : Int) (a4 : Int) (a5 : Int) (a6 : Int) (a7 : Int) (a8 : Int) (a9 : Int) (a10 : Int) : Prop :=
  V_X10_breaksBy_124 d S F G Q a0 a1 a2 a3 a4 a5 a6 a7 a8 a9 a10 1
theorem R_X10_breaksBy_119 {d : Nat} {S : AS} {F : AF} {G : AG} {Q : AQ} {a0 : Nat} {a1 : Int} {a2 : Int} {a3 : Int} {a4 : Int} {a5 : Int} {a6 : Int} {a7 : Int} {a8 : Int} {a9 : Int} {a10 : Int} (h : V_X10_breaksBy_119 d S F G Q a0 a1 a2 a3 a4 a5 a6 a7 a8 a9 a10) : Go d MX10_breaksBy 119 [some (vR a0), some (vI a1), some (vI a2), some (vI a3), some (vI a4), some (vI a5), some (vI a6), some (vI a7), some (vI a8), some (vI a9), some (vI a10)] [] S F G Q := by
  unfold V_X10_breaksBy_119 at h
  refine go_iconst (show decode cX10_breaksBy 119 = .ok (.iconst 1, 1) by decide +kernel) (by decide) ?_
  refine go_goto (tgt := 124) (show decode cX10_breaksBy 120 = .ok (.goto 4, 3) by decide +kernel) (by decide) ?_
  exact R_X10_breaksBy_124 h
def V_X10_breaksBy_91 (d : Nat) (S : AS) (F : AF) (G : AG) (Q : AQ) (a0 : Nat) (a1 : Int) (a2 : Int) (a3 : Int) (a4 : Int) (a5 : Int) (a6 : Int) (a7 : Int) (a8 : Int) (a9 : Int) (a10 : Int) (s0 : Int) : Prop :=
  ((¬ a8 = 0) →
    V_X10_breaksBy_119 d S F G Q a0 a1 a2 a3 a4 a5 a6 s0 a8 a9 a10) ∧
  ((a8 = 0) →
    (1 ≤ d) ∧
    (sK S a0 = 10) ∧
    Ok (d - 1) MX10_in [vR a0, vI (-1), vI a9, vI a10] S F G (fun w2 S3 F4 G5 =>
    ∃ z7 : Int, w2 = some (vJ z7) ∧
    (r64 (z7 + a6)) ∧
    (sK S3 a0 = 10) ∧
    ((z7 + a6 ≤ F4 a0 3) →
      V_X10_breaksBy_124 d S3 F4 G5 Q a0 a1 a2 a3 a4 a5 a6 s0 a8 a9 a10 0) ∧
    ((¬ z7 + a6 ≤ F4 a0 3) →
      V_X10_breaksBy_119 d S3 F4 G5 Q a0 a1 a2 a3 a4 a5 a6 s0 a8 a9 a10)))
theorem R_X10_breaksBy_91 {d : Nat} {S : AS} {F : AF} {G : AG} {Q : AQ} {a0 : Nat} {a1 : Int} {a2 : Int} {a3 : Int} {a4 : Int} {a5 : Int} {a6 : Int} {a7 : Int} {a8 : Int} {a9 : Int} {a10 : Int} {s0 : Int} (h : V_X10_breaksBy_91 d S F G Q a0 a1 a2 a3 a4 a5 a6 a7 a8 a9 a10 s0) : Go d MX10_breaksBy 91 [some (vR a0), some (vI a1), some (vI a2), some (vI a3), some (vI a4), some (vI a5), some (vI a6), some (vI a7), some (vI a8), some (vI a9), some (vI a10)] [vI s0] S F G Q := by
  unfold V_X10_breaksBy_91 at h
  refine go_istore (show decode cX10_breaksBy 91 = .ok (.istore 7, 2) by decide +kernel) (by decide) ?_
  show Go d MX10_breaksBy 93 [some (vR a0), some (vI a1), some (vI a2), some (vI a3), some (vI a4), some (vI a5), some (vI a6), some (vI s0), some (vI a8), some (vI a9), some (vI a10)] [] S F G Q
  refine go_iload (show decode cX10_breaksBy 93 = .ok (.iload 8, 2) by decide +kernel) (by rfl) ?_
  obtain ⟨ht, hf⟩ := h
  refine go_ifne (tgt := 119) (show decode cX10_breaksBy 95 = .ok (.ifCond .ne 24, 3) by decide +kernel) (by decide) (fun hc => ?_) (fun hc => ?_)
  · have h := ht hc
    exact R_X10_breaksBy_119 h
  · have h := hf hc
    refine go_aload_n (show decode cX10_breaksBy 98 = .ok (.aload_n 0, 1) by decide +kernel) (by rfl) ?_
    refine go_iconst (show decode cX10_breaksBy 99 = .ok (.iconst (-1), 1) by decide +kernel) (by decide) ?_
    refine go_iload (show decode cX10_breaksBy 100 = .ok (.iload 9, 2) by decide +kernel) (by rfl) ?_
    refine go_iload (show decode cX10_breaksBy 102 = .ok (.iload 10, 2) by decide +kernel) (by rfl) ?_
    obtain ⟨q1, h⟩ := h
    obtain ⟨q6, h⟩ := h
    refine go_callV (d2 := d - 1) (M2 := MX10_in) (n := 3) (ci := 10) (av := [vI (-1), vI a9, vI a10]) (st := []) (show decode cX10_breaksBy 104 = .ok (.invokevirtual 163, 3) by decide +kernel) ml_X10_163 mt_X10_in min_X10_in mse_X10_in (by decide) q6 rfl (Nat.le_of_ble_eq_true rfl) (by omega) (ok_mono h (fun w2 S3 F4 G5 h => ?_))
    obtain ⟨z7, e9, h⟩ := h
    subst e9
    show Go d MX10_breaksBy 107 [some (vR a0), some (vI a1), some (vI a2), some (vI a3), some (vI a4), some (vI a5), some (vI a6), some (vI s0), some (vI a8), some (vI a9), some (vI a10)] [vJ z7] S3 F4 G5 Q
    refine go_iload (show decode cX10_breaksBy 107 = .ok (.iload 6, 2) by decide +kernel) (by rfl) ?_
    refine go_i2l (show decode cX10_breaksBy 109 = .ok (.i2l, 1) by decide +kernel) ?_
    obtain ⟨q8, h⟩ := h
    refine go_ladd (show decode cX10_breaksBy 110 = .ok (.ladd, 1) by decide +kernel) q8 ?_
    refine go_aload_n (show decode cX10_breaksBy 111 = .ok (.aload_n 0, 1) by decide +kernel) (by rfl) ?_
    obtain ⟨q9, h⟩ := h
    refine go_getJ (show decode cX10_breaksBy 112 = .ok (.getfield 21, 3) by decide +kernel) fl_X10_21 rfl q9 ?_
    obtain ⟨ht, hf⟩ := h
    refine go_jle (tgt := 123) (show decode cX10_breaksBy 115 = .ok (.lcmp, 1) by decide +kernel) (show decode cX10_breaksBy 116 = .ok (.ifCond .le 7, 3) by decide +kernel) (by decide) (fun hc => ?_) (fun hc => ?_)
    · have h := ht hc
      refine go_iconst (show decode cX10_breaksBy 123 = .ok (.iconst 0, 1) by decide +kernel) (by decide) ?_
      exact R_X10_breaksBy_124 h
    · have h := hf hc
      exact R_X10_breaksBy_119 h
def V_X10_breaksBy_86 (d : Nat) (S : AS) (F : AF) (G : AG) (Q : AQ) (a0 : Nat) (a1 : Int) (a2 : Int) (a3 : Int) (a4 : Int) (a5 : Int) (a6 : Int) (a7 : Int) (a8 : Int) (a9 : Int) (a10 : Int) : Prop :=
  V_X10_breaksBy_91 d S F G Q a0 a1 a2 a3 a4 a5 a6 a7 a8 a9 a10 1
theorem R_X10_breaksBy_86 {d : Nat} {S : AS} {F : AF} {G : AG} {Q : AQ} {a0 : Nat} {a1 : Int} {a2 : Int} {a3 : Int} {a4 : Int} {a5 : Int} {a6 : Int} {a7 : Int} {a8 : Int} {a9 : Int} {a10 : Int} (h : V_X10_breaksBy_86 d S F G Q a0 a1 a2 a3 a4 a5 a6 a7 a8 a9 a10) : Go d MX10_breaksBy 86 [some (vR a0), some (vI a1), some (vI a2), some (vI a3), some (vI a4), some (vI a5), some (vI a6), some (vI a7), some (vI a8), some (vI a9), some (vI a10)] [] S F G Q := by
  unfold V_X10_breaksBy_86 at h
  refine go_iconst (show decode cX10_breaksBy 86 = .ok (.iconst 1, 1) by decide +kernel) (by decide) ?_
  refine go_goto (tgt := 91) (show decode cX10_breaksBy 87 = .ok (.goto 4, 3) by decide +kernel) (by decide) ?_
  exact R_X10_breaksBy_91 h
def V_X10_breaksBy_23 (d : Nat) (S : AS) (F : AF) (G : AG) (Q : AQ) (a0 : Nat) (a1 : Int) (a2 : Int) (a3 : Int) (a4 : Int) (a5 : Int) (a6 : Int) (a7 : Int) (a8 : Int) (a9 : Int) (a10 : Int) : Prop :=
  (sK S a0 = 10) ∧
  (sK S (sR S a0 5) = 20) ∧
  ((1 : Int) < (sN S (sR S a0 5) : Int)) ∧
  ((G (sR S a0 5) 1 ≤ a10) →
    (r32 (a9 + 1)) ∧
    Go d MX10_breaksBy 9 [some (vR a0), some (vI a1), some (vI a2), some (vI a3), some (vI a4), some (vI a5), some (vI a6), some (vI a7), some (vI a8), some (vI (a9 + 1)), none] [] S F G Q) ∧
  ((¬ G (sR S a0 5) 1 ≤ a10) →
    (1 ≤ d) ∧
    Ok (d - 1) MX10_part [vR a0, vI 0, vI a9, vI a2, vI a4] S F G (fun w6 S7 F8 G9 =>
    ∃ z10 : Int, w6 = some (vI z10) ∧
    ((z10 = 0) →
      V_X10_breaksBy_126 d S7 F8 G9 Q a0 a1 a2 a3 a4 a5 a6 a7 a8 a9 a10) ∧
    ((¬ z10 = 0) →
      (sK S7 a0 = 10) ∧
      Ok (d - 1) MX10_part [vR a0, vI 1, vI a10, vI a3, vI a5] S7 F8 G9 (fun w11 S12 F13 G14 =>
      ∃ z16 : Int, w11 = some (vI z16) ∧
      ((¬ z16 = 0) →
        ((¬ a7 = 0) →
          V_X10_breaksBy_86 d S12 F13 G14 Q a0 a1 a2 a3 a4 a5 a6 a7 a8 a9 a10) ∧
        ((a7 = 0) →
          (sK S12 a0 = 10) ∧
          Ok (d - 1) MX10_in [vR a0, vI a1, vI a9, vI a10] S12 F13 G14 (fun w17 S18 F19 G20 =>
          ∃ z22 : Int, w17 = some (vJ z22) ∧
          (r64 (z22 + a6)) ∧
          ((0 ≤ z22 + a6) →
            V_X10_breaksBy_91 d S18 F19 G20 Q a0 a1 a2 a3 a4 a5 a6 a7 a8 a9 a10 0) ∧
          ((¬ 0 ≤ z22 + a6) →
            V_X10_breaksBy_86 d S18 F19 G20 Q a0 a1 a2 a3 a4 a5 a6 a7 a8 a9 a10)))) ∧
      ((z16 = 0) →
        V_X10_breaksBy_126 d S12 F13 G14 Q a0 a1 a2 a3 a4 a5 a6 a7 a8 a9 a10)))))
theorem R_X10_breaksBy_23 {d : Nat} {S : AS} {F : AF} {G : AG} {Q : AQ} {a0 : Nat} {a1 : Int} {a2 : Int} {a3 : Int} {a4 : Int} {a5 : Int} {a6 : Int} {a7 : Int} {a8 : Int} {a9 : Int} {a10 : Int} (h : V_X10_breaksBy_23 d S F G Q a0 a1 a2 a3 a4 a5 a6 a7 a8 a9 a10) : Go d MX10_breaksBy 23 [some (vR a0), some (vI a1), some (vI a2), some (vI a3), some (vI a4), some (vI a5), some (vI a6), some (vI a7), some (vI a8), some (vI a9), some (vI a10)] [] S F G Q := by
  unfold V_X10_breaksBy_23 at h
  refine go_iload (show decode cX10_breaksBy 23 = .ok (.iload 10, 2) by decide +kernel) (by rfl) ?_
  refine go_aload_n (show decode cX10_breaksBy 25 = .ok (.aload_n 0, 1) by decide +kernel) (by rfl) ?_
  obtain ⟨q1, h⟩ := h
  refine go_getR (show decode cX10_breaksBy 26 = .ok (.getfield 29, 3) by decide +kernel) fl_X10_29 rfl q1 ?_
  refine go_iconst (show decode cX10_breaksBy 29 = .ok (.iconst 1, 1) by decide +kernel) (by decide) ?_
  obtain ⟨q2, h⟩ := h
  obtain ⟨q3, h⟩ := h
  refine go_iaload (show decode cX10_breaksBy 30 = .ok (.iaload, 1) by decide +kernel) q2 (by decide) q3 ?_
  obtain ⟨ht, hf⟩ := h
  refine go_icmpge (tgt := 132) (show decode cX10_breaksBy 31 = .ok (.if_icmp .ge 101, 3) by decide +kernel) (by decide) (fun hc => ?_) (fun hc => ?_)
  · have h := ht hc
    obtain ⟨q4, h⟩ := h
    refine go_iinc (show decode cX10_breaksBy 132 = .ok (.iinc 9 1, 3) by decide +kernel) (by rfl) q4 (by decide) ?_
    show Go d MX10_breaksBy 135 [some (vR a0), some (vI a1), some (vI a2), some (vI a3), some (vI a4), some (vI a5), some (vI a6), some (vI a7), some (vI a8), some (vI (a9 + 1)), some (vI a10)] [] S F G Q
    refine go_goto (tgt := 9) (show decode cX10_breaksBy 135 = .ok (.goto (-126), 3) by decide +kernel) (by decide) ?_
    refine go_clr 10 ?_
    exact h
  · have h := hf hc
    refine go_aload_n (show decode cX10_breaksBy 34 = .ok (.aload_n 0, 1) by decide +kernel) (by rfl) ?_
    refine go_iconst (show decode cX10_breaksBy 35 = .ok (.iconst 0, 1) by decide +kernel) (by decide) ?_
    refine go_iload (show decode cX10_breaksBy 36 = .ok (.iload 9, 2) by decide +kernel) (by rfl) ?_
    refine go_iload_n (show decode cX10_breaksBy 38 = .ok (.iload_n 2, 1) by decide +kernel) (by rfl) ?_
    refine go_iload (show decode cX10_breaksBy 39 = .ok (.iload 4, 2) by decide +kernel) (by rfl) ?_
    obtain ⟨q5, h⟩ := h
    refine go_callV (d2 := d - 1) (M2 := MX10_part) (n := 4) (ci := 10) (av := [vI 0, vI a9, vI a2, vI a4]) (st := []) (show decode cX10_breaksBy 41 = .ok (.invokevirtual 159, 3) by decide +kernel) ml_X10_159 mt_X10_part min_X10_part mse_X10_part (by decide) q1 rfl (Nat.le_of_ble_eq_true rfl) (by omega) (ok_mono h (fun w6 S7 F8 G9 h => ?_))
    obtain ⟨z10, e9, h⟩ := h
    subst e9
    show Go d MX10_breaksBy 44 [some (vR a0), some (vI a1), some (vI a2), some (vI a3), some (vI a4), some (vI a5), some (vI a6), some (vI a7), some (vI a8), some (vI a9), some (vI a10)] [vI z10] S7 F8 G9 Q
    obtain ⟨ht, hf⟩ := h
    refine go_ifeq (tgt := 126) (show decode cX10_breaksBy 44 = .ok (.ifCond .eq 82, 3) by decide +kernel) (by decide) (fun hc => ?_) (fun hc => ?_)
    · have h := ht hc
      exact R_X10_breaksBy_126 h
    · have h := hf hc
      refine go_aload_n (show decode cX10_breaksBy 47 = .ok (.aload_n 0, 1) by decide +kernel) (by rfl) ?_
      refine go_iconst (show decode cX10_breaksBy 48 = .ok (.iconst 1, 1) by decide +kernel) (by decide) ?_
      refine go_iload (show decode cX10_breaksBy 49 = .ok (.iload 10, 2) by decide +kernel) (by rfl) ?_
      refine go_iload_n (show decode cX10_breaksBy 51 = .ok (.iload_n 3, 1) by decide +kernel) (by rfl) ?_
      refine go_iload (show decode cX10_breaksBy 52 = .ok (.iload 5, 2) by decide +kernel) (by rfl) ?_
      obtain ⟨q15, h⟩ := h
      refine go_callV (d2 := d - 1) (M2 := MX10_part) (n := 4) (ci := 10) (av := [vI 1, vI a10, vI a3, vI a5]) (st := []) (show decode cX10_breaksBy 54 = .ok (.invokevirtual 159, 3) by decide +kernel) ml_X10_159 mt_X10_part min_X10_part mse_X10_part (by decide) q15 rfl (Nat.le_of_ble_eq_true rfl) (by omega) (ok_mono h (fun w11 S12 F13 G14 h => ?_))
      obtain ⟨z16, e9, h⟩ := h
      subst e9
      show Go d MX10_breaksBy 57 [some (vR a0), some (vI a1), some (vI a2), some (vI a3), some (vI a4), some (vI a5), some (vI a6), some (vI a7), some (vI a8), some (vI a9), some (vI a10)] [vI z16] S12 F13 G14 Q
      obtain ⟨ht, hf⟩ := h
      refine go_ifne (tgt := 63) (show decode cX10_breaksBy 57 = .ok (.ifCond .ne 6, 3) by decide +kernel) (by decide) (fun hc => ?_) (fun hc => ?_)
      · have h := ht hc
        refine go_iload (show decode cX10_breaksBy 63 = .ok (.iload 7, 2) by decide +kernel) (by rfl) ?_
        obtain ⟨ht, hf⟩ := h
        refine go_ifne (tgt := 86) (show decode cX10_breaksBy 65 = .ok (.ifCond .ne 21, 3) by decide +kernel) (by decide) (fun hc => ?_) (fun hc => ?_)
        · have h := ht hc
          exact R_X10_breaksBy_86 h
        · have h := hf hc
          refine go_aload_n (show decode cX10_breaksBy 68 = .ok (.aload_n 0, 1) by decide +kernel) (by rfl) ?_
          refine go_iload_n (show decode cX10_breaksBy 69 = .ok (.iload_n 1, 1) by decide +kernel) (by rfl) ?_
          refine go_iload (show decode cX10_breaksBy 70 = .ok (.iload 9, 2) by decide +kernel) (by rfl) ?_
          refine go_iload (show decode cX10_breaksBy 72 = .ok (.iload 10, 2) by decide +kernel) (by rfl) ?_
          obtain ⟨q21, h⟩ := h
          refine go_callV (d2 := d - 1) (M2 := MX10_in) (n := 3) (ci := 10) (av := [vI a1, vI a9, vI a10]) (st := []) (show decode cX10_breaksBy 74 = .ok (.invokevirtual 163, 3) by decide +kernel) ml_X10_163 mt_X10_in min_X10_in mse_X10_in (by decide) q21 rfl (Nat.le_of_ble_eq_true rfl) (by omega) (ok_mono h (fun w17 S18 F19 G20 h => ?_))
          obtain ⟨z22, e9, h⟩ := h
          subst e9
          show Go d MX10_breaksBy 77 [some (vR a0), some (vI a1), some (vI a2), some (vI a3), some (vI a4), some (vI a5), some (vI a6), some (vI a7), some (vI a8), some (vI a9), some (vI a10)] [vJ z22] S18 F19 G20 Q
          refine go_iload (show decode cX10_breaksBy 77 = .ok (.iload 6, 2) by decide +kernel) (by rfl) ?_
          refine go_i2l (show decode cX10_breaksBy 79 = .ok (.i2l, 1) by decide +kernel) ?_
          obtain ⟨q23, h⟩ := h
          refine go_ladd (show decode cX10_breaksBy 80 = .ok (.ladd, 1) by decide +kernel) q23 ?_
          refine go_lconst (n := 0) (show decode cX10_breaksBy 81 = .ok (.lconst 0, 1) by decide +kernel) ?_
          show Go d MX10_breaksBy 82 [some (vR a0), some (vI a1), some (vI a2), some (vI a3), some (vI a4), some (vI a5), some (vI a6), some (vI a7), some (vI a8), some (vI a9), some (vI a10)] [vJ 0, vJ (z22 + a6)] S18 F19 G20 Q
          obtain ⟨ht, hf⟩ := h
          refine go_jge (tgt := 90) (show decode cX10_breaksBy 82 = .ok (.lcmp, 1) by decide +kernel) (show decode cX10_breaksBy 83 = .ok (.ifCond .ge 7, 3) by decide +kernel) (by decide) (fun hc => ?_) (fun hc => ?_)
          · have h := ht hc
            refine go_iconst (show decode cX10_breaksBy 90 = .ok (.iconst 0, 1) by decide +kernel) (by decide) ?_
            exact R_X10_breaksBy_91 h
          · have h := hf hc
            exact R_X10_breaksBy_86 h
      · have h := hf hc
        refine go_goto (tgt := 126) (show decode cX10_breaksBy 60 = .ok (.goto 66, 3) by decide +kernel) (by decide) ?_
        exact R_X10_breaksBy_126 h
def V_X10_breaksBy_9 (d : Nat) (S : AS) (F : AF) (G : AG) (Q : AQ) (a0 : Nat) (a1 : Int) (a2 : Int) (a3 : Int) (a4 : Int) (a5 : Int) (a6 : Int) (a7 : Int) (a8 : Int) (a9 : Int) : Prop :=
  (sK S a0 = 10) ∧
  (sK S (sR S a0 5) = 20) ∧
  ((0 : Int) < (sN S (sR S a0 5) : Int)) ∧
  ((G (sR S a0 5) 0 ≤ a9) →
    ((a7 = 0) →
      ((a8 = 0) →
        Q (some (vI 0)) S F G) ∧
      ((¬ a8 = 0) →
        Q (some (vI (-7))) S F G)) ∧
    ((¬ a7 = 0) →
      Q (some (vI (-5))) S F G)) ∧
  ((¬ G (sR S a0 5) 0 ≤ a9) →
    Go d MX10_breaksBy 23 [some (vR a0), some (vI a1), some (vI a2), some (vI a3), some (vI a4), some (vI a5), some (vI a6), some (vI a7), some (vI a8), some (vI a9), some (vI 0)] [] S F G Q)
theorem R_X10_breaksBy_9 {d : Nat} {S : AS} {F : AF} {G : AG} {Q : AQ} {a0 : Nat} {a1 : Int} {a2 : Int} {a3 : Int} {a4 : Int} {a5 : Int} {a6 : Int} {a7 : Int} {a8 : Int} {a9 : Int} (h : V_X10_breaksBy_9 d S F G Q a0 a1 a2 a3 a4 a5 a6 a7 a8 a9) : Go d MX10_breaksBy 9 [some (vR a0), some (vI a1), some (vI a2), some (vI a3), some (vI a4), some (vI a5), some (vI a6), some (vI a7), some (vI a8), some (vI a9), none] [] S F G Q := by
  unfold V_X10_breaksBy_9 at h
  refine go_iload (show decode cX10_breaksBy 9 = .ok (.iload 9, 2) by decide +kernel) (by rfl) ?_
  refine go_aload_n (show decode cX10_breaksBy 11 = .ok (.aload_n 0, 1) by decide +kernel) (by rfl) ?_
  obtain ⟨q1, h⟩ := h
  refine go_getR (show decode cX10_breaksBy 12 = .ok (.getfield 29, 3) by decide +kernel) fl_X10_29 rfl q1 ?_
  refine go_iconst (show decode cX10_breaksBy 15 = .ok (.iconst 0, 1) by decide +kernel) (by decide) ?_
  obtain ⟨q2, h⟩ := h
  obtain ⟨q3, h⟩ := h
  refine go_iaload (show decode cX10_breaksBy 16 = .ok (.iaload, 1) by decide +kernel) q2 (by decide) q3 ?_
  obtain ⟨ht, hf⟩ := h
  refine go_icmpge (tgt := 138) (show decode cX10_breaksBy 17 = .ok (.if_icmp .ge 121, 3) by decide +kernel) (by decide) (fun hc => ?_) (fun hc => ?_)
  · have h := ht hc
    refine go_iload (show decode cX10_breaksBy 138 = .ok (.iload 7, 2) by decide +kernel) (by rfl) ?_
    obtain ⟨ht, hf⟩ := h
    refine go_ifeq (tgt := 148) (show decode cX10_breaksBy 140 = .ok (.ifCond .eq 8, 3) by decide +kernel) (by decide) (fun hc => ?_) (fun hc => ?_)
    · have h := ht hc
      refine go_iload (show decode cX10_breaksBy 148 = .ok (.iload 8, 2) by decide +kernel) (by rfl) ?_
      obtain ⟨ht, hf⟩ := h
      refine go_ifeq (tgt := 158) (show decode cX10_breaksBy 150 = .ok (.ifCond .eq 8, 3) by decide +kernel) (by decide) (fun hc => ?_) (fun hc => ?_)
      · have h := ht hc
        refine go_iconst (show decode cX10_breaksBy 158 = .ok (.iconst 0, 1) by decide +kernel) (by decide) ?_
        exact go_iret (show decode cX10_breaksBy 159 = .ok (.ireturn, 1) by decide +kernel) rfl h
      · have h := hf hc
        refine go_bipush (show decode cX10_breaksBy 153 = .ok (.bipush (-7), 2) by decide +kernel) (by decide) ?_
        refine go_goto (tgt := 159) (show decode cX10_breaksBy 155 = .ok (.goto 4, 3) by decide +kernel) (by decide) ?_
        exact go_iret (show decode cX10_breaksBy 159 = .ok (.ireturn, 1) by decide +kernel) rfl h
    · have h := hf hc
      refine go_bipush (show decode cX10_breaksBy 143 = .ok (.bipush (-5), 2) by decide +kernel) (by decide) ?_
      refine go_goto (tgt := 159) (show decode cX10_breaksBy 145 = .ok (.goto 14, 3) by decide +kernel) (by decide) ?_
      exact go_iret (show decode cX10_breaksBy 159 = .ok (.ireturn, 1) by decide +kernel) rfl h
  · have h := hf hc
    refine go_iconst (show decode cX10_breaksBy 20 = .ok (.iconst 0, 1) by decide +kernel) (by decide) ?_
    refine go_istore (show decode cX10_breaksBy 21 = .ok (.istore 10, 2) by decide +kernel) (by decide) ?_
    show Go d MX10_breaksBy 23 [some (vR a0), some (vI a1), some (vI a2), some (vI a3), some (vI a4), some (vI a5), some (vI a6), some (vI a7), some (vI a8), some (vI a9), some (vI 0)] [] S F G Q
    exact h
def V_X10_breaksBy_0 (d : Nat) (S : AS) (F : AF) (G : AG) (Q : AQ) (a0 : Nat) (a1 : Int) (a2 : Int) (a3 : Int) (a4 : Int) (a5 : Int) (a6 : Int) : Prop :=
  Go d MX10_breaksBy 9 [some (vR a0), some (vI a1), some (vI a2), some (vI a3), some (vI a4), some (vI a5), some (vI a6), some (vI 0), some (vI 0), some (vI 0), none] [] S F G Q
theorem R_X10_breaksBy_0 {d : Nat} {S : AS} {F : AF} {G : AG} {Q : AQ} {a0 : Nat} {a1 : Int} {a2 : Int} {a3 : Int} {a4 : Int} {a5 : Int} {a6 : Int} (h : V_X10_breaksBy_0 d S F G Q a0 a1 a2 a3 a4 a5 a6) : Go d MX10_breaksBy 0 [some (vR a0), some (vI a1), some (vI a2), some (vI a3), some (vI a4), some (vI a5), some (vI a6), none, none, none, none] [] S F G Q := by
  unfold V_X10_breaksBy_0 at h
  refine go_iconst (show decode cX10_breaksBy 0 = .ok (.iconst 0, 1) by decide +kernel) (by decide) ?_
  refine go_istore (show decode cX10_breaksBy 1 = .ok (.istore 7, 2) by decide +kernel) (by decide) ?_
  show Go d MX10_breaksBy 3 [some (vR a0), some (vI a1), some (vI a2), some (vI a3), some (vI a4), some (vI a5), some (vI a6), some (vI 0), none, none, none] [] S F G Q
  refine go_iconst (show decode cX10_breaksBy 3 = .ok (.iconst 0, 1) by decide +kernel) (by decide) ?_
  refine go_istore (show decode cX10_breaksBy 4 = .ok (.istore 8, 2) by decide +kernel) (by decide) ?_
  show Go d MX10_breaksBy 6 [some (vR a0), some (vI a1), some (vI a2), some (vI a3), some (vI a4), some (vI a5), some (vI a6), some (vI 0), some (vI 0), none, none] [] S F G Q
  refine go_iconst (show decode cX10_breaksBy 6 = .ok (.iconst 0, 1) by decide +kernel) (by decide) ?_
  refine go_istore (show decode cX10_breaksBy 7 = .ok (.istore 9, 2) by decide +kernel) (by decide) ?_
  show Go d MX10_breaksBy 9 [some (vR a0), some (vI a1), some (vI a2), some (vI a3), some (vI a4), some (vI a5), some (vI a6), some (vI 0), some (vI 0), some (vI 0), none] [] S F G Q
  exact h
def V_X10_part_52 (d : Nat) (S : AS) (F : AF) (G : AG) (Q : AQ) (a0 : Nat) (a1 : Int) (a2 : Int) (a3 : Int) (a4 : Int) (a5 : Int) (s0 : Int) : Prop :=
  ((a5 ≤ s0) →
    (r32 (s0 - a5)) ∧
    (r32 ((s0 - a5) + 1)) ∧
    Q (some (vI ((s0 - a5) + 1))) S F G) ∧
  ((¬ a5 ≤ s0) →
    Q (some (vI 0)) S F G)
theorem R_X10_part_52 {d : Nat} {S : AS} {F : AF} {G : AG} {Q : AQ} {a0 : Nat} {a1 : Int} {a2 : Int} {a3 : Int} {a4 : Int} {a5 : Int} {s0 : Int} (h : V_X10_part_52 d S F G Q a0 a1 a2 a3 a4 a5 s0) : Go d MX10_part 52 [some (vR a0), some (vI a1), some (vI a2), some (vI a3), some (vI a4), some (vI a5), none] [vI s0] S F G Q := by
  unfold V_X10_part_52 at h
  refine go_istore (show decode cX10_part 52 = .ok (.istore 6, 2) by decide +kernel) (by decide) ?_
  show Go d MX10_part 54 [some (vR a0), some (vI a1), some (vI a2), some (vI a3), some (vI a4), some (vI a5), some (vI s0)] [] S F G Q
  refine go_iload (show decode cX10_part 54 = .ok (.iload 6, 2) by decide +kernel) (by rfl) ?_
  refine go_iload (show decode cX10_part 56 = .ok (.iload 5, 2) by decide +kernel) (by rfl) ?_
  obtain ⟨ht, hf⟩ := h
  refine go_icmpge (tgt := 65) (show decode cX10_part 58 = .ok (.if_icmp .ge 7, 3) by decide +kernel) (by decide) (fun hc => ?_) (fun hc => ?_)
  · have h := ht hc
    refine go_iload (show decode cX10_part 65 = .ok (.iload 6, 2) by decide +kernel) (by rfl) ?_
    refine go_iload (show decode cX10_part 67 = .ok (.iload 5, 2) by decide +kernel) (by rfl) ?_
    obtain ⟨q1, h⟩ := h
    refine go_isub (show decode cX10_part 69 = .ok (.isub, 1) by decide +kernel) q1 ?_
    refine go_iconst (show decode cX10_part 70 = .ok (.iconst 1, 1) by decide +kernel) (by decide) ?_
    obtain ⟨q2, h⟩ := h
    refine go_iadd (show decode cX10_part 71 = .ok (.iadd, 1) by decide +kernel) q2 ?_
    exact go_iret (show decode cX10_part 72 = .ok (.ireturn, 1) by decide +kernel) rfl h
  · have h := hf hc
    refine go_iconst (show decode cX10_part 61 = .ok (.iconst 0, 1) by decide +kernel) (by decide) ?_
    refine go_goto (tgt := 72) (show decode cX10_part 62 = .ok (.goto 10, 3) by decide +kernel) (by decide) ?_
    exact go_iret (show decode cX10_part 72 = .ok (.ireturn, 1) by decide +kernel) rfl h
def V_X10_part_20 (d : Nat) (S : AS) (F : AF) (G : AG) (Q : AQ) (a0 : Nat) (a1 : Int) (a2 : Int) (a3 : Int) (a4 : Int) (s0 : Int) : Prop :=
  (r32 (a2 + 1)) ∧
  (1 ≤ d) ∧
  (sK S a0 = 10) ∧
  Ok (d - 1) MX10_edgeAt [vR a0, vI a1, vI (a2 + 1)] S F G (fun w3 S4 F5 G6 =>
  ∃ z8 : Int, w3 = some (vI z8) ∧
  (r32 (z8 - 1)) ∧
  ((a4 ≤ z8 - 1) →
    V_X10_part_52 d S4 F5 G6 Q a0 a1 a2 a3 a4 s0 a4) ∧
  ((¬ a4 ≤ z8 - 1) →
    (r32 (a2 + 1)) ∧
    (sK S4 a0 = 10) ∧
    Ok (d - 1) MX10_edgeAt [vR a0, vI a1, vI (a2 + 1)] S4 F5 G6 (fun w11 S12 F13 G14 =>
    ∃ z16 : Int, w11 = some (vI z16) ∧
    (r32 (z16 - 1)) ∧
    V_X10_part_52 d S12 F13 G14 Q a0 a1 a2 a3 a4 s0 (z16 - 1))))
theorem R_X10_part_20 {d : Nat} {S : AS} {F : AF} {G : AG} {Q : AQ} {a0 : Nat} {a1 : Int} {a2 : Int} {a3 : Int} {a4 : Int} {s0 : Int} (h : V_X10_part_20 d S F G Q a0 a1 a2 a3 a4 s0) : Go d MX10_part 20 [some (vR a0), some (vI a1), some (vI a2), some (vI a3), some (vI a4), none, none] [vI s0] S F G Q := by
  unfold V_X10_part_20 at h
  refine go_istore (show decode cX10_part 20 = .ok (.istore 5, 2) by decide +kernel) (by decide) ?_
  show Go d MX10_part 22 [some (vR a0), some (vI a1), some (vI a2), some (vI a3), some (vI a4), some (vI s0), none] [] S F G Q
  refine go_aload_n (show decode cX10_part 22 = .ok (.aload_n 0, 1) by decide +kernel) (by rfl) ?_
  refine go_iload_n (show decode cX10_part 23 = .ok (.iload_n 1, 1) by decide +kernel) (by rfl) ?_
  refine go_iload_n (show decode cX10_part 24 = .ok (.iload_n 2, 1) by decide +kernel) (by rfl) ?_
  refine go_iconst (show decode cX10_part 25 = .ok (.iconst 1, 1) by decide +kernel) (by decide) ?_
  obtain ⟨q1, h⟩ := h
  refine go_iadd (show decode cX10_part 26 = .ok (.iadd, 1) by decide +kernel) q1 ?_
  obtain ⟨q2, h⟩ := h
  obtain ⟨q7, h⟩ := h
  refine go_callV (d2 := d - 1) (M2 := MX10_edgeAt) (n := 2) (ci := 10) (av := [vI a1, vI (a2 + 1)]) (st := []) (show decode cX10_part 27 = .ok (.invokevirtual 126, 3) by decide +kernel) ml_X10_126 mt_X10_edgeAt min_X10_edgeAt mse_X10_edgeAt (by decide) q7 rfl (Nat.le_of_ble_eq_true rfl) (by omega) (ok_mono h (fun w3 S4 F5 G6 h => ?_))
  obtain ⟨z8, e9, h⟩ := h
  subst e9
  show Go d MX10_part 30 [some (vR a0), some (vI a1), some (vI a2), some (vI a3), some (vI a4), some (vI s0), none] [vI z8] S4 F5 G6 Q
  refine go_iconst (show decode cX10_part 30 = .ok (.iconst 1, 1) by decide +kernel) (by decide) ?_
  obtain ⟨q9, h⟩ := h
  refine go_isub (show decode cX10_part 31 = .ok (.isub, 1) by decide +kernel) q9 ?_
  refine go_iload (show decode cX10_part 32 = .ok (.iload 4, 2) by decide +kernel) (by rfl) ?_
  obtain ⟨ht, hf⟩ := h
  refine go_icmpge (tgt := 50) (show decode cX10_part 34 = .ok (.if_icmp .ge 16, 3) by decide +kernel) (by decide) (fun hc => ?_) (fun hc => ?_)
  · have h := ht hc
    refine go_iload (show decode cX10_part 50 = .ok (.iload 4, 2) by decide +kernel) (by rfl) ?_
    exact R_X10_part_52 h
  · have h := hf hc
    refine go_aload_n (show decode cX10_part 37 = .ok (.aload_n 0, 1) by decide +kernel) (by rfl) ?_
    refine go_iload_n (show decode cX10_part 38 = .ok (.iload_n 1, 1) by decide +kernel) (by rfl) ?_
    refine go_iload_n (show decode cX10_part 39 = .ok (.iload_n 2, 1) by decide +kernel) (by rfl) ?_
    refine go_iconst (show decode cX10_part 40 = .ok (.iconst 1, 1) by decide +kernel) (by decide) ?_
    obtain ⟨q10, h⟩ := h
    refine go_iadd (show decode cX10_part 41 = .ok (.iadd, 1) by decide +kernel) q10 ?_
    obtain ⟨q15, h⟩ := h
    refine go_callV (d2 := d - 1) (M2 := MX10_edgeAt) (n := 2) (ci := 10) (av := [vI a1, vI (a2 + 1)]) (st := []) (show decode cX10_part 42 = .ok (.invokevirtual 126, 3) by decide +kernel) ml_X10_126 mt_X10_edgeAt min_X10_edgeAt mse_X10_edgeAt (by decide) q15 rfl (Nat.le_of_ble_eq_true rfl) (by omega) (ok_mono h (fun w11 S12 F13 G14 h => ?_))
    obtain ⟨z16, e9, h⟩ := h
    subst e9
    show Go d MX10_part 45 [some (vR a0), some (vI a1), some (vI a2), some (vI a3), some (vI a4), some (vI s0), none] [vI z16] S12 F13 G14 Q
    refine go_iconst (show decode cX10_part 45 = .ok (.iconst 1, 1) by decide +kernel) (by decide) ?_
    obtain ⟨q17, h⟩ := h
    refine go_isub (show decode cX10_part 46 = .ok (.isub, 1) by decide +kernel) q17 ?_
    refine go_goto (tgt := 52) (show decode cX10_part 47 = .ok (.goto 5, 3) by decide +kernel) (by decide) ?_
    exact R_X10_part_52 h
def V_X10_part_0 (d : Nat) (S : AS) (F : AF) (G : AG) (Q : AQ) (a0 : Nat) (a1 : Int) (a2 : Int) (a3 : Int) (a4 : Int) : Prop :=
  (1 ≤ d) ∧
  (sK S a0 = 10) ∧
  Ok (d - 1) MX10_edgeAt [vR a0, vI a1, vI a2] S F G (fun w2 S3 F4 G5 =>
  ∃ z7 : Int, w2 = some (vI z7) ∧
  ((z7 ≤ a3) →
    V_X10_part_20 d S3 F4 G5 Q a0 a1 a2 a3 a4 a3) ∧
  ((¬ z7 ≤ a3) →
    (sK S3 a0 = 10) ∧
    Ok (d - 1) MX10_edgeAt [vR a0, vI a1, vI a2] S3 F4 G5 (fun w8 S9 F10 G11 =>
    ∃ z13 : Int, w8 = some (vI z13) ∧
    V_X10_part_20 d S9 F10 G11 Q a0 a1 a2 a3 a4 z13)))
theorem R_X10_part_0 {d : Nat} {S : AS} {F : AF} {G : AG} {Q : AQ} {a0 : Nat} {a1 : Int} {a2 : Int} {a3 : Int} {a4 : Int} (h : V_X10_part_0 d S F G Q a0 a1 a2 a3 a4) : Go d MX10_part 0 [some (vR a0), some (vI a1), some (vI a2), some (vI a3), some (vI a4), none, none] [] S F G Q := by
  unfold V_X10_part_0 at h
  refine go_aload_n (show decode cX10_part 0 = .ok (.aload_n 0, 1) by decide +kernel) (by rfl) ?_
  refine go_iload_n (show decode cX10_part 1 = .ok (.iload_n 1, 1) by decide +kernel) (by rfl) ?_
  refine go_iload_n (show decode cX10_part 2 = .ok (.iload_n 2, 1) by decide +kernel) (by rfl) ?_
  obtain ⟨q1, h⟩ := h
  obtain ⟨q6, h⟩ := h
  refine go_callV (d2 := d - 1) (M2 := MX10_edgeAt) (n := 2) (ci := 10) (av := [vI a1, vI a2]) (st := []) (show decode cX10_part 3 = .ok (.invokevirtual 126, 3) by decide +kernel) ml_X10_126 mt_X10_edgeAt min_X10_edgeAt mse_X10_edgeAt (by decide) q6 rfl (Nat.le_of_ble_eq_true rfl) (by omega) (ok_mono h (fun w2 S3 F4 G5 h => ?_))
  obtain ⟨z7, e9, h⟩ := h
  subst e9
  show Go d MX10_part 6 [some (vR a0), some (vI a1), some (vI a2), some (vI a3), some (vI a4), none, none] [vI z7] S3 F4 G5 Q
  refine go_iload_n (show decode cX10_part 6 = .ok (.iload_n 3, 1) by decide +kernel) (by rfl) ?_
  obtain ⟨ht, hf⟩ := h
  refine go_icmple (tgt := 19) (show decode cX10_part 7 = .ok (.if_icmp .le 12, 3) by decide +kernel) (by decide) (fun hc => ?_) (fun hc => ?_)
  · have h := ht hc
    refine go_iload_n (show decode cX10_part 19 = .ok (.iload_n 3, 1) by decide +kernel) (by rfl) ?_
    exact R_X10_part_20 h
  · have h := hf hc
    refine go_aload_n (show decode cX10_part 10 = .ok (.aload_n 0, 1) by decide +kernel) (by rfl) ?_
    refine go_iload_n (show decode cX10_part 11 = .ok (.iload_n 1, 1) by decide +kernel) (by rfl) ?_
    refine go_iload_n (show decode cX10_part 12 = .ok (.iload_n 2, 1) by decide +kernel) (by rfl) ?_
    obtain ⟨q12, h⟩ := h
    refine go_callV (d2 := d - 1) (M2 := MX10_edgeAt) (n := 2) (ci := 10) (av := [vI a1, vI a2]) (st := []) (show decode cX10_part 13 = .ok (.invokevirtual 126, 3) by decide +kernel) ml_X10_126 mt_X10_edgeAt min_X10_edgeAt mse_X10_edgeAt (by decide) q12 rfl (Nat.le_of_ble_eq_true rfl) (by omega) (ok_mono h (fun w8 S9 F10 G11 h => ?_))
    obtain ⟨z13, e9, h⟩ := h
    subst e9
    show Go d MX10_part 16 [some (vR a0), some (vI a1), some (vI a2), some (vI a3), some (vI a4), none, none] [vI z13] S9 F10 G11 Q
    refine go_goto (tgt := 20) (show decode cX10_part 16 = .ok (.goto 4, 3) by decide +kernel) (by decide) ?_
    exact R_X10_part_20 h
def V_X10_edgeAt_0 (d : Nat) (S : AS) (F : AF) (G : AG) (Q : AQ) (a0 : Nat) (a1 : Int) (a2 : Int) : Prop :=
  (sK S a0 = 10) ∧
  (sK S (sR S a0 5) = 20) ∧
  ((0 : Int) ≤ a1) ∧
  ((a1 : Int) < (sN S (sR S a0 5) : Int)) ∧
  ((¬ a2 = G (sR S a0 5) a1) →
    (r32 (48 * a1)) ∧
    (r32 ((48 * a1) + a2)) ∧
    (sK S (sR S a0 4) = 20) ∧
    ((0 : Int) ≤ (48 * a1) + a2) ∧
    (((48 * a1) + a2 : Int) < (sN S (sR S a0 4) : Int)) ∧
    Q (some (vI (G (sR S a0 4) ((48 * a1) + a2)))) S F G) ∧
  ((a2 = G (sR S a0 5) a1) →
    (1 ≤ d) ∧
    Ok (d - 1) MX10_sizeOf [vR a0, vI a1] S F G (fun w11 S12 F13 G14 =>
    ∃ z15 : Int, w11 = some (vI z15) ∧
    Q (some (vI z15)) S12 F13 G14))
theorem R_X10_edgeAt_0 {d : Nat} {S : AS} {F : AF} {G : AG} {Q : AQ} {a0 : Nat} {a1 : Int} {a2 : Int} (h : V_X10_edgeAt_0 d S F G Q a0 a1 a2) : Go d MX10_edgeAt 0 [some (vR a0), some (vI a1), some (vI a2)] [] S F G Q := by
  unfold V_X10_edgeAt_0 at h
  refine go_iload_n (show decode cX10_edgeAt 0 = .ok (.iload_n 2, 1) by decide +kernel) (by rfl) ?_
  refine go_aload_n (show decode cX10_edgeAt 1 = .ok (.aload_n 0, 1) by decide +kernel) (by rfl) ?_
  obtain ⟨q1, h⟩ := h
  refine go_getR (show decode cX10_edgeAt 2 = .ok (.getfield 29, 3) by decide +kernel) fl_X10_29 rfl q1 ?_
  refine go_iload_n (show decode cX10_edgeAt 5 = .ok (.iload_n 1, 1) by decide +kernel) (by rfl) ?_
  obtain ⟨q2, h⟩ := h
  obtain ⟨q3, h⟩ := h
  obtain ⟨q4, h⟩ := h
  refine go_iaload (show decode cX10_edgeAt 6 = .ok (.iaload, 1) by decide +kernel) q2 q3 q4 ?_
  obtain ⟨ht, hf⟩ := h
  refine go_icmpne (tgt := 18) (show decode cX10_edgeAt 7 = .ok (.if_icmp .ne 11, 3) by decide +kernel) (by decide) (fun hc => ?_) (fun hc => ?_)
  · have h := ht hc
    refine go_aload_n (show decode cX10_edgeAt 18 = .ok (.aload_n 0, 1) by decide +kernel) (by rfl) ?_
    refine go_getR (show decode cX10_edgeAt 19 = .ok (.getfield 25, 3) by decide +kernel) fl_X10_25 rfl q1 ?_
    refine go_bipush (show decode cX10_edgeAt 22 = .ok (.bipush 48, 2) by decide +kernel) (by decide) ?_
    refine go_iload_n (show decode cX10_edgeAt 24 = .ok (.iload_n 1, 1) by decide +kernel) (by rfl) ?_
    obtain ⟨q5, h⟩ := h
    refine go_imul (show decode cX10_edgeAt 25 = .ok (.imul, 1) by decide +kernel) q5 ?_
    refine go_iload_n (show decode cX10_edgeAt 26 = .ok (.iload_n 2, 1) by decide +kernel) (by rfl) ?_
    obtain ⟨q6, h⟩ := h
    refine go_iadd (show decode cX10_edgeAt 27 = .ok (.iadd, 1) by decide +kernel) q6 ?_
    obtain ⟨q7, h⟩ := h
    obtain ⟨q8, h⟩ := h
    obtain ⟨q9, h⟩ := h
    refine go_iaload (show decode cX10_edgeAt 28 = .ok (.iaload, 1) by decide +kernel) q7 q8 q9 ?_
    exact go_iret (show decode cX10_edgeAt 29 = .ok (.ireturn, 1) by decide +kernel) rfl h
  · have h := hf hc
    refine go_aload_n (show decode cX10_edgeAt 10 = .ok (.aload_n 0, 1) by decide +kernel) (by rfl) ?_
    refine go_iload_n (show decode cX10_edgeAt 11 = .ok (.iload_n 1, 1) by decide +kernel) (by rfl) ?_
    obtain ⟨q10, h⟩ := h
    refine go_callV (d2 := d - 1) (M2 := MX10_sizeOf) (n := 1) (ci := 10) (av := [vI a1]) (st := []) (show decode cX10_edgeAt 12 = .ok (.invokevirtual 122, 3) by decide +kernel) ml_X10_122 mt_X10_sizeOf min_X10_sizeOf mse_X10_sizeOf (by decide) q1 rfl (Nat.le_of_ble_eq_true rfl) (by omega) (ok_mono h (fun w11 S12 F13 G14 h => ?_))
    obtain ⟨z15, e9, h⟩ := h
    subst e9
    show Go d MX10_edgeAt 15 [some (vR a0), some (vI a1), some (vI a2)] [vI z15] S12 F13 G14 Q
    refine go_goto (tgt := 29) (show decode cX10_edgeAt 15 = .ok (.goto 14, 3) by decide +kernel) (by decide) ?_
    exact go_iret (show decode cX10_edgeAt 29 = .ok (.ireturn, 1) by decide +kernel) rfl h
def V_X10_sizeOf_0 (d : Nat) (S : AS) (F : AF) (G : AG) (Q : AQ) (a0 : Nat) (a1 : Int) : Prop :=
  ((¬ a1 = 0) →
    (sK S a0 = 10) ∧
    Q (some (vI (F a0 2))) S F G) ∧
  ((a1 = 0) →
    (sK S a0 = 10) ∧
    Q (some (vI (F a0 1))) S F G)
theorem R_X10_sizeOf_0 {d : Nat} {S : AS} {F : AF} {G : AG} {Q : AQ} {a0 : Nat} {a1 : Int} (h : V_X10_sizeOf_0 d S F G Q a0 a1) : Go d MX10_sizeOf 0 [some (vR a0), some (vI a1)] [] S F G Q := by
  unfold V_X10_sizeOf_0 at h
  refine go_iload_n (show decode cX10_sizeOf 0 = .ok (.iload_n 1, 1) by decide +kernel) (by rfl) ?_
  obtain ⟨ht, hf⟩ := h
  refine go_ifne (tgt := 11) (show decode cX10_sizeOf 1 = .ok (.ifCond .ne 10, 3) by decide +kernel) (by decide) (fun hc => ?_) (fun hc => ?_)
  · have h := ht hc
    refine go_aload_n (show decode cX10_sizeOf 11 = .ok (.aload_n 0, 1) by decide +kernel) (by rfl) ?_
    obtain ⟨q1, h⟩ := h
    refine go_getI (show decode cX10_sizeOf 12 = .ok (.getfield 16, 3) by decide +kernel) fl_X10_16 (Or.inl rfl) q1 ?_
    exact go_iret (show decode cX10_sizeOf 15 = .ok (.ireturn, 1) by decide +kernel) rfl h
  · have h := hf hc
    refine go_aload_n (show decode cX10_sizeOf 4 = .ok (.aload_n 0, 1) by decide +kernel) (by rfl) ?_
    obtain ⟨q2, h⟩ := h
    refine go_getI (show decode cX10_sizeOf 5 = .ok (.getfield 13, 3) by decide +kernel) fl_X10_13 (Or.inl rfl) q2 ?_
    refine go_goto (tgt := 15) (show decode cX10_sizeOf 8 = .ok (.goto 7, 3) by decide +kernel) (by decide) ?_
    exact go_iret (show decode cX10_sizeOf 15 = .ok (.ireturn, 1) by decide +kernel) rfl h
def V_X10_in_0 (d : Nat) (S : AS) (F : AF) (G : AG) (Q : AQ) (a0 : Nat) (a1 : Int) (a2 : Int) (a3 : Int) : Prop :=
  ((¬ a1 = -1) →
    (sK S a0 = 10) ∧
    (1 ≤ d) ∧
    Ok (d - 1) MX10_slot [vI a1, vI a2, vI a3] S F G (fun w3 S4 F5 G6 =>
    ∃ z7 : Int, w3 = some (vI z7) ∧
    (sK S4 (sR S a0 7) = 21) ∧
    ((0 : Int) ≤ z7) ∧
    ((z7 : Int) < (sN S4 (sR S a0 7) : Int)) ∧
    Q (some (vJ (G6 (sR S a0 7) z7))) S4 F5 G6)) ∧
  ((a1 = -1) →
    (sK S a0 = 10) ∧
    (1 ≤ d) ∧
    Ok (d - 1) MX10_slot [vI 0, vI a2, vI a3] S F G (fun w13 S14 F15 G16 =>
    ∃ z17 : Int, w13 = some (vI z17) ∧
    (sK S14 (sR S a0 7) = 21) ∧
    ((0 : Int) ≤ z17) ∧
    ((z17 : Int) < (sN S14 (sR S a0 7) : Int)) ∧
    (sK S14 a0 = 10) ∧
    Ok (d - 1) MX10_slot [vI 1, vI a2, vI a3] S14 F15 G16 (fun w22 S23 F24 G25 =>
    ∃ z26 : Int, w22 = some (vI z26) ∧
    (sK S23 (sR S14 a0 7) = 21) ∧
    ((0 : Int) ≤ z26) ∧
    ((z26 : Int) < (sN S23 (sR S14 a0 7) : Int)) ∧
    (r64 ((G16 (sR S a0 7) z17) + (G25 (sR S14 a0 7) z26))) ∧
    (sK S23 a0 = 10) ∧
    Ok (d - 1) MX10_slot [vI 2, vI a2, vI a3] S23 F24 G25 (fun w32 S33 F34 G35 =>
    ∃ z36 : Int, w32 = some (vI z36) ∧
    (sK S33 (sR S23 a0 7) = 21) ∧
    ((0 : Int) ≤ z36) ∧
    ((z36 : Int) < (sN S33 (sR S23 a0 7) : Int)) ∧
    (r64 (((G16 (sR S a0 7) z17) + (G25 (sR S14 a0 7) z26)) + (G35 (sR S23 a0 7) z36))) ∧
    Q (some (vJ (((G16 (sR S a0 7) z17) + (G25 (sR S14 a0 7) z26)) + (G35 (sR S23 a0 7) z36)))) S33 F34 G35))))
theorem R_X10_in_0 {d : Nat} {S : AS} {F : AF} {G : AG} {Q : AQ} {a0 : Nat} {a1 : Int} {a2 : Int} {a3 : Int} (h : V_X10_in_0 d S F G Q a0 a1 a2 a3) : Go d MX10_in 0 [some (vR a0), some (vI a1), some (vI a2), some (vI a3)] [] S F G Q := by
  unfold V_X10_in_0 at h
  refine go_iload_n (show decode cX10_in 0 = .ok (.iload_n 1, 1) by decide +kernel) (by rfl) ?_
  refine go_iconst (show decode cX10_in 1 = .ok (.iconst (-1), 1) by decide +kernel) (by decide) ?_
  obtain ⟨ht, hf⟩ := h
  refine go_icmpne (tgt := 43) (show decode cX10_in 2 = .ok (.if_icmp .ne 41, 3) by decide +kernel) (by decide) (fun hc => ?_) (fun hc => ?_)
  · have h := ht hc
    refine go_aload_n (show decode cX10_in 43 = .ok (.aload_n 0, 1) by decide +kernel) (by rfl) ?_
    obtain ⟨q1, h⟩ := h
    refine go_getR (show decode cX10_in 44 = .ok (.getfield 35, 3) by decide +kernel) fl_X10_35 rfl q1 ?_
    refine go_iload_n (show decode cX10_in 47 = .ok (.iload_n 1, 1) by decide +kernel) (by rfl) ?_
    refine go_iload_n (show decode cX10_in 48 = .ok (.iload_n 2, 1) by decide +kernel) (by rfl) ?_
    refine go_iload_n (show decode cX10_in 49 = .ok (.iload_n 3, 1) by decide +kernel) (by rfl) ?_
    obtain ⟨q2, h⟩ := h
    refine go_callS (d2 := d - 1) (M2 := MX10_slot) (n := 3) (av := [vI a1, vI a2, vI a3]) (st := [vR (sR S a0 7)]) (show decode cX10_in 50 = .ok (.invokestatic 130, 3) by decide +kernel) ml_X10_130 mt_X10_slot mst_X10_slot rfl (Nat.le_of_ble_eq_true rfl) (by omega) (ok_mono h (fun w3 S4 F5 G6 h => ?_))
    obtain ⟨z7, e9, h⟩ := h
    subst e9
    show Go d MX10_in 53 [some (vR a0), some (vI a1), some (vI a2), some (vI a3)] [vI z7, vR (sR S a0 7)] S4 F5 G6 Q
    obtain ⟨q8, h⟩ := h
    obtain ⟨q9, h⟩ := h
    obtain ⟨q10, h⟩ := h
    refine go_laload (show decode cX10_in 53 = .ok (.laload, 1) by decide +kernel) q8 q9 q10 ?_
    exact go_lret (show decode cX10_in 54 = .ok (.lreturn, 1) by decide +kernel) rfl h
  · have h := hf hc
    refine go_aload_n (show decode cX10_in 5 = .ok (.aload_n 0, 1) by decide +kernel) (by rfl) ?_
    obtain ⟨q11, h⟩ := h
    refine go_getR (show decode cX10_in 6 = .ok (.getfield 35, 3) by decide +kernel) fl_X10_35 rfl q11 ?_
    refine go_iconst (show decode cX10_in 9 = .ok (.iconst 0, 1) by decide +kernel) (by decide) ?_
    refine go_iload_n (show decode cX10_in 10 = .ok (.iload_n 2, 1) by decide +kernel) (by rfl) ?_
    refine go_iload_n (show decode cX10_in 11 = .ok (.iload_n 3, 1) by decide +kernel) (by rfl) ?_
    obtain ⟨q12, h⟩ := h
    refine go_callS (d2 := d - 1) (M2 := MX10_slot) (n := 3) (av := [vI 0, vI a2, vI a3]) (st := [vR (sR S a0 7)]) (show decode cX10_in 12 = .ok (.invokestatic 130, 3) by decide +kernel) ml_X10_130 mt_X10_slot mst_X10_slot rfl (Nat.le_of_ble_eq_true rfl) (by omega) (ok_mono h (fun w13 S14 F15 G16 h => ?_))
    obtain ⟨z17, e9, h⟩ := h
    subst e9
    show Go d MX10_in 15 [some (vR a0), some (vI a1), some (vI a2), some (vI a3)] [vI z17, vR (sR S a0 7)] S14 F15 G16 Q
    obtain ⟨q18, h⟩ := h
    obtain ⟨q19, h⟩ := h
    obtain ⟨q20, h⟩ := h
    refine go_laload (show decode cX10_in 15 = .ok (.laload, 1) by decide +kernel) q18 q19 q20 ?_
    refine go_aload_n (show decode cX10_in 16 = .ok (.aload_n 0, 1) by decide +kernel) (by rfl) ?_
    obtain ⟨q21, h⟩ := h
    refine go_getR (show decode cX10_in 17 = .ok (.getfield 35, 3) by decide +kernel) fl_X10_35 rfl q21 ?_
    refine go_iconst (show decode cX10_in 20 = .ok (.iconst 1, 1) by decide +kernel) (by decide) ?_
    refine go_iload_n (show decode cX10_in 21 = .ok (.iload_n 2, 1) by decide +kernel) (by rfl) ?_
    refine go_iload_n (show decode cX10_in 22 = .ok (.iload_n 3, 1) by decide +kernel) (by rfl) ?_
    refine go_callS (d2 := d - 1) (M2 := MX10_slot) (n := 3) (av := [vI 1, vI a2, vI a3]) (st := [vR (sR S14 a0 7), vJ (G16 (sR S a0 7) z17)]) (show decode cX10_in 23 = .ok (.invokestatic 130, 3) by decide +kernel) ml_X10_130 mt_X10_slot mst_X10_slot rfl (Nat.le_of_ble_eq_true rfl) (by omega) (ok_mono h (fun w22 S23 F24 G25 h => ?_))
    obtain ⟨z26, e9, h⟩ := h
    subst e9
    show Go d MX10_in 26 [some (vR a0), some (vI a1), some (vI a2), some (vI a3)] [vI z26, vR (sR S14 a0 7), vJ (G16 (sR S a0 7) z17)] S23 F24 G25 Q
    obtain ⟨q27, h⟩ := h
    obtain ⟨q28, h⟩ := h
    obtain ⟨q29, h⟩ := h
    refine go_laload (show decode cX10_in 26 = .ok (.laload, 1) by decide +kernel) q27 q28 q29 ?_
    obtain ⟨q30, h⟩ := h
    refine go_ladd (show decode cX10_in 27 = .ok (.ladd, 1) by decide +kernel) q30 ?_
    refine go_aload_n (show decode cX10_in 28 = .ok (.aload_n 0, 1) by decide +kernel) (by rfl) ?_
    obtain ⟨q31, h⟩ := h
    refine go_getR (show decode cX10_in 29 = .ok (.getfield 35, 3) by decide +kernel) fl_X10_35 rfl q31 ?_
    refine go_iconst (show decode cX10_in 32 = .ok (.iconst 2, 1) by decide +kernel) (by decide) ?_
    refine go_iload_n (show decode cX10_in 33 = .ok (.iload_n 2, 1) by decide +kernel) (by rfl) ?_
    refine go_iload_n (show decode cX10_in 34 = .ok (.iload_n 3, 1) by decide +kernel) (by rfl) ?_
    refine go_callS (d2 := d - 1) (M2 := MX10_slot) (n := 3) (av := [vI 2, vI a2, vI a3]) (st := [vR (sR S23 a0 7), vJ ((G16 (sR S a0 7) z17) + (G25 (sR S14 a0 7) z26))]) (show decode cX10_in 35 = .ok (.invokestatic 130, 3) by decide +kernel) ml_X10_130 mt_X10_slot mst_X10_slot rfl (Nat.le_of_ble_eq_true rfl) (by omega) (ok_mono h (fun w32 S33 F34 G35 h => ?_))
    obtain ⟨z36, e9, h⟩ := h
    subst e9
    show Go d MX10_in 38 [some (vR a0), some (vI a1), some (vI a2), some (vI a3)] [vI z36, vR (sR S23 a0 7), vJ ((G16 (sR S a0 7) z17) + (G25 (sR S14 a0 7) z26))] S33 F34 G35 Q
    obtain ⟨q37, h⟩ := h
    obtain ⟨q38, h⟩ := h
    obtain ⟨q39, h⟩ := h
    refine go_laload (show decode cX10_in 38 = .ok (.laload, 1) by decide +kernel) q37 q38 q39 ?_
    obtain ⟨q40, h⟩ := h
    refine go_ladd (show decode cX10_in 39 = .ok (.ladd, 1) by decide +kernel) q40 ?_
    refine go_goto (tgt := 54) (show decode cX10_in 40 = .ok (.goto 14, 3) by decide +kernel) (by decide) ?_
    exact go_lret (show decode cX10_in 54 = .ok (.lreturn, 1) by decide +kernel) rfl h
def V_X10_slot_0 (d : Nat) (S : AS) (F : AF) (G : AG) (Q : AQ) (a0 : Int) (a1 : Int) (a2 : Int) : Prop :=
  (r32 (2304 * a0)) ∧
  (r32 (48 * a2)) ∧
  (r32 ((2304 * a0) + (48 * a2))) ∧
  (r32 (((2304 * a0) + (48 * a2)) + a1)) ∧
  Q (some (vI (((2304 * a0) + (48 * a2)) + a1))) S F G
theorem R_X10_slot_0 {d : Nat} {S : AS} {F : AF} {G : AG} {Q : AQ} {a0 : Int} {a1 : Int} {a2 : Int} (h : V_X10_slot_0 d S F G Q a0 a1 a2) : Go d MX10_slot 0 [some (vI a0), some (vI a1), some (vI a2)] [] S F G Q := by
  unfold V_X10_slot_0 at h
  refine go_sipush (show decode cX10_slot 0 = .ok (.sipush 2304, 3) by decide +kernel) (by decide) ?_
  refine go_iload_n (show decode cX10_slot 3 = .ok (.iload_n 0, 1) by decide +kernel) (by rfl) ?_
  obtain ⟨q1, h⟩ := h
  refine go_imul (show decode cX10_slot 4 = .ok (.imul, 1) by decide +kernel) q1 ?_
  refine go_bipush (show decode cX10_slot 5 = .ok (.bipush 48, 2) by decide +kernel) (by decide) ?_
  refine go_iload_n (show decode cX10_slot 7 = .ok (.iload_n 2, 1) by decide +kernel) (by rfl) ?_
  obtain ⟨q2, h⟩ := h
  refine go_imul (show decode cX10_slot 8 = .ok (.imul, 1) by decide +kernel) q2 ?_
  obtain ⟨q3, h⟩ := h
  refine go_iadd (show decode cX10_slot 9 = .ok (.iadd, 1) by decide +kernel) q3 ?_
  refine go_iload_n (show decode cX10_slot 10 = .ok (.iload_n 1, 1) by decide +kernel) (by rfl) ?_
  obtain ⟨q4, h⟩ := h
  refine go_iadd (show decode cX10_slot 11 = .ok (.iadd, 1) by decide +kernel) q4 ?_
  exact go_iret (show decode cX10_slot 12 = .ok (.ireturn, 1) by decide +kernel) rfl h
def V_X10_meets_125 (d : Nat) (S : AS) (F : AF) (G : AG) (Q : AQ) (a0 : Nat) (a1 : Int) (a2 : Int) (a3 : Int) (a4 : Int) (a5 : Int) (s0 : Int) (s1 : Nat) : Prop :=
  (sK S s1 = 10) ∧
  ∀ F2 : AF, F2 = fu F s1 27 s0 →
  (sK S a0 = 10) ∧
  ((F2 a0 26 < F2 a0 24) →
    Q (some (vI 0)) S F2 G) ∧
  ((¬ F2 a0 26 < F2 a0 24) →
    ((F2 a0 27 < F2 a0 25) →
      Q (some (vI 0)) S F2 G) ∧
    ((¬ F2 a0 27 < F2 a0 25) →
      Q (some (vI 1)) S F2 G))
theorem R_X10_meets_125 {d : Nat} {S : AS} {F : AF} {G : AG} {Q : AQ} {a0 : Nat} {a1 : Int} {a2 : Int} {a3 : Int} {a4 : Int} {a5 : Int} {s0 : Int} {s1 : Nat} (h : V_X10_meets_125 d S F G Q a0 a1 a2 a3 a4 a5 s0 s1) : Go d MX10_meets 125 [some (vR a0), some (vI a1), some (vI a2), some (vI a3), some (vI a4), some (vI a5)] [vI s0, vR s1] S F G Q := by
  unfold V_X10_meets_125 at h
  obtain ⟨q1, h⟩ := h
  refine go_putI (show decode cX10_meets 125 = .ok (.putfield 248, 3) by decide +kernel) fl_X10_248 rfl (Or.inl rfl) q1 ?_
  obtain ⟨F2, F2e⟩ : ∃ F2 : AF, F2 = fu F s1 27 s0 := ⟨_, rfl⟩
  have h := h F2 F2e
  rw [← F2e]
  refine go_aload_n (show decode cX10_meets 128 = .ok (.aload_n 0, 1) by decide +kernel) (by rfl) ?_
  obtain ⟨q3, h⟩ := h
  refine go_getI (show decode cX10_meets 129 = .ok (.getfield 239, 3) by decide +kernel) fl_X10_239 (Or.inl rfl) q3 ?_
  refine go_aload_n (show decode cX10_meets 132 = .ok (.aload_n 0, 1) by decide +kernel) (by rfl) ?_
  refine go_getI (show decode cX10_meets 133 = .ok (.getfield 245, 3) by decide +kernel) fl_X10_245 (Or.inl rfl) q3 ?_
  obtain ⟨ht, hf⟩ := h
  refine go_icmpgt (tgt := 154) (show decode cX10_meets 136 = .ok (.if_icmp .gt 18, 3) by decide +kernel) (by decide) (fun hc => ?_) (fun hc => ?_)
  · have h := ht hc
    refine go_iconst (show decode cX10_meets 154 = .ok (.iconst 0, 1) by decide +kernel) (by decide) ?_
    exact go_zret (show decode cX10_meets 155 = .ok (.ireturn, 1) by decide +kernel) rfl (by decide) h
  · have h := hf hc
    refine go_aload_n (show decode cX10_meets 139 = .ok (.aload_n 0, 1) by decide +kernel) (by rfl) ?_
    refine go_getI (show decode cX10_meets 140 = .ok (.getfield 242, 3) by decide +kernel) fl_X10_242 (Or.inl rfl) q3 ?_
    refine go_aload_n (show decode cX10_meets 143 = .ok (.aload_n 0, 1) by decide +kernel) (by rfl) ?_
    refine go_getI (show decode cX10_meets 144 = .ok (.getfield 248, 3) by decide +kernel) fl_X10_248 (Or.inl rfl) q3 ?_
    obtain ⟨ht, hf⟩ := h
    refine go_icmpgt (tgt := 154) (show decode cX10_meets 147 = .ok (.if_icmp .gt 7, 3) by decide +kernel) (by decide) (fun hc => ?_) (fun hc => ?_)
    · have h := ht hc
      refine go_iconst (show decode cX10_meets 154 = .ok (.iconst 0, 1) by decide +kernel) (by decide) ?_
      exact go_zret (show decode cX10_meets 155 = .ok (.ireturn, 1) by decide +kernel) rfl (by decide) h
    · have h := hf hc
      refine go_iconst (show decode cX10_meets 150 = .ok (.iconst 1, 1) by decide +kernel) (by decide) ?_
      refine go_goto (tgt := 155) (show decode cX10_meets 151 = .ok (.goto 4, 3) by decide +kernel) (by decide) ?_
      exact go_zret (show decode cX10_meets 155 = .ok (.ireturn, 1) by decide +kernel) rfl (by decide) h
def V_X10_meets_91 (d : Nat) (S : AS) (F : AF) (G : AG) (Q : AQ) (a0 : Nat) (a1 : Int) (a2 : Int) (a3 : Int) (a4 : Int) (a5 : Int) (s0 : Int) (s1 : Nat) : Prop :=
  (sK S s1 = 10) ∧
  ∀ F2 : AF, F2 = fu F s1 26 s0 →
  (sK S a0 = 10) ∧
  (r32 (4 * a1)) ∧
  (r32 ((4 * a1) + 3)) ∧
  (sK S (sR S a0 15) = 20) ∧
  ((0 : Int) ≤ (4 * a1) + 3) ∧
  (((4 * a1) + 3 : Int) < (sN S (sR S a0 15) : Int)) ∧
  ((G (sR S a0 15) ((4 * a1) + 3) ≤ a5) →
    V_X10_meets_125 d S F2 G Q a0 a1 a2 a3 a4 a5 (G (sR S a0 15) ((4 * a1) + 3)) a0) ∧
  ((¬ G (sR S a0 15) ((4 * a1) + 3) ≤ a5) →
    V_X10_meets_125 d S F2 G Q a0 a1 a2 a3 a4 a5 a5 a0)
theorem R_X10_meets_91 {d : Nat} {S : AS} {F : AF} {G : AG} {Q : AQ} {a0 : Nat} {a1 : Int} {a2 : Int} {a3 : Int} {a4 : Int} {a5 : Int} {s0 : Int} {s1 : Nat} (h : V_X10_meets_91 d S F G Q a0 a1 a2 a3 a4 a5 s0 s1) : Go d MX10_meets 91 [some (vR a0), some (vI a1), some (vI a2), some (vI a3), some (vI a4), some (vI a5)] [vI s0, vR s1] S F G Q := by
  unfold V_X10_meets_91 at h
  obtain ⟨q1, h⟩ := h
  refine go_putI (show decode cX10_meets 91 = .ok (.putfield 245, 3) by decide +kernel) fl_X10_245 rfl (Or.inl rfl) q1 ?_
  obtain ⟨F2, F2e⟩ : ∃ F2 : AF, F2 = fu F s1 26 s0 := ⟨_, rfl⟩
  have h := h F2 F2e
  rw [← F2e]
  refine go_aload_n (show decode cX10_meets 94 = .ok (.aload_n 0, 1) by decide +kernel) (by rfl) ?_
  refine go_iload (show decode cX10_meets 95 = .ok (.iload 5, 2) by decide +kernel) (by rfl) ?_
  refine go_aload_n (show decode cX10_meets 97 = .ok (.aload_n 0, 1) by decide +kernel) (by rfl) ?_
  obtain ⟨q3, h⟩ := h
  refine go_getR (show decode cX10_meets 98 = .ok (.getfield 55, 3) by decide +kernel) fl_X10_55 rfl q3 ?_
  refine go_iconst (show decode cX10_meets 101 = .ok (.iconst 4, 1) by decide +kernel) (by decide) ?_
  refine go_iload_n (show decode cX10_meets 102 = .ok (.iload_n 1, 1) by decide +kernel) (by rfl) ?_
  obtain ⟨q4, h⟩ := h
  refine go_imul (show decode cX10_meets 103 = .ok (.imul, 1) by decide +kernel) q4 ?_
  refine go_iconst (show decode cX10_meets 104 = .ok (.iconst 3, 1) by decide +kernel) (by decide) ?_
  obtain ⟨q5, h⟩ := h
  refine go_iadd (show decode cX10_meets 105 = .ok (.iadd, 1) by decide +kernel) q5 ?_
  obtain ⟨q6, h⟩ := h
  obtain ⟨q7, h⟩ := h
  obtain ⟨q8, h⟩ := h
  refine go_iaload (show decode cX10_meets 106 = .ok (.iaload, 1) by decide +kernel) q6 q7 q8 ?_
  obtain ⟨ht, hf⟩ := h
  refine go_icmpge (tgt := 115) (show decode cX10_meets 107 = .ok (.if_icmp .ge 8, 3) by decide +kernel) (by decide) (fun hc => ?_) (fun hc => ?_)
  · have h := ht hc
    refine go_aload_n (show decode cX10_meets 115 = .ok (.aload_n 0, 1) by decide +kernel) (by rfl) ?_
    refine go_getR (show decode cX10_meets 116 = .ok (.getfield 55, 3) by decide +kernel) fl_X10_55 rfl q3 ?_
    refine go_iconst (show decode cX10_meets 119 = .ok (.iconst 4, 1) by decide +kernel) (by decide) ?_
    refine go_iload_n (show decode cX10_meets 120 = .ok (.iload_n 1, 1) by decide +kernel) (by rfl) ?_
    refine go_imul (show decode cX10_meets 121 = .ok (.imul, 1) by decide +kernel) q4 ?_
    refine go_iconst (show decode cX10_meets 122 = .ok (.iconst 3, 1) by decide +kernel) (by decide) ?_
    refine go_iadd (show decode cX10_meets 123 = .ok (.iadd, 1) by decide +kernel) q5 ?_
    refine go_iaload (show decode cX10_meets 124 = .ok (.iaload, 1) by decide +kernel) q6 q7 q8 ?_
    exact R_X10_meets_125 h
  · have h := hf hc
    refine go_iload (show decode cX10_meets 110 = .ok (.iload 5, 2) by decide +kernel) (by rfl) ?_
    refine go_goto (tgt := 125) (show decode cX10_meets 112 = .ok (.goto 13, 3) by decide +kernel) (by decide) ?_
    exact R_X10_meets_125 h
def V_X10_meets_57 (d : Nat) (S : AS) (F : AF) (G : AG) (Q : AQ) (a0 : Nat) (a1 : Int) (a2 : Int) (a3 : Int) (a4 : Int) (a5 : Int) (s0 : Int) (s1 : Nat) : Prop :=
  (sK S s1 = 10) ∧
  ∀ F2 : AF, F2 = fu F s1 25 s0 →
  (sK S a0 = 10) ∧
  (r32 (4 * a1)) ∧
  (r32 ((4 * a1) + 2)) ∧
  (sK S (sR S a0 15) = 20) ∧
  ((0 : Int) ≤ (4 * a1) + 2) ∧
  (((4 * a1) + 2 : Int) < (sN S (sR S a0 15) : Int)) ∧
  ((G (sR S a0 15) ((4 * a1) + 2) ≤ a4) →
    V_X10_meets_91 d S F2 G Q a0 a1 a2 a3 a4 a5 (G (sR S a0 15) ((4 * a1) + 2)) a0) ∧
  ((¬ G (sR S a0 15) ((4 * a1) + 2) ≤ a4) →
    V_X10_meets_91 d S F2 G Q a0 a1 a2 a3 a4 a5 a4 a0)
theorem R_X10_meets_57 {d : Nat} {S : AS} {F : AF} {G : AG} {Q : AQ} {a0 : Nat} {a1 : Int} {a2 : Int} {a3 : Int} {a4 : Int} {a5 : Int} {s0 : Int} {s1 : Nat} (h : V_X10_meets_57 d S F G Q a0 a1 a2 a3 a4 a5 s0 s1) : Go d MX10_meets 57 [some (vR a0), some (vI a1), some (vI a2), some (vI a3), some (vI a4), some (vI a5)] [vI s0, vR s1] S F G Q := by
  unfold V_X10_meets_57 at h
  obtain ⟨q1, h⟩ := h
  refine go_putI (show decode cX10_meets 57 = .ok (.putfield 242, 3) by decide +kernel) fl_X10_242 rfl (Or.inl rfl) q1 ?_
  obtain ⟨F2, F2e⟩ : ∃ F2 : AF, F2 = fu F s1 25 s0 := ⟨_, rfl⟩
  have h := h F2 F2e
  rw [← F2e]
  refine go_aload_n (show decode cX10_meets 60 = .ok (.aload_n 0, 1) by decide +kernel) (by rfl) ?_
  refine go_iload (show decode cX10_meets 61 = .ok (.iload 4, 2) by decide +kernel) (by rfl) ?_
  refine go_aload_n (show decode cX10_meets 63 = .ok (.aload_n 0, 1) by decide +kernel) (by rfl) ?_
  obtain ⟨q3, h⟩ := h
  refine go_getR (show decode cX10_meets 64 = .ok (.getfield 55, 3) by decide +kernel) fl_X10_55 rfl q3 ?_
  refine go_iconst (show decode cX10_meets 67 = .ok (.iconst 4, 1) by decide +kernel) (by decide) ?_
  refine go_iload_n (show decode cX10_meets 68 = .ok (.iload_n 1, 1) by decide +kernel) (by rfl) ?_
  obtain ⟨q4, h⟩ := h
  refine go_imul (show decode cX10_meets 69 = .ok (.imul, 1) by decide +kernel) q4 ?_
  refine go_iconst (show decode cX10_meets 70 = .ok (.iconst 2, 1) by decide +kernel) (by decide) ?_
  obtain ⟨q5, h⟩ := h
  refine go_iadd (show decode cX10_meets 71 = .ok (.iadd, 1) by decide +kernel) q5 ?_
  obtain ⟨q6, h⟩ := h
  obtain ⟨q7, h⟩ := h
  obtain ⟨q8, h⟩ := h
  refine go_iaload (show decode cX10_meets 72 = .ok (.iaload, 1) by decide +kernel) q6 q7 q8 ?_
  obtain ⟨ht, hf⟩ := h
  refine go_icmpge (tgt := 81) (show decode cX10_meets 73 = .ok (.if_icmp .ge 8, 3) by decide +kernel) (by decide) (fun hc => ?_) (fun hc => ?_)
  · have h := ht hc
    refine go_aload_n (show decode cX10_meets 81 = .ok (.aload_n 0, 1) by decide +kernel) (by rfl) ?_
    refine go_getR (show decode cX10_meets 82 = .ok (.getfield 55, 3) by decide +kernel) fl_X10_55 rfl q3 ?_
    refine go_iconst (show decode cX10_meets 85 = .ok (.iconst 4, 1) by decide +kernel) (by decide) ?_
    refine go_iload_n (show decode cX10_meets 86 = .ok (.iload_n 1, 1) by decide +kernel) (by rfl) ?_
    refine go_imul (show decode cX10_meets 87 = .ok (.imul, 1) by decide +kernel) q4 ?_
    refine go_iconst (show decode cX10_meets 88 = .ok (.iconst 2, 1) by decide +kernel) (by decide) ?_
    refine go_iadd (show decode cX10_meets 89 = .ok (.iadd, 1) by decide +kernel) q5 ?_
    refine go_iaload (show decode cX10_meets 90 = .ok (.iaload, 1) by decide +kernel) q6 q7 q8 ?_
    exact R_X10_meets_91 h
  · have h := hf hc
    refine go_iload (show decode cX10_meets 76 = .ok (.iload 4, 2) by decide +kernel) (by rfl) ?_
    refine go_goto (tgt := 91) (show decode cX10_meets 78 = .ok (.goto 13, 3) by decide +kernel) (by decide) ?_
    exact R_X10_meets_91 h
def V_X10_meets_25 (d : Nat) (S : AS) (F : AF) (G : AG) (Q : AQ) (a0 : Nat) (a1 : Int) (a2 : Int) (a3 : Int) (a4 : Int) (a5 : Int) (s0 : Int) (s1 : Nat) : Prop :=
  (sK S s1 = 10) ∧
  ∀ F2 : AF, F2 = fu F s1 24 s0 →
  (sK S a0 = 10) ∧
  (r32 (4 * a1)) ∧
  (r32 ((4 * a1) + 1)) ∧
  (sK S (sR S a0 15) = 20) ∧
  ((0 : Int) ≤ (4 * a1) + 1) ∧
  (((4 * a1) + 1 : Int) < (sN S (sR S a0 15) : Int)) ∧
  ((a3 ≤ G (sR S a0 15) ((4 * a1) + 1)) →
    V_X10_meets_57 d S F2 G Q a0 a1 a2 a3 a4 a5 (G (sR S a0 15) ((4 * a1) + 1)) a0) ∧
  ((¬ a3 ≤ G (sR S a0 15) ((4 * a1) + 1)) →
    V_X10_meets_57 d S F2 G Q a0 a1 a2 a3 a4 a5 a3 a0)
theorem R_X10_meets_25 {d : Nat} {S : AS} {F : AF} {G : AG} {Q : AQ} {a0 : Nat} {a1 : Int} {a2 : Int} {a3 : Int} {a4 : Int} {a5 : Int} {s0 : Int} {s1 : Nat} (h : V_X10_meets_25 d S F G Q a0 a1 a2 a3 a4 a5 s0 s1) : Go d MX10_meets 25 [some (vR a0), some (vI a1), some (vI a2), some (vI a3), some (vI a4), some (vI a5)] [vI s0, vR s1] S F G Q := by
  unfold V_X10_meets_25 at h
  obtain ⟨q1, h⟩ := h
  refine go_putI (show decode cX10_meets 25 = .ok (.putfield 239, 3) by decide +kernel) fl_X10_239 rfl (Or.inl rfl) q1 ?_
  obtain ⟨F2, F2e⟩ : ∃ F2 : AF, F2 = fu F s1 24 s0 := ⟨_, rfl⟩
  have h := h F2 F2e
  rw [← F2e]
  refine go_aload_n (show decode cX10_meets 28 = .ok (.aload_n 0, 1) by decide +kernel) (by rfl) ?_
  refine go_iload_n (show decode cX10_meets 29 = .ok (.iload_n 3, 1) by decide +kernel) (by rfl) ?_
  refine go_aload_n (show decode cX10_meets 30 = .ok (.aload_n 0, 1) by decide +kernel) (by rfl) ?_
  obtain ⟨q3, h⟩ := h
  refine go_getR (show decode cX10_meets 31 = .ok (.getfield 55, 3) by decide +kernel) fl_X10_55 rfl q3 ?_
  refine go_iconst (show decode cX10_meets 34 = .ok (.iconst 4, 1) by decide +kernel) (by decide) ?_
  refine go_iload_n (show decode cX10_meets 35 = .ok (.iload_n 1, 1) by decide +kernel) (by rfl) ?_
  obtain ⟨q4, h⟩ := h
  refine go_imul (show decode cX10_meets 36 = .ok (.imul, 1) by decide +kernel) q4 ?_
  refine go_iconst (show decode cX10_meets 37 = .ok (.iconst 1, 1) by decide +kernel) (by decide) ?_
  obtain ⟨q5, h⟩ := h
  refine go_iadd (show decode cX10_meets 38 = .ok (.iadd, 1) by decide +kernel) q5 ?_
  obtain ⟨q6, h⟩ := h
  obtain ⟨q7, h⟩ := h
  obtain ⟨q8, h⟩ := h
  refine go_iaload (show decode cX10_meets 39 = .ok (.iaload, 1) by decide +kernel) q6 q7 q8 ?_
  obtain ⟨ht, hf⟩ := h
  refine go_icmple (tgt := 47) (show decode cX10_meets 40 = .ok (.if_icmp .le 7, 3) by decide +kernel) (by decide) (fun hc => ?_) (fun hc => ?_)
  · have h := ht hc
    refine go_aload_n (show decode cX10_meets 47 = .ok (.aload_n 0, 1) by decide +kernel) (by rfl) ?_
    refine go_getR (show decode cX10_meets 48 = .ok (.getfield 55, 3) by decide +kernel) fl_X10_55 rfl q3 ?_
    refine go_iconst (show decode cX10_meets 51 = .ok (.iconst 4, 1) by decide +kernel) (by decide) ?_
    refine go_iload_n (show decode cX10_meets 52 = .ok (.iload_n 1, 1) by decide +kernel) (by rfl) ?_
    refine go_imul (show decode cX10_meets 53 = .ok (.imul, 1) by decide +kernel) q4 ?_
    refine go_iconst (show decode cX10_meets 54 = .ok (.iconst 1, 1) by decide +kernel) (by decide) ?_
    refine go_iadd (show decode cX10_meets 55 = .ok (.iadd, 1) by decide +kernel) q5 ?_
    refine go_iaload (show decode cX10_meets 56 = .ok (.iaload, 1) by decide +kernel) q6 q7 q8 ?_
    exact R_X10_meets_57 h
  · have h := hf hc
    refine go_iload_n (show decode cX10_meets 43 = .ok (.iload_n 3, 1) by decide +kernel) (by rfl) ?_
    refine go_goto (tgt := 57) (show decode cX10_meets 44 = .ok (.goto 13, 3) by decide +kernel) (by decide) ?_
    exact R_X10_meets_57 h
def V_X10_meets_0 (d : Nat) (S : AS) (F : AF) (G : AG) (Q : AQ) (a0 : Nat) (a1 : Int) (a2 : Int) (a3 : Int) (a4 : Int) (a5 : Int) : Prop :=
  (sK S a0 = 10) ∧
  (r32 (4 * a1)) ∧
  (sK S (sR S a0 15) = 20) ∧
  ((0 : Int) ≤ 4 * a1) ∧
  ((4 * a1 : Int) < (sN S (sR S a0 15) : Int)) ∧
  ((a2 ≤ G (sR S a0 15) (4 * a1)) →
    V_X10_meets_25 d S F G Q a0 a1 a2 a3 a4 a5 (G (sR S a0 15) (4 * a1)) a0) ∧
  ((¬ a2 ≤ G (sR S a0 15) (4 * a1)) →
    V_X10_meets_25 d S F G Q a0 a1 a2 a3 a4 a5 a2 a0)
theorem R_X10_meets_0 {d : Nat} {S : AS} {F : AF} {G : AG} {Q : AQ} {a0 : Nat} {a1 : Int} {a2 : Int} {a3 : Int} {a4 : Int} {a5 : Int} (h : V_X10_meets_0 d S F G Q a0 a1 a2 a3 a4 a5) : Go d MX10_meets 0 [some (vR a0), some (vI a1), some (vI a2), some (vI a3), some (vI a4), some (vI a5)] [] S F G Q := by
  unfold V_X10_meets_0 at h
  refine go_aload_n (show decode cX10_meets 0 = .ok (.aload_n 0, 1) by decide +kernel) (by rfl) ?_
  refine go_iload_n (show decode cX10_meets 1 = .ok (.iload_n 2, 1) by decide +kernel) (by rfl) ?_
  refine go_aload_n (show decode cX10_meets 2 = .ok (.aload_n 0, 1) by decide +kernel) (by rfl) ?_
  obtain ⟨q1, h⟩ := h
  refine go_getR (show decode cX10_meets 3 = .ok (.getfield 55, 3) by decide +kernel) fl_X10_55 rfl q1 ?_
  refine go_iconst (show decode cX10_meets 6 = .ok (.iconst 4, 1) by decide +kernel) (by decide) ?_
  refine go_iload_n (show decode cX10_meets 7 = .ok (.iload_n 1, 1) by decide +kernel) (by rfl) ?_
  obtain ⟨q2, h⟩ := h
  refine go_imul (show decode cX10_meets 8 = .ok (.imul, 1) by decide +kernel) q2 ?_
  obtain ⟨q3, h⟩ := h
  obtain ⟨q4, h⟩ := h
  obtain ⟨q5, h⟩ := h
  refine go_iaload (show decode cX10_meets 9 = .ok (.iaload, 1) by decide +kernel) q3 q4 q5 ?_
  obtain ⟨ht, hf⟩ := h
  refine go_icmple (tgt := 17) (show decode cX10_meets 10 = .ok (.if_icmp .le 7, 3) by decide +kernel) (by decide) (fun hc => ?_) (fun hc => ?_)
  · have h := ht hc
    refine go_aload_n (show decode cX10_meets 17 = .ok (.aload_n 0, 1) by decide +kernel) (by rfl) ?_
    refine go_getR (show decode cX10_meets 18 = .ok (.getfield 55, 3) by decide +kernel) fl_X10_55 rfl q1 ?_
    refine go_iconst (show decode cX10_meets 21 = .ok (.iconst 4, 1) by decide +kernel) (by decide) ?_
    refine go_iload_n (show decode cX10_meets 22 = .ok (.iload_n 1, 1) by decide +kernel) (by rfl) ?_
    refine go_imul (show decode cX10_meets 23 = .ok (.imul, 1) by decide +kernel) q2 ?_
    refine go_iaload (show decode cX10_meets 24 = .ok (.iaload, 1) by decide +kernel) q3 q4 q5 ?_
    exact R_X10_meets_25 h
  · have h := hf hc
    refine go_iload_n (show decode cX10_meets 13 = .ok (.iload_n 2, 1) by decide +kernel) (by rfl) ?_
    refine go_goto (tgt := 25) (show decode cX10_meets 14 = .ok (.goto 11, 3) by decide +kernel) (by decide) ?_
    exact R_X10_meets_25 h
def V_X10_zoned_0 (d : Nat) (S : AS) (F : AF) (G : AG) (Q : AQ) (a0 : Nat) (a1 : Int) : Prop :=
  (sK S a0 = 10) ∧
  (r32 (4 * a1)) ∧
  (sK S (sR S a0 15) = 20) ∧
  ((0 : Int) ≤ 4 * a1) ∧
  ((4 * a1 : Int) < (sN S (sR S a0 15) : Int)) ∧
  (r32 ((4 * a1) + 1)) ∧
  ((0 : Int) ≤ (4 * a1) + 1) ∧
  (((4 * a1) + 1 : Int) < (sN S (sR S a0 15) : Int)) ∧
  (r32 ((4 * a1) + 2)) ∧
  ((0 : Int) ≤ (4 * a1) + 2) ∧
  (((4 * a1) + 2 : Int) < (sN S (sR S a0 15) : Int)) ∧
  (r32 ((4 * a1) + 3)) ∧
  ((0 : Int) ≤ (4 * a1) + 3) ∧
  (((4 * a1) + 3 : Int) < (sN S (sR S a0 15) : Int)) ∧
  (1 ≤ d) ∧
  Ok (d - 1) MX10_sumOf [vR a0, vI (-1), vI (G (sR S a0 15) (4 * a1)), vI (G (sR S a0 15) ((4 * a1) + 1)), vI (G (sR S a0 15) ((4 * a1) + 2)), vI (G (sR S a0 15) ((4 * a1) + 3))] S F G (fun w16 S17 F18 G19 =>
  ∃ z20 : Int, w16 = some (vJ z20) ∧
  Q (some (vJ z20)) S17 F18 G19)
theorem R_X10_zoned_0 {d : Nat} {S : AS} {F : AF} {G : AG} {Q : AQ} {a0 : Nat} {a1 : Int} (h : V_X10_zoned_0 d S F G Q a0 a1) : Go d MX10_zoned 0 [some (vR a0), some (vI a1)] [] S F G Q := by
  unfold V_X10_zoned_0 at h
  refine go_aload_n (show decode cX10_zoned 0 = .ok (.aload_n 0, 1) by decide +kernel) (by rfl) ?_
  refine go_iconst (show decode cX10_zoned 1 = .ok (.iconst (-1), 1) by decide +kernel) (by decide) ?_
  refine go_aload_n (show decode cX10_zoned 2 = .ok (.aload_n 0, 1) by decide +kernel) (by rfl) ?_
  obtain ⟨q1, h⟩ := h
  refine go_getR (show decode cX10_zoned 3 = .ok (.getfield 55, 3) by decide +kernel) fl_X10_55 rfl q1 ?_
  refine go_iconst (show decode cX10_zoned 6 = .ok (.iconst 4, 1) by decide +kernel) (by decide) ?_
  refine go_iload_n (show decode cX10_zoned 7 = .ok (.iload_n 1, 1) by decide +kernel) (by rfl) ?_
  obtain ⟨q2, h⟩ := h
  refine go_imul (show decode cX10_zoned 8 = .ok (.imul, 1) by decide +kernel) q2 ?_
  obtain ⟨q3, h⟩ := h
  obtain ⟨q4, h⟩ := h
  obtain ⟨q5, h⟩ := h
  refine go_iaload (show decode cX10_zoned 9 = .ok (.iaload, 1) by decide +kernel) q3 q4 q5 ?_
  refine go_aload_n (show decode cX10_zoned 10 = .ok (.aload_n 0, 1) by decide +kernel) (by rfl) ?_
  refine go_getR (show decode cX10_zoned 11 = .ok (.getfield 55, 3) by decide +kernel) fl_X10_55 rfl q1 ?_
  refine go_iconst (show decode cX10_zoned 14 = .ok (.iconst 4, 1) by decide +kernel) (by decide) ?_
  refine go_iload_n (show decode cX10_zoned 15 = .ok (.iload_n 1, 1) by decide +kernel) (by rfl) ?_
  refine go_imul (show decode cX10_zoned 16 = .ok (.imul, 1) by decide +kernel) q2 ?_
  refine go_iconst (show decode cX10_zoned 17 = .ok (.iconst 1, 1) by decide +kernel) (by decide) ?_
  obtain ⟨q6, h⟩ := h
  refine go_iadd (show decode cX10_zoned 18 = .ok (.iadd, 1) by decide +kernel) q6 ?_
  obtain ⟨q7, h⟩ := h
  obtain ⟨q8, h⟩ := h
  refine go_iaload (show decode cX10_zoned 19 = .ok (.iaload, 1) by decide +kernel) q3 q7 q8 ?_
  refine go_aload_n (show decode cX10_zoned 20 = .ok (.aload_n 0, 1) by decide +kernel) (by rfl) ?_
  refine go_getR (show decode cX10_zoned 21 = .ok (.getfield 55, 3) by decide +kernel) fl_X10_55 rfl q1 ?_
  refine go_iconst (show decode cX10_zoned 24 = .ok (.iconst 4, 1) by decide +kernel) (by decide) ?_
  refine go_iload_n (show decode cX10_zoned 25 = .ok (.iload_n 1, 1) by decide +kernel) (by rfl) ?_
  refine go_imul (show decode cX10_zoned 26 = .ok (.imul, 1) by decide +kernel) q2 ?_
  refine go_iconst (show decode cX10_zoned 27 = .ok (.iconst 2, 1) by decide +kernel) (by decide) ?_
  obtain ⟨q9, h⟩ := h
  refine go_iadd (show decode cX10_zoned 28 = .ok (.iadd, 1) by decide +kernel) q9 ?_
  obtain ⟨q10, h⟩ := h
  obtain ⟨q11, h⟩ := h
  refine go_iaload (show decode cX10_zoned 29 = .ok (.iaload, 1) by decide +kernel) q3 q10 q11 ?_
  refine go_aload_n (show decode cX10_zoned 30 = .ok (.aload_n 0, 1) by decide +kernel) (by rfl) ?_
  refine go_getR (show decode cX10_zoned 31 = .ok (.getfield 55, 3) by decide +kernel) fl_X10_55 rfl q1 ?_
  refine go_iconst (show decode cX10_zoned 34 = .ok (.iconst 4, 1) by decide +kernel) (by decide) ?_
  refine go_iload_n (show decode cX10_zoned 35 = .ok (.iload_n 1, 1) by decide +kernel) (by rfl) ?_
  refine go_imul (show decode cX10_zoned 36 = .ok (.imul, 1) by decide +kernel) q2 ?_
  refine go_iconst (show decode cX10_zoned 37 = .ok (.iconst 3, 1) by decide +kernel) (by decide) ?_
  obtain ⟨q12, h⟩ := h
  refine go_iadd (show decode cX10_zoned 38 = .ok (.iadd, 1) by decide +kernel) q12 ?_
  obtain ⟨q13, h⟩ := h
  obtain ⟨q14, h⟩ := h
  refine go_iaload (show decode cX10_zoned 39 = .ok (.iaload, 1) by decide +kernel) q3 q13 q14 ?_
  obtain ⟨q15, h⟩ := h
  refine go_callV (d2 := d - 1) (M2 := MX10_sumOf) (n := 5) (ci := 10) (av := [vI (-1), vI (G (sR S a0 15) (4 * a1)), vI (G (sR S a0 15) ((4 * a1) + 1)), vI (G (sR S a0 15) ((4 * a1) + 2)), vI (G (sR S a0 15) ((4 * a1) + 3))]) (st := []) (show decode cX10_zoned 40 = .ok (.invokevirtual 251, 3) by decide +kernel) ml_X10_251 mt_X10_sumOf min_X10_sumOf mse_X10_sumOf (by decide) q1 rfl (Nat.le_of_ble_eq_true rfl) (by omega) (ok_mono h (fun w16 S17 F18 G19 h => ?_))
  obtain ⟨z20, e9, h⟩ := h
  subst e9
  show Go d MX10_zoned 43 [some (vR a0), some (vI a1)] [vJ z20] S17 F18 G19 Q
  exact go_lret (show decode cX10_zoned 43 = .ok (.lreturn, 1) by decide +kernel) rfl h
def V_X10_sumOf_53 (d : Nat) (S : AS) (F : AF) (G : AG) (Q : AQ) (a0 : Nat) (a1 : Int) (a2 : Int) (a3 : Int) (a4 : Int) (a5 : Int) (a6 : Int) (a8 : Int) (a9 : Int) : Prop :=
  (r32 (a8 + 1)) ∧
  Go d MX10_sumOf 6 [some (vR a0), some (vI a1), some (vI a2), some (vI a3), some (vI a4), some (vI a5), some (vJ a6), none, some (vI (a8 + 1)), none] [] S F G Q
theorem R_X10_sumOf_53 {d : Nat} {S : AS} {F : AF} {G : AG} {Q : AQ} {a0 : Nat} {a1 : Int} {a2 : Int} {a3 : Int} {a4 : Int} {a5 : Int} {a6 : Int} {a8 : Int} {a9 : Int} (h : V_X10_sumOf_53 d S F G Q a0 a1 a2 a3 a4 a5 a6 a8 a9) : Go d MX10_sumOf 53 [some (vR a0), some (vI a1), some (vI a2), some (vI a3), some (vI a4), some (vI a5), some (vJ a6), none, some (vI a8), some (vI a9)] [] S F G Q := by
  unfold V_X10_sumOf_53 at h
  obtain ⟨q1, h⟩ := h
  refine go_iinc (show decode cX10_sumOf 53 = .ok (.iinc 8 1, 3) by decide +kernel) (by rfl) q1 (by decide) ?_
  show Go d MX10_sumOf 56 [some (vR a0), some (vI a1), some (vI a2), some (vI a3), some (vI a4), some (vI a5), some (vJ a6), none, some (vI (a8 + 1)), some (vI a9)] [] S F G Q
  refine go_goto (tgt := 6) (show decode cX10_sumOf 56 = .ok (.goto (-50), 3) by decide +kernel) (by decide) ?_
  refine go_clr 9 ?_
  exact h
def V_X10_sumOf_6 (d : Nat) (S : AS) (F : AF) (G : AG) (Q : AQ) (a0 : Nat) (a1 : Int) (a2 : Int) (a3 : Int) (a4 : Int) (a5 : Int) (a6 : Int) (a8 : Int) : Prop :=
  (sK S a0 = 10) ∧
  (sK S (sR S a0 5) = 20) ∧
  ((1 : Int) < (sN S (sR S a0 5) : Int)) ∧
  ((G (sR S a0 5) 1 ≤ a8) →
    Q (some (vJ a6)) S F G) ∧
  ((¬ G (sR S a0 5) 1 ≤ a8) →
    (1 ≤ d) ∧
    Ok (d - 1) MX10_part [vR a0, vI 1, vI a8, vI a3, vI a5] S F G (fun w5 S6 F7 G8 =>
    ∃ z9 : Int, w5 = some (vI z9) ∧
    ((z9 ≤ 0) →
      V_X10_sumOf_53 d S6 F7 G8 Q a0 a1 a2 a3 a4 a5 a6 a8 z9) ∧
    ((¬ z9 ≤ 0) →
      (sK S6 a0 = 10) ∧
      Ok (d - 1) MX10_acrossSum [vR a0, vI a1, vI a8, vI a2, vI a4] S6 F7 G8 (fun w10 S11 F12 G13 =>
      ∃ z15 : Int, w10 = some (vJ z15) ∧
      (r64 (z15 * z9)) ∧
      (r64 (a6 + (z15 * z9))) ∧
      ∀ x18 : Int, x18 = a6 + (z15 * z9) →
      V_X10_sumOf_53 d S11 F12 G13 Q a0 a1 a2 a3 a4 a5 x18 a8 z9))))
theorem R_X10_sumOf_6 {d : Nat} {S : AS} {F : AF} {G : AG} {Q : AQ} {a0 : Nat} {a1 : Int} {a2 : Int} {a3 : Int} {a4 : Int} {a5 : Int} {a6 : Int} {a8 : Int} (h : V_X10_sumOf_6 d S F G Q a0 a1 a2 a3 a4 a5 a6 a8) : Go d MX10_sumOf 6 [some (vR a0), some (vI a1), some (vI a2), some (vI a3), some (vI a4), some (vI a5), some (vJ a6), none, some (vI a8), none] [] S F G Q := by
  unfold V_X10_sumOf_6 at h
  refine go_iload (show decode cX10_sumOf 6 = .ok (.iload 8, 2) by decide +kernel) (by rfl) ?_
  refine go_aload_n (show decode cX10_sumOf 8 = .ok (.aload_n 0, 1) by decide +kernel) (by rfl) ?_
  obtain ⟨q1, h⟩ := h
  refine go_getR (show decode cX10_sumOf 9 = .ok (.getfield 29, 3) by decide +kernel) fl_X10_29 rfl q1 ?_
  refine go_iconst (show decode cX10_sumOf 12 = .ok (.iconst 1, 1) by decide +kernel) (by decide) ?_
  obtain ⟨q2, h⟩ := h
  obtain ⟨q3, h⟩ := h
  refine go_iaload (show decode cX10_sumOf 13 = .ok (.iaload, 1) by decide +kernel) q2 (by decide) q3 ?_
  obtain ⟨ht, hf⟩ := h
  refine go_icmpge (tgt := 59) (show decode cX10_sumOf 14 = .ok (.if_icmp .ge 45, 3) by decide +kernel) (by decide) (fun hc => ?_) (fun hc => ?_)
  · have h := ht hc
    refine go_lload (show decode cX10_sumOf 59 = .ok (.lload 6, 2) by decide +kernel) (by rfl) ?_
    exact go_lret (show decode cX10_sumOf 61 = .ok (.lreturn, 1) by decide +kernel) rfl h
  · have h := hf hc
    refine go_aload_n (show decode cX10_sumOf 17 = .ok (.aload_n 0, 1) by decide +kernel) (by rfl) ?_
    refine go_iconst (show decode cX10_sumOf 18 = .ok (.iconst 1, 1) by decide +kernel) (by decide) ?_
    refine go_iload (show decode cX10_sumOf 19 = .ok (.iload 8, 2) by decide +kernel) (by rfl) ?_
    refine go_iload_n (show decode cX10_sumOf 21 = .ok (.iload_n 3, 1) by decide +kernel) (by rfl) ?_
    refine go_iload (show decode cX10_sumOf 22 = .ok (.iload 5, 2) by decide +kernel) (by rfl) ?_
    obtain ⟨q4, h⟩ := h
    refine go_callV (d2 := d - 1) (M2 := MX10_part) (n := 4) (ci := 10) (av := [vI 1, vI a8, vI a3, vI a5]) (st := []) (show decode cX10_sumOf 24 = .ok (.invokevirtual 159, 3) by decide +kernel) ml_X10_159 mt_X10_part min_X10_part mse_X10_part (by decide) q1 rfl (Nat.le_of_ble_eq_true rfl) (by omega) (ok_mono h (fun w5 S6 F7 G8 h => ?_))
    obtain ⟨z9, e9, h⟩ := h
    subst e9
    show Go d MX10_sumOf 27 [some (vR a0), some (vI a1), some (vI a2), some (vI a3), some (vI a4), some (vI a5), some (vJ a6), none, some (vI a8), none] [vI z9] S6 F7 G8 Q
    refine go_istore (show decode cX10_sumOf 27 = .ok (.istore 9, 2) by decide +kernel) (by decide) ?_
    show Go d MX10_sumOf 29 [some (vR a0), some (vI a1), some (vI a2), some (vI a3), some (vI a4), some (vI a5), some (vJ a6), none, some (vI a8), some (vI z9)] [] S6 F7 G8 Q
    refine go_iload (show decode cX10_sumOf 29 = .ok (.iload 9, 2) by decide +kernel) (by rfl) ?_
    obtain ⟨ht, hf⟩ := h
    refine go_ifle (tgt := 53) (show decode cX10_sumOf 31 = .ok (.ifCond .le 22, 3) by decide +kernel) (by decide) (fun hc => ?_) (fun hc => ?_)
    · have h := ht hc
      exact R_X10_sumOf_53 h
    · have h := hf hc
      refine go_lload (show decode cX10_sumOf 34 = .ok (.lload 6, 2) by decide +kernel) (by rfl) ?_
      refine go_aload_n (show decode cX10_sumOf 36 = .ok (.aload_n 0, 1) by decide +kernel) (by rfl) ?_
      refine go_iload_n (show decode cX10_sumOf 37 = .ok (.iload_n 1, 1) by decide +kernel) (by rfl) ?_
      refine go_iload (show decode cX10_sumOf 38 = .ok (.iload 8, 2) by decide +kernel) (by rfl) ?_
      refine go_iload_n (show decode cX10_sumOf 40 = .ok (.iload_n 2, 1) by decide +kernel) (by rfl) ?_
      refine go_iload (show decode cX10_sumOf 41 = .ok (.iload 4, 2) by decide +kernel) (by rfl) ?_
      obtain ⟨q14, h⟩ := h
      refine go_callV (d2 := d - 1) (M2 := MX10_acrossSum) (n := 4) (ci := 10) (av := [vI a1, vI a8, vI a2, vI a4]) (st := [vJ a6]) (show decode cX10_sumOf 43 = .ok (.invokevirtual 217, 3) by decide +kernel) ml_X10_217 mt_X10_acrossSum min_X10_acrossSum mse_X10_acrossSum (by decide) q14 rfl (Nat.le_of_ble_eq_true rfl) (by omega) (ok_mono h (fun w10 S11 F12 G13 h => ?_))
      obtain ⟨z15, e9, h⟩ := h
      subst e9
      show Go d MX10_sumOf 46 [some (vR a0), some (vI a1), some (vI a2), some (vI a3), some (vI a4), some (vI a5), some (vJ a6), none, some (vI a8), some (vI z9)] [vJ z15, vJ a6] S11 F12 G13 Q
      refine go_iload (show decode cX10_sumOf 46 = .ok (.iload 9, 2) by decide +kernel) (by rfl) ?_
      refine go_i2l (show decode cX10_sumOf 48 = .ok (.i2l, 1) by decide +kernel) ?_
      obtain ⟨q16, h⟩ := h
      refine go_lmul (show decode cX10_sumOf 49 = .ok (.lmul, 1) by decide +kernel) q16 ?_
      obtain ⟨q17, h⟩ := h
      refine go_ladd (show decode cX10_sumOf 50 = .ok (.ladd, 1) by decide +kernel) q17 ?_
      obtain ⟨x18, x18e⟩ : ∃ x18 : Int, x18 = a6 + (z15 * z9) := ⟨_, rfl⟩
      have h := h x18 x18e
      rw [← x18e]
      refine go_lstore (show decode cX10_sumOf 51 = .ok (.lstore 6, 2) by decide +kernel) (by decide) ?_
      show Go d MX10_sumOf 53 [some (vR a0), some (vI a1), some (vI a2), some (vI a3), some (vI a4), some (vI a5), some (vJ x18), none, some (vI a8), some (vI z9)] [] S11 F12 G13 Q
      exact R_X10_sumOf_53 h
def V_X10_sumOf_0 (d : Nat) (S : AS) (F : AF) (G : AG) (Q : AQ) (a0 : Nat) (a1 : Int) (a2 : Int) (a3 : Int) (a4 : Int) (a5 : Int) : Prop :=
  Go d MX10_sumOf 6 [some (vR a0), some (vI a1), some (vI a2), some (vI a3), some (vI a4), some (vI a5), some (vJ 0), none, some (vI 0), none] [] S F G Q
theorem R_X10_sumOf_0 {d : Nat} {S : AS} {F : AF} {G : AG} {Q : AQ} {a0 : Nat} {a1 : Int} {a2 : Int} {a3 : Int} {a4 : Int} {a5 : Int} (h : V_X10_sumOf_0 d S F G Q a0 a1 a2 a3 a4 a5) : Go d MX10_sumOf 0 [some (vR a0), some (vI a1), some (vI a2), some (vI a3), some (vI a4), some (vI a5), none, none, none, none] [] S F G Q := by
  unfold V_X10_sumOf_0 at h
  refine go_lconst (n := 0) (show decode cX10_sumOf 0 = .ok (.lconst 0, 1) by decide +kernel) ?_
  show Go d MX10_sumOf 1 [some (vR a0), some (vI a1), some (vI a2), some (vI a3), some (vI a4), some (vI a5), none, none, none, none] [vJ 0] S F G Q
  refine go_lstore (show decode cX10_sumOf 1 = .ok (.lstore 6, 2) by decide +kernel) (by decide) ?_
  show Go d MX10_sumOf 3 [some (vR a0), some (vI a1), some (vI a2), some (vI a3), some (vI a4), some (vI a5), some (vJ 0), none, none, none] [] S F G Q
  refine go_iconst (show decode cX10_sumOf 3 = .ok (.iconst 0, 1) by decide +kernel) (by decide) ?_
  refine go_istore (show decode cX10_sumOf 4 = .ok (.istore 8, 2) by decide +kernel) (by decide) ?_
  show Go d MX10_sumOf 6 [some (vR a0), some (vI a1), some (vI a2), some (vI a3), some (vI a4), some (vI a5), some (vJ 0), none, some (vI 0), none] [] S F G Q
  exact h
def V_X10_acrossSum_6 (d : Nat) (S : AS) (F : AF) (G : AG) (Q : AQ) (a0 : Nat) (a1 : Int) (a2 : Int) (a3 : Int) (a4 : Int) (a5 : Int) (a7 : Int) : Prop :=
  (sK S a0 = 10) ∧
  (sK S (sR S a0 5) = 20) ∧
  ((0 : Int) < (sN S (sR S a0 5) : Int)) ∧
  ((G (sR S a0 5) 0 ≤ a7) →
    Q (some (vJ a5)) S F G) ∧
  ((¬ G (sR S a0 5) 0 ≤ a7) →
    (1 ≤ d) ∧
    Ok (d - 1) MX10_in [vR a0, vI a1, vI a7, vI a2] S F G (fun w5 S6 F7 G8 =>
    ∃ z9 : Int, w5 = some (vJ z9) ∧
    (sK S6 a0 = 10) ∧
    Ok (d - 1) MX10_part [vR a0, vI 0, vI a7, vI a3, vI a4] S6 F7 G8 (fun w10 S11 F12 G13 =>
    ∃ z15 : Int, w10 = some (vI z15) ∧
    (r64 (z9 * z15)) ∧
    (r64 (a5 + (z9 * z15))) ∧
    ∀ x18 : Int, x18 = a5 + (z9 * z15) →
    (r32 (a7 + 1)) ∧
    Go d MX10_acrossSum 6 [some (vR a0), some (vI a1), some (vI a2), some (vI a3), some (vI a4), some (vJ x18), none, some (vI (a7 + 1))] [] S11 F12 G13 Q)))
theorem R_X10_acrossSum_6 {d : Nat} {S : AS} {F : AF} {G : AG} {Q : AQ} {a0 : Nat} {a1 : Int} {a2 : Int} {a3 : Int} {a4 : Int} {a5 : Int} {a7 : Int} (h : V_X10_acrossSum_6 d S F G Q a0 a1 a2 a3 a4 a5 a7) : Go d MX10_acrossSum 6 [some (vR a0), some (vI a1), some (vI a2), some (vI a3), some (vI a4), some (vJ a5), none, some (vI a7)] [] S F G Q := by
  unfold V_X10_acrossSum_6 at h
  refine go_iload (show decode cX10_acrossSum 6 = .ok (.iload 7, 2) by decide +kernel) (by rfl) ?_
  refine go_aload_n (show decode cX10_acrossSum 8 = .ok (.aload_n 0, 1) by decide +kernel) (by rfl) ?_
  obtain ⟨q1, h⟩ := h
  refine go_getR (show decode cX10_acrossSum 9 = .ok (.getfield 29, 3) by decide +kernel) fl_X10_29 rfl q1 ?_
  refine go_iconst (show decode cX10_acrossSum 12 = .ok (.iconst 0, 1) by decide +kernel) (by decide) ?_
  obtain ⟨q2, h⟩ := h
  obtain ⟨q3, h⟩ := h
  refine go_iaload (show decode cX10_acrossSum 13 = .ok (.iaload, 1) by decide +kernel) q2 (by decide) q3 ?_
  obtain ⟨ht, hf⟩ := h
  refine go_icmpge (tgt := 48) (show decode cX10_acrossSum 14 = .ok (.if_icmp .ge 34, 3) by decide +kernel) (by decide) (fun hc => ?_) (fun hc => ?_)
  · have h := ht hc
    refine go_lload (show decode cX10_acrossSum 48 = .ok (.lload 5, 2) by decide +kernel) (by rfl) ?_
    exact go_lret (show decode cX10_acrossSum 50 = .ok (.lreturn, 1) by decide +kernel) rfl h
  · have h := hf hc
    refine go_lload (show decode cX10_acrossSum 17 = .ok (.lload 5, 2) by decide +kernel) (by rfl) ?_
    refine go_aload_n (show decode cX10_acrossSum 19 = .ok (.aload_n 0, 1) by decide +kernel) (by rfl) ?_
    refine go_iload_n (show decode cX10_acrossSum 20 = .ok (.iload_n 1, 1) by decide +kernel) (by rfl) ?_
    refine go_iload (show decode cX10_acrossSum 21 = .ok (.iload 7, 2) by decide +kernel) (by rfl) ?_
    refine go_iload_n (show decode cX10_acrossSum 23 = .ok (.iload_n 2, 1) by decide +kernel) (by rfl) ?_
    obtain ⟨q4, h⟩ := h
    refine go_callV (d2 := d - 1) (M2 := MX10_in) (n := 3) (ci := 10) (av := [vI a1, vI a7, vI a2]) (st := [vJ a5]) (show decode cX10_acrossSum 24 = .ok (.invokevirtual 163, 3) by decide +kernel) ml_X10_163 mt_X10_in min_X10_in mse_X10_in (by decide) q1 rfl (Nat.le_of_ble_eq_true rfl) (by omega) (ok_mono h (fun w5 S6 F7 G8 h => ?_))
    obtain ⟨z9, e9, h⟩ := h
    subst e9
    show Go d MX10_acrossSum 27 [some (vR a0), some (vI a1), some (vI a2), some (vI a3), some (vI a4), some (vJ a5), none, some (vI a7)] [vJ z9, vJ a5] S6 F7 G8 Q
    refine go_aload_n (show decode cX10_acrossSum 27 = .ok (.aload_n 0, 1) by decide +kernel) (by rfl) ?_
    refine go_iconst (show decode cX10_acrossSum 28 = .ok (.iconst 0, 1) by decide +kernel) (by decide) ?_
    refine go_iload (show decode cX10_acrossSum 29 = .ok (.iload 7, 2) by decide +kernel) (by rfl) ?_
    refine go_iload_n (show decode cX10_acrossSum 31 = .ok (.iload_n 3, 1) by decide +kernel) (by rfl) ?_
    refine go_iload (show decode cX10_acrossSum 32 = .ok (.iload 4, 2) by decide +kernel) (by rfl) ?_
    obtain ⟨q14, h⟩ := h
    refine go_callV (d2 := d - 1) (M2 := MX10_part) (n := 4) (ci := 10) (av := [vI 0, vI a7, vI a3, vI a4]) (st := [vJ z9, vJ a5]) (show decode cX10_acrossSum 34 = .ok (.invokevirtual 159, 3) by decide +kernel) ml_X10_159 mt_X10_part min_X10_part mse_X10_part (by decide) q14 rfl (Nat.le_of_ble_eq_true rfl) (by omega) (ok_mono h (fun w10 S11 F12 G13 h => ?_))
    obtain ⟨z15, e9, h⟩ := h
    subst e9
    show Go d MX10_acrossSum 37 [some (vR a0), some (vI a1), some (vI a2), some (vI a3), some (vI a4), some (vJ a5), none, some (vI a7)] [vI z15, vJ z9, vJ a5] S11 F12 G13 Q
    refine go_i2l (show decode cX10_acrossSum 37 = .ok (.i2l, 1) by decide +kernel) ?_
    obtain ⟨q16, h⟩ := h
    refine go_lmul (show decode cX10_acrossSum 38 = .ok (.lmul, 1) by decide +kernel) q16 ?_
    obtain ⟨q17, h⟩ := h
    refine go_ladd (show decode cX10_acrossSum 39 = .ok (.ladd, 1) by decide +kernel) q17 ?_
    obtain ⟨x18, x18e⟩ : ∃ x18 : Int, x18 = a5 + (z9 * z15) := ⟨_, rfl⟩
    have h := h x18 x18e
    rw [← x18e]
    refine go_lstore (show decode cX10_acrossSum 40 = .ok (.lstore 5, 2) by decide +kernel) (by decide) ?_
    show Go d MX10_acrossSum 42 [some (vR a0), some (vI a1), some (vI a2), some (vI a3), some (vI a4), some (vJ x18), none, some (vI a7)] [] S11 F12 G13 Q
    obtain ⟨q19, h⟩ := h
    refine go_iinc (show decode cX10_acrossSum 42 = .ok (.iinc 7 1, 3) by decide +kernel) (by rfl) q19 (by decide) ?_
    show Go d MX10_acrossSum 45 [some (vR a0), some (vI a1), some (vI a2), some (vI a3), some (vI a4), some (vJ x18), none, some (vI (a7 + 1))] [] S11 F12 G13 Q
    refine go_goto (tgt := 6) (show decode cX10_acrossSum 45 = .ok (.goto (-39), 3) by decide +kernel) (by decide) ?_
    exact h
def V_X10_acrossSum_0 (d : Nat) (S : AS) (F : AF) (G : AG) (Q : AQ) (a0 : Nat) (a1 : Int) (a2 : Int) (a3 : Int) (a4 : Int) : Prop :=
  Go d MX10_acrossSum 6 [some (vR a0), some (vI a1), some (vI a2), some (vI a3), some (vI a4), some (vJ 0), none, some (vI 0)] [] S F G Q
theorem R_X10_acrossSum_0 {d : Nat} {S : AS} {F : AF} {G : AG} {Q : AQ} {a0 : Nat} {a1 : Int} {a2 : Int} {a3 : Int} {a4 : Int} (h : V_X10_acrossSum_0 d S F G Q a0 a1 a2 a3 a4) : Go d MX10_acrossSum 0 [some (vR a0), some (vI a1), some (vI a2), some (vI a3), some (vI a4), none, none, none] [] S F G Q := by
  unfold V_X10_acrossSum_0 at h
  refine go_lconst (n := 0) (show decode cX10_acrossSum 0 = .ok (.lconst 0, 1) by decide +kernel) ?_
  show Go d MX10_acrossSum 1 [some (vR a0), some (vI a1), some (vI a2), some (vI a3), some (vI a4), none, none, none] [vJ 0] S F G Q
  refine go_lstore (show decode cX10_acrossSum 1 = .ok (.lstore 5, 2) by decide +kernel) (by decide) ?_
  show Go d MX10_acrossSum 3 [some (vR a0), some (vI a1), some (vI a2), some (vI a3), some (vI a4), some (vJ 0), none, none] [] S F G Q
  refine go_iconst (show decode cX10_acrossSum 3 = .ok (.iconst 0, 1) by decide +kernel) (by decide) ?_
  refine go_istore (show decode cX10_acrossSum 4 = .ok (.istore 7, 2) by decide +kernel) (by decide) ?_
  show Go d MX10_acrossSum 6 [some (vR a0), some (vI a1), some (vI a2), some (vI a3), some (vI a4), some (vJ 0), none, some (vI 0)] [] S F G Q
  exact h
def V_X10_cells_0 (d : Nat) (S : AS) (F : AF) (G : AG) (Q : AQ) (a0 : Nat) : Prop :=
  (sK S a0 = 10) ∧
  (r32 ((F a0 26) - (F a0 24))) ∧
  (r64 (((F a0 26) - (F a0 24)) + 1)) ∧
  (r32 ((F a0 27) - (F a0 25))) ∧
  (r64 (((F a0 27) - (F a0 25)) + 1)) ∧
  (r64 ((((F a0 26) - (F a0 24)) + 1) * (((F a0 27) - (F a0 25)) + 1))) ∧
  Q (some (vJ ((((F a0 26) - (F a0 24)) + 1) * (((F a0 27) - (F a0 25)) + 1)))) S F G
theorem R_X10_cells_0 {d : Nat} {S : AS} {F : AF} {G : AG} {Q : AQ} {a0 : Nat} (h : V_X10_cells_0 d S F G Q a0) : Go d MX10_cells 0 [some (vR a0)] [] S F G Q := by
  unfold V_X10_cells_0 at h
  refine go_aload_n (show decode cX10_cells 0 = .ok (.aload_n 0, 1) by decide +kernel) (by rfl) ?_
  obtain ⟨q1, h⟩ := h
  refine go_getI (show decode cX10_cells 1 = .ok (.getfield 245, 3) by decide +kernel) fl_X10_245 (Or.inl rfl) q1 ?_
  refine go_aload_n (show decode cX10_cells 4 = .ok (.aload_n 0, 1) by decide +kernel) (by rfl) ?_
  refine go_getI (show decode cX10_cells 5 = .ok (.getfield 239, 3) by decide +kernel) fl_X10_239 (Or.inl rfl) q1 ?_
  obtain ⟨q2, h⟩ := h
  refine go_isub (show decode cX10_cells 8 = .ok (.isub, 1) by decide +kernel) q2 ?_
  refine go_i2l (show decode cX10_cells 9 = .ok (.i2l, 1) by decide +kernel) ?_
  refine go_lconst (n := 1) (show decode cX10_cells 10 = .ok (.lconst 1, 1) by decide +kernel) ?_
  show Go d MX10_cells 11 [some (vR a0)] [vJ 1, vJ ((F a0 26) - (F a0 24))] S F G Q
  obtain ⟨q3, h⟩ := h
  refine go_ladd (show decode cX10_cells 11 = .ok (.ladd, 1) by decide +kernel) q3 ?_
  refine go_aload_n (show decode cX10_cells 12 = .ok (.aload_n 0, 1) by decide +kernel) (by rfl) ?_
  refine go_getI (show decode cX10_cells 13 = .ok (.getfield 248, 3) by decide +kernel) fl_X10_248 (Or.inl rfl) q1 ?_
  refine go_aload_n (show decode cX10_cells 16 = .ok (.aload_n 0, 1) by decide +kernel) (by rfl) ?_
  refine go_getI (show decode cX10_cells 17 = .ok (.getfield 242, 3) by decide +kernel) fl_X10_242 (Or.inl rfl) q1 ?_
  obtain ⟨q4, h⟩ := h
  refine go_isub (show decode cX10_cells 20 = .ok (.isub, 1) by decide +kernel) q4 ?_
  refine go_i2l (show decode cX10_cells 21 = .ok (.i2l, 1) by decide +kernel) ?_
  refine go_lconst (n := 1) (show decode cX10_cells 22 = .ok (.lconst 1, 1) by decide +kernel) ?_
  show Go d MX10_cells 23 [some (vR a0)] [vJ 1, vJ ((F a0 27) - (F a0 25)), vJ (((F a0 26) - (F a0 24)) + 1)] S F G Q
  obtain ⟨q5, h⟩ := h
  refine go_ladd (show decode cX10_cells 23 = .ok (.ladd, 1) by decide +kernel) q5 ?_
  obtain ⟨q6, h⟩ := h
  refine go_lmul (show decode cX10_cells 24 = .ok (.lmul, 1) by decide +kernel) q6 ?_
  exact go_lret (show decode cX10_cells 25 = .ok (.lreturn, 1) by decide +kernel) rfl h
def V_X10_hasRoom_0 (d : Nat) (S : AS) (F : AF) (G : AG) (Q : AQ) (a0 : Nat) (a1 : Int) (a2 : Int) (a3 : Int) (a4 : Int) : Prop :=
  (1 ≤ d) ∧
  (sK S a0 = 10) ∧
  Ok (d - 1) MX10_wantsAll [vR a0, vI a1, vI a2, vI a3, vI a4] S F G (fun w2 S3 F4 G5 =>
  w2 = none ∧
  (sK S3 a0 = 10) ∧
  Ok (d - 1) MX10_isRoom [vR a0, vI a1] S3 F4 G5 (fun w7 S8 F9 G10 =>
  ∃ z12 : Int, w7 = some (vI z12) ∧
  (z12 = 0 ∨ z12 = 1) ∧
  Q (some (vI z12)) S8 F9 G10))
theorem R_X10_hasRoom_0 {d : Nat} {S : AS} {F : AF} {G : AG} {Q : AQ} {a0 : Nat} {a1 : Int} {a2 : Int} {a3 : Int} {a4 : Int} (h : V_X10_hasRoom_0 d S F G Q a0 a1 a2 a3 a4) : Go d MX10_hasRoom 0 [some (vR a0), some (vI a1), some (vI a2), some (vI a3), some (vI a4)] [] S F G Q := by
  unfold V_X10_hasRoom_0 at h
  refine go_aload_n (show decode cX10_hasRoom 0 = .ok (.aload_n 0, 1) by decide +kernel) (by rfl) ?_
  refine go_iload_n (show decode cX10_hasRoom 1 = .ok (.iload_n 1, 1) by decide +kernel) (by rfl) ?_
  refine go_iload_n (show decode cX10_hasRoom 2 = .ok (.iload_n 2, 1) by decide +kernel) (by rfl) ?_
  refine go_iload_n (show decode cX10_hasRoom 3 = .ok (.iload_n 3, 1) by decide +kernel) (by rfl) ?_
  refine go_iload (show decode cX10_hasRoom 4 = .ok (.iload 4, 2) by decide +kernel) (by rfl) ?_
  obtain ⟨q1, h⟩ := h
  obtain ⟨q6, h⟩ := h
  refine go_callV (d2 := d - 1) (M2 := MX10_wantsAll) (n := 4) (ci := 10) (av := [vI a1, vI a2, vI a3, vI a4]) (st := []) (show decode cX10_hasRoom 6 = .ok (.invokevirtual 149, 3) by decide +kernel) ml_X10_149 mt_X10_wantsAll min_X10_wantsAll mse_X10_wantsAll (by decide) q6 rfl (Nat.le_of_ble_eq_true rfl) (by omega) (ok_mono h (fun w2 S3 F4 G5 h => ?_))
  obtain ⟨e9, h⟩ := h
  subst e9
  show Go d MX10_hasRoom 9 [some (vR a0), some (vI a1), some (vI a2), some (vI a3), some (vI a4)] [] S3 F4 G5 Q
  refine go_aload_n (show decode cX10_hasRoom 9 = .ok (.aload_n 0, 1) by decide +kernel) (by rfl) ?_
  refine go_iload_n (show decode cX10_hasRoom 10 = .ok (.iload_n 1, 1) by decide +kernel) (by rfl) ?_
  obtain ⟨q11, h⟩ := h
  refine go_callV (d2 := d - 1) (M2 := MX10_isRoom) (n := 1) (ci := 10) (av := [vI a1]) (st := []) (show decode cX10_hasRoom 11 = .ok (.invokevirtual 153, 3) by decide +kernel) ml_X10_153 mt_X10_isRoom min_X10_isRoom mse_X10_isRoom (by decide) q11 rfl (Nat.le_of_ble_eq_true rfl) (by omega) (ok_mono h (fun w7 S8 F9 G10 h => ?_))
  obtain ⟨z12, e9, h⟩ := h
  subst e9
  show Go d MX10_hasRoom 14 [some (vR a0), some (vI a1), some (vI a2), some (vI a3), some (vI a4)] [vI z12] S8 F9 G10 Q
  obtain ⟨q13, h⟩ := h
  exact go_zret (show decode cX10_hasRoom 14 = .ok (.ireturn, 1) by decide +kernel) rfl q13 h
def V_X10_wantsAll_0 (d : Nat) (S : AS) (F : AF) (G : AG) (Q : AQ) (a0 : Nat) (a1 : Int) (a2 : Int) (a3 : Int) (a4 : Int) : Prop :=
  (sK S a0 = 10) ∧
  ∀ F2 : AF, F2 = fu F a0 20 0 →
  (1 ≤ d) ∧
  Ok (d - 1) MX10_wants [vR a0, vI a1, vI a2] S F2 G (fun w4 S5 F6 G7 =>
  w4 = none ∧
  (r32 (a3 + 1)) ∧
  (sK S5 a0 = 10) ∧
  Ok (d - 1) MX10_wants [vR a0, vI a1, vI (a3 + 1)] S5 F6 G7 (fun w9 S10 F11 G12 =>
  w9 = none ∧
  ((a4 < 0) →
    Q none S10 F11 G12) ∧
  ((¬ a4 < 0) →
    (sK S10 a0 = 10) ∧
    Ok (d - 1) MX10_wants [vR a0, vI a1, vI a4] S10 F11 G12 (fun w14 S15 F16 G17 =>
    w14 = none ∧
    (r32 (a4 + 1)) ∧
    (sK S15 a0 = 10) ∧
    Ok (d - 1) MX10_wants [vR a0, vI a1, vI (a4 + 1)] S15 F16 G17 (fun w20 S21 F22 G23 =>
    w20 = none ∧
    Q none S21 F22 G23)))))
theorem R_X10_wantsAll_0 {d : Nat} {S : AS} {F : AF} {G : AG} {Q : AQ} {a0 : Nat} {a1 : Int} {a2 : Int} {a3 : Int} {a4 : Int} (h : V_X10_wantsAll_0 d S F G Q a0 a1 a2 a3 a4) : Go d MX10_wantsAll 0 [some (vR a0), some (vI a1), some (vI a2), some (vI a3), some (vI a4)] [] S F G Q := by
  unfold V_X10_wantsAll_0 at h
  refine go_aload_n (show decode cX10_wantsAll 0 = .ok (.aload_n 0, 1) by decide +kernel) (by rfl) ?_
  refine go_iconst (show decode cX10_wantsAll 1 = .ok (.iconst 0, 1) by decide +kernel) (by decide) ?_
  obtain ⟨q1, h⟩ := h
  refine go_putI (show decode cX10_wantsAll 2 = .ok (.putfield 142, 3) by decide +kernel) fl_X10_142 rfl (Or.inl rfl) q1 ?_
  obtain ⟨F2, F2e⟩ : ∃ F2 : AF, F2 = fu F a0 20 0 := ⟨_, rfl⟩
  have h := h F2 F2e
  rw [← F2e]
  refine go_aload_n (show decode cX10_wantsAll 5 = .ok (.aload_n 0, 1) by decide +kernel) (by rfl) ?_
  refine go_iload_n (show decode cX10_wantsAll 6 = .ok (.iload_n 1, 1) by decide +kernel) (by rfl) ?_
  refine go_iload_n (show decode cX10_wantsAll 7 = .ok (.iload_n 2, 1) by decide +kernel) (by rfl) ?_
  obtain ⟨q3, h⟩ := h
  refine go_callV (d2 := d - 1) (M2 := MX10_wants) (n := 2) (ci := 10) (av := [vI a1, vI a2]) (st := []) (show decode cX10_wantsAll 8 = .ok (.invokevirtual 145, 3) by decide +kernel) ml_X10_145 mt_X10_wants min_X10_wants mse_X10_wants (by decide) q1 rfl (Nat.le_of_ble_eq_true rfl) (by omega) (ok_mono h (fun w4 S5 F6 G7 h => ?_))
  obtain ⟨e9, h⟩ := h
  subst e9
  show Go d MX10_wantsAll 11 [some (vR a0), some (vI a1), some (vI a2), some (vI a3), some (vI a4)] [] S5 F6 G7 Q
  refine go_aload_n (show decode cX10_wantsAll 11 = .ok (.aload_n 0, 1) by decide +kernel) (by rfl) ?_
  refine go_iload_n (show decode cX10_wantsAll 12 = .ok (.iload_n 1, 1) by decide +kernel) (by rfl) ?_
  refine go_iload_n (show decode cX10_wantsAll 13 = .ok (.iload_n 3, 1) by decide +kernel) (by rfl) ?_
  refine go_iconst (show decode cX10_wantsAll 14 = .ok (.iconst 1, 1) by decide +kernel) (by decide) ?_
  obtain ⟨q8, h⟩ := h
  refine go_iadd (show decode cX10_wantsAll 15 = .ok (.iadd, 1) by decide +kernel) q8 ?_
  obtain ⟨q13, h⟩ := h
  refine go_callV (d2 := d - 1) (M2 := MX10_wants) (n := 2) (ci := 10) (av := [vI a1, vI (a3 + 1)]) (st := []) (show decode cX10_wantsAll 16 = .ok (.invokevirtual 145, 3) by decide +kernel) ml_X10_145 mt_X10_wants min_X10_wants mse_X10_wants (by decide) q13 rfl (Nat.le_of_ble_eq_true rfl) (by omega) (ok_mono h (fun w9 S10 F11 G12 h => ?_))
  obtain ⟨e9, h⟩ := h
  subst e9
  show Go d MX10_wantsAll 19 [some (vR a0), some (vI a1), some (vI a2), some (vI a3), some (vI a4)] [] S10 F11 G12 Q
  refine go_iload (show decode cX10_wantsAll 19 = .ok (.iload 4, 2) by decide +kernel) (by rfl) ?_
  obtain ⟨ht, hf⟩ := h
  refine go_iflt (tgt := 40) (show decode cX10_wantsAll 21 = .ok (.ifCond .lt 19, 3) by decide +kernel) (by decide) (fun hc => ?_) (fun hc => ?_)
  · have h := ht hc
    exact go_vret (show decode cX10_wantsAll 40 = .ok (.return_, 1) by decide +kernel) rfl h
  · have h := hf hc
    refine go_aload_n (show decode cX10_wantsAll 24 = .ok (.aload_n 0, 1) by decide +kernel) (by rfl) ?_
    refine go_iload_n (show decode cX10_wantsAll 25 = .ok (.iload_n 1, 1) by decide +kernel) (by rfl) ?_
    refine go_iload (show decode cX10_wantsAll 26 = .ok (.iload 4, 2) by decide +kernel) (by rfl) ?_
    obtain ⟨q18, h⟩ := h
    refine go_callV (d2 := d - 1) (M2 := MX10_wants) (n := 2) (ci := 10) (av := [vI a1, vI a4]) (st := []) (show decode cX10_wantsAll 28 = .ok (.invokevirtual 145, 3) by decide +kernel) ml_X10_145 mt_X10_wants min_X10_wants mse_X10_wants (by decide) q18 rfl (Nat.le_of_ble_eq_true rfl) (by omega) (ok_mono h (fun w14 S15 F16 G17 h => ?_))
    obtain ⟨e9, h⟩ := h
    subst e9
    show Go d MX10_wantsAll 31 [some (vR a0), some (vI a1), some (vI a2), some (vI a3), some (vI a4)] [] S15 F16 G17 Q
    refine go_aload_n (show decode cX10_wantsAll 31 = .ok (.aload_n 0, 1) by decide +kernel) (by rfl) ?_
    refine go_iload_n (show decode cX10_wantsAll 32 = .ok (.iload_n 1, 1) by decide +kernel) (by rfl) ?_
    refine go_iload (show decode cX10_wantsAll 33 = .ok (.iload 4, 2) by decide +kernel) (by rfl) ?_
    refine go_iconst (show decode cX10_wantsAll 35 = .ok (.iconst 1, 1) by decide +kernel) (by decide) ?_
    obtain ⟨q19, h⟩ := h
    refine go_iadd (show decode cX10_wantsAll 36 = .ok (.iadd, 1) by decide +kernel) q19 ?_
    obtain ⟨q24, h⟩ := h
    refine go_callV (d2 := d - 1) (M2 := MX10_wants) (n := 2) (ci := 10) (av := [vI a1, vI (a4 + 1)]) (st := []) (show decode cX10_wantsAll 37 = .ok (.invokevirtual 145, 3) by decide +kernel) ml_X10_145 mt_X10_wants min_X10_wants mse_X10_wants (by decide) q24 rfl (Nat.le_of_ble_eq_true rfl) (by omega) (ok_mono h (fun w20 S21 F22 G23 h => ?_))
    obtain ⟨e9, h⟩ := h
    subst e9
    show Go d MX10_wantsAll 40 [some (vR a0), some (vI a1), some (vI a2), some (vI a3), some (vI a4)] [] S21 F22 G23 Q
    exact go_vret (show decode cX10_wantsAll 40 = .ok (.return_, 1) by decide +kernel) rfl h
def V_X10_wants_12 (d : Nat) (S : AS) (F : AF) (G : AG) (Q : AQ) (a0 : Nat) (a1 : Int) (a2 : Int) (a3 : Int) : Prop :=
  (sK S a0 = 10) ∧
  ((F a0 20 ≤ a3) →
    (sK S (sR S a0 19) = 20) ∧
    ((0 : Int) ≤ F a0 20) ∧
    ((F a0 20 : Int) < (sN S (sR S a0 19) : Int)) ∧
    ∀ G5 : AG, G5 = gu G (sR S a0 19) (F a0 20) a2 →
    (r32 ((F a0 20) + 1)) ∧
    ∀ F7 : AF, F7 = fu F a0 20 ((F a0 20) + 1) →
    Q none S F7 G5) ∧
  ((¬ F a0 20 ≤ a3) →
    (sK S (sR S a0 19) = 20) ∧
    ((0 : Int) ≤ a3) ∧
    ((a3 : Int) < (sN S (sR S a0 19) : Int)) ∧
    ((¬ G (sR S a0 19) a3 = a2) →
      (r32 (a3 + 1)) ∧
      Go d MX10_wants 12 [some (vR a0), some (vI a1), some (vI a2), some (vI (a3 + 1))] [] S F G Q) ∧
    ((G (sR S a0 19) a3 = a2) →
      Q none S F G))
theorem R_X10_wants_12 {d : Nat} {S : AS} {F : AF} {G : AG} {Q : AQ} {a0 : Nat} {a1 : Int} {a2 : Int} {a3 : Int} (h : V_X10_wants_12 d S F G Q a0 a1 a2 a3) : Go d MX10_wants 12 [some (vR a0), some (vI a1), some (vI a2), some (vI a3)] [] S F G Q := by
  unfold V_X10_wants_12 at h
  refine go_iload_n (show decode cX10_wants 12 = .ok (.iload_n 3, 1) by decide +kernel) (by rfl) ?_
  refine go_aload_n (show decode cX10_wants 13 = .ok (.aload_n 0, 1) by decide +kernel) (by rfl) ?_
  obtain ⟨q1, h⟩ := h
  refine go_getI (show decode cX10_wants 14 = .ok (.getfield 142, 3) by decide +kernel) fl_X10_142 (Or.inl rfl) q1 ?_
  obtain ⟨ht, hf⟩ := h
  refine go_icmpge (tgt := 37) (show decode cX10_wants 17 = .ok (.if_icmp .ge 20, 3) by decide +kernel) (by decide) (fun hc => ?_) (fun hc => ?_)
  · have h := ht hc
    refine go_aload_n (show decode cX10_wants 37 = .ok (.aload_n 0, 1) by decide +kernel) (by rfl) ?_
    refine go_getR (show decode cX10_wants 38 = .ok (.getfield 68, 3) by decide +kernel) fl_X10_68 rfl q1 ?_
    refine go_aload_n (show decode cX10_wants 41 = .ok (.aload_n 0, 1) by decide +kernel) (by rfl) ?_
    refine go_getI (show decode cX10_wants 42 = .ok (.getfield 142, 3) by decide +kernel) fl_X10_142 (Or.inl rfl) q1 ?_
    refine go_iload_n (show decode cX10_wants 45 = .ok (.iload_n 2, 1) by decide +kernel) (by rfl) ?_
    obtain ⟨q2, h⟩ := h
    obtain ⟨q3, h⟩ := h
    obtain ⟨q4, h⟩ := h
    refine go_iastore (show decode cX10_wants 46 = .ok (.iastore, 1) by decide +kernel) q2 q3 q4  ?_
    obtain ⟨G5, G5e⟩ : ∃ G5 : AG, G5 = gu G (sR S a0 19) (F a0 20) a2 := ⟨_, rfl⟩
    have h := h G5 G5e
    rw [← G5e]
    refine go_aload_n (show decode cX10_wants 47 = .ok (.aload_n 0, 1) by decide +kernel) (by rfl) ?_
    refine go_dup (show decode cX10_wants 48 = .ok (.dup, 1) by decide +kernel) ?_
    refine go_getI (show decode cX10_wants 49 = .ok (.getfield 142, 3) by decide +kernel) fl_X10_142 (Or.inl rfl) q1 ?_
    refine go_iconst (show decode cX10_wants 52 = .ok (.iconst 1, 1) by decide +kernel) (by decide) ?_
    obtain ⟨q6, h⟩ := h
    refine go_iadd (show decode cX10_wants 53 = .ok (.iadd, 1) by decide +kernel) q6 ?_
    refine go_putI (show decode cX10_wants 54 = .ok (.putfield 142, 3) by decide +kernel) fl_X10_142 rfl (Or.inl rfl) q1 ?_
    obtain ⟨F7, F7e⟩ : ∃ F7 : AF, F7 = fu F a0 20 ((F a0 20) + 1) := ⟨_, rfl⟩
    have h := h F7 F7e
    rw [← F7e]
    exact go_vret (show decode cX10_wants 57 = .ok (.return_, 1) by decide +kernel) rfl h
  · have h := hf hc
    refine go_aload_n (show decode cX10_wants 20 = .ok (.aload_n 0, 1) by decide +kernel) (by rfl) ?_
    refine go_getR (show decode cX10_wants 21 = .ok (.getfield 68, 3) by decide +kernel) fl_X10_68 rfl q1 ?_
    refine go_iload_n (show decode cX10_wants 24 = .ok (.iload_n 3, 1) by decide +kernel) (by rfl) ?_
    obtain ⟨q8, h⟩ := h
    obtain ⟨q9, h⟩ := h
    obtain ⟨q10, h⟩ := h
    refine go_iaload (show decode cX10_wants 25 = .ok (.iaload, 1) by decide +kernel) q8 q9 q10 ?_
    refine go_iload_n (show decode cX10_wants 26 = .ok (.iload_n 2, 1) by decide +kernel) (by rfl) ?_
    obtain ⟨ht, hf⟩ := h
    refine go_icmpne (tgt := 31) (show decode cX10_wants 27 = .ok (.if_icmp .ne 4, 3) by decide +kernel) (by decide) (fun hc => ?_) (fun hc => ?_)
    · have h := ht hc
      obtain ⟨q11, h⟩ := h
      refine go_iinc (show decode cX10_wants 31 = .ok (.iinc 3 1, 3) by decide +kernel) (by rfl) q11 (by decide) ?_
      show Go d MX10_wants 34 [some (vR a0), some (vI a1), some (vI a2), some (vI (a3 + 1))] [] S F G Q
      refine go_goto (tgt := 12) (show decode cX10_wants 34 = .ok (.goto (-22), 3) by decide +kernel) (by decide) ?_
      exact h
    · have h := hf hc
      exact go_vret (show decode cX10_wants 30 = .ok (.return_, 1) by decide +kernel) rfl h
def V_X10_wants_0 (d : Nat) (S : AS) (F : AF) (G : AG) (Q : AQ) (a0 : Nat) (a1 : Int) (a2 : Int) : Prop :=
  (1 ≤ d) ∧
  (sK S a0 = 10) ∧
  Ok (d - 1) MX10_isEdge [vR a0, vI a1, vI a2] S F G (fun w2 S3 F4 G5 =>
  ∃ z7 : Int, w2 = some (vI z7) ∧
  ((z7 = 0) →
    Go d MX10_wants 12 [some (vR a0), some (vI a1), some (vI a2), some (vI 0)] [] S3 F4 G5 Q) ∧
  ((¬ z7 = 0) →
    Q none S3 F4 G5))
theorem R_X10_wants_0 {d : Nat} {S : AS} {F : AF} {G : AG} {Q : AQ} {a0 : Nat} {a1 : Int} {a2 : Int} (h : V_X10_wants_0 d S F G Q a0 a1 a2) : Go d MX10_wants 0 [some (vR a0), some (vI a1), some (vI a2), none] [] S F G Q := by
  unfold V_X10_wants_0 at h
  refine go_aload_n (show decode cX10_wants 0 = .ok (.aload_n 0, 1) by decide +kernel) (by rfl) ?_
  refine go_iload_n (show decode cX10_wants 1 = .ok (.iload_n 1, 1) by decide +kernel) (by rfl) ?_
  refine go_iload_n (show decode cX10_wants 2 = .ok (.iload_n 2, 1) by decide +kernel) (by rfl) ?_
  obtain ⟨q1, h⟩ := h
  obtain ⟨q6, h⟩ := h
  refine go_callV (d2 := d - 1) (M2 := MX10_isEdge) (n := 2) (ci := 10) (av := [vI a1, vI a2]) (st := []) (show decode cX10_wants 3 = .ok (.invokevirtual 134, 3) by decide +kernel) ml_X10_134 mt_X10_isEdge min_X10_isEdge mse_X10_isEdge (by decide) q6 rfl (Nat.le_of_ble_eq_true rfl) (by omega) (ok_mono h (fun w2 S3 F4 G5 h => ?_))
  obtain ⟨z7, e9, h⟩ := h
  subst e9
  show Go d MX10_wants 6 [some (vR a0), some (vI a1), some (vI a2), none] [vI z7] S3 F4 G5 Q
  obtain ⟨ht, hf⟩ := h
  refine go_ifeq (tgt := 10) (show decode cX10_wants 6 = .ok (.ifCond .eq 4, 3) by decide +kernel) (by decide) (fun hc => ?_) (fun hc => ?_)
  · have h := ht hc
    refine go_iconst (show decode cX10_wants 10 = .ok (.iconst 0, 1) by decide +kernel) (by decide) ?_
    refine go_istore_n (show decode cX10_wants 11 = .ok (.istore_n 3, 1) by decide +kernel) (by decide) ?_
    show Go d MX10_wants 12 [some (vR a0), some (vI a1), some (vI a2), some (vI 0)] [] S3 F4 G5 Q
    exact h
  · have h := hf hc
    exact go_vret (show decode cX10_wants 9 = .ok (.return_, 1) by decide +kernel) rfl h
def V_X10_isEdge_2 (d : Nat) (S : AS) (F : AF) (G : AG) (Q : AQ) (a0 : Nat) (a1 : Int) (a2 : Int) (a3 : Int) : Prop :=
  (sK S a0 = 10) ∧
  (sK S (sR S a0 5) = 20) ∧
  ((0 : Int) ≤ a1) ∧
  ((a1 : Int) < (sN S (sR S a0 5) : Int)) ∧
  ((G (sR S a0 5) a1 ≤ a3) →
    (1 ≤ d) ∧
    Ok (d - 1) MX10_sizeOf [vR a0, vI a1] S F G (fun w6 S7 F8 G9 =>
    ∃ z10 : Int, w6 = some (vI z10) ∧
    ((¬ a2 = z10) →
      Q (some (vI 0)) S7 F8 G9) ∧
    ((a2 = z10) →
      Q (some (vI 1)) S7 F8 G9))) ∧
  ((¬ G (sR S a0 5) a1 ≤ a3) →
    (r32 (48 * a1)) ∧
    (r32 ((48 * a1) + a3)) ∧
    (sK S (sR S a0 4) = 20) ∧
    ((0 : Int) ≤ (48 * a1) + a3) ∧
    (((48 * a1) + a3 : Int) < (sN S (sR S a0 4) : Int)) ∧
    ((¬ G (sR S a0 4) ((48 * a1) + a3) = a2) →
      (r32 (a3 + 1)) ∧
      Go d MX10_isEdge 2 [some (vR a0), some (vI a1), some (vI a2), some (vI (a3 + 1))] [] S F G Q) ∧
    ((G (sR S a0 4) ((48 * a1) + a3) = a2) →
      Q (some (vI 1)) S F G))
theorem R_X10_isEdge_2 {d : Nat} {S : AS} {F : AF} {G : AG} {Q : AQ} {a0 : Nat} {a1 : Int} {a2 : Int} {a3 : Int} (h : V_X10_isEdge_2 d S F G Q a0 a1 a2 a3) : Go d MX10_isEdge 2 [some (vR a0), some (vI a1), some (vI a2), some (vI a3)] [] S F G Q := by
  unfold V_X10_isEdge_2 at h
  refine go_iload_n (show decode cX10_isEdge 2 = .ok (.iload_n 3, 1) by decide +kernel) (by rfl) ?_
  refine go_aload_n (show decode cX10_isEdge 3 = .ok (.aload_n 0, 1) by decide +kernel) (by rfl) ?_
  obtain ⟨q1, h⟩ := h
  refine go_getR (show decode cX10_isEdge 4 = .ok (.getfield 29, 3) by decide +kernel) fl_X10_29 rfl q1 ?_
  refine go_iload_n (show decode cX10_isEdge 7 = .ok (.iload_n 1, 1) by decide +kernel) (by rfl) ?_
  obtain ⟨q2, h⟩ := h
  obtain ⟨q3, h⟩ := h
  obtain ⟨q4, h⟩ := h
  refine go_iaload (show decode cX10_isEdge 8 = .ok (.iaload, 1) by decide +kernel) q2 q3 q4 ?_
  obtain ⟨ht, hf⟩ := h
  refine go_icmpge (tgt := 35) (show decode cX10_isEdge 9 = .ok (.if_icmp .ge 26, 3) by decide +kernel) (by decide) (fun hc => ?_) (fun hc => ?_)
  · have h := ht hc
    refine go_iload_n (show decode cX10_isEdge 35 = .ok (.iload_n 2, 1) by decide +kernel) (by rfl) ?_
    refine go_aload_n (show decode cX10_isEdge 36 = .ok (.aload_n 0, 1) by decide +kernel) (by rfl) ?_
    refine go_iload_n (show decode cX10_isEdge 37 = .ok (.iload_n 1, 1) by decide +kernel) (by rfl) ?_
    obtain ⟨q5, h⟩ := h
    refine go_callV (d2 := d - 1) (M2 := MX10_sizeOf) (n := 1) (ci := 10) (av := [vI a1]) (st := [vI a2]) (show decode cX10_isEdge 38 = .ok (.invokevirtual 122, 3) by decide +kernel) ml_X10_122 mt_X10_sizeOf min_X10_sizeOf mse_X10_sizeOf (by decide) q1 rfl (Nat.le_of_ble_eq_true rfl) (by omega) (ok_mono h (fun w6 S7 F8 G9 h => ?_))
    obtain ⟨z10, e9, h⟩ := h
    subst e9
    show Go d MX10_isEdge 41 [some (vR a0), some (vI a1), some (vI a2), some (vI a3)] [vI z10, vI a2] S7 F8 G9 Q
    obtain ⟨ht, hf⟩ := h
    refine go_icmpne (tgt := 48) (show decode cX10_isEdge 41 = .ok (.if_icmp .ne 7, 3) by decide +kernel) (by decide) (fun hc => ?_) (fun hc => ?_)
    · have h := ht hc
      refine go_iconst (show decode cX10_isEdge 48 = .ok (.iconst 0, 1) by decide +kernel) (by decide) ?_
      exact go_zret (show decode cX10_isEdge 49 = .ok (.ireturn, 1) by decide +kernel) rfl (by decide) h
    · have h := hf hc
      refine go_iconst (show decode cX10_isEdge 44 = .ok (.iconst 1, 1) by decide +kernel) (by decide) ?_
      refine go_goto (tgt := 49) (show decode cX10_isEdge 45 = .ok (.goto 4, 3) by decide +kernel) (by decide) ?_
      exact go_zret (show decode cX10_isEdge 49 = .ok (.ireturn, 1) by decide +kernel) rfl (by decide) h
  · have h := hf hc
    refine go_aload_n (show decode cX10_isEdge 12 = .ok (.aload_n 0, 1) by decide +kernel) (by rfl) ?_
    refine go_getR (show decode cX10_isEdge 13 = .ok (.getfield 25, 3) by decide +kernel) fl_X10_25 rfl q1 ?_
    refine go_bipush (show decode cX10_isEdge 16 = .ok (.bipush 48, 2) by decide +kernel) (by decide) ?_
    refine go_iload_n (show decode cX10_isEdge 18 = .ok (.iload_n 1, 1) by decide +kernel) (by rfl) ?_
    obtain ⟨q11, h⟩ := h
    refine go_imul (show decode cX10_isEdge 19 = .ok (.imul, 1) by decide +kernel) q11 ?_
    refine go_iload_n (show decode cX10_isEdge 20 = .ok (.iload_n 3, 1) by decide +kernel) (by rfl) ?_
    obtain ⟨q12, h⟩ := h
    refine go_iadd (show decode cX10_isEdge 21 = .ok (.iadd, 1) by decide +kernel) q12 ?_
    obtain ⟨q13, h⟩ := h
    obtain ⟨q14, h⟩ := h
    obtain ⟨q15, h⟩ := h
    refine go_iaload (show decode cX10_isEdge 22 = .ok (.iaload, 1) by decide +kernel) q13 q14 q15 ?_
    refine go_iload_n (show decode cX10_isEdge 23 = .ok (.iload_n 2, 1) by decide +kernel) (by rfl) ?_
    obtain ⟨ht, hf⟩ := h
    refine go_icmpne (tgt := 29) (show decode cX10_isEdge 24 = .ok (.if_icmp .ne 5, 3) by decide +kernel) (by decide) (fun hc => ?_) (fun hc => ?_)
    · have h := ht hc
      obtain ⟨q16, h⟩ := h
      refine go_iinc (show decode cX10_isEdge 29 = .ok (.iinc 3 1, 3) by decide +kernel) (by rfl) q16 (by decide) ?_
      show Go d MX10_isEdge 32 [some (vR a0), some (vI a1), some (vI a2), some (vI (a3 + 1))] [] S F G Q
      refine go_goto (tgt := 2) (show decode cX10_isEdge 32 = .ok (.goto (-30), 3) by decide +kernel) (by decide) ?_
      exact h
    · have h := hf hc
      refine go_iconst (show decode cX10_isEdge 27 = .ok (.iconst 1, 1) by decide +kernel) (by decide) ?_
      exact go_zret (show decode cX10_isEdge 28 = .ok (.ireturn, 1) by decide +kernel) rfl (by decide) h
def V_X10_isEdge_0 (d : Nat) (S : AS) (F : AF) (G : AG) (Q : AQ) (a0 : Nat) (a1 : Int) (a2 : Int) : Prop :=
  Go d MX10_isEdge 2 [some (vR a0), some (vI a1), some (vI a2), some (vI 0)] [] S F G Q
theorem R_X10_isEdge_0 {d : Nat} {S : AS} {F : AF} {G : AG} {Q : AQ} {a0 : Nat} {a1 : Int} {a2 : Int} (h : V_X10_isEdge_0 d S F G Q a0 a1 a2) : Go d MX10_isEdge 0 [some (vR a0), some (vI a1), some (vI a2), none] [] S F G Q := by
  unfold V_X10_isEdge_0 at h
  refine go_iconst (show decode cX10_isEdge 0 = .ok (.iconst 0, 1) by decide +kernel) (by decide) ?_
  refine go_istore_n (show decode cX10_isEdge 1 = .ok (.istore_n 3, 1) by decide +kernel) (by decide) ?_
  show Go d MX10_isEdge 2 [some (vR a0), some (vI a1), some (vI a2), some (vI 0)] [] S F G Q
  exact h
def V_X10_isRoom_0 (d : Nat) (S : AS) (F : AF) (G : AG) (Q : AQ) (a0 : Nat) (a1 : Int) : Prop :=
  (sK S a0 = 10) ∧
  (sK S (sR S a0 5) = 20) ∧
  ((0 : Int) ≤ a1) ∧
  ((a1 : Int) < (sN S (sR S a0 5) : Int)) ∧
  (r32 ((G (sR S a0 5) a1) + (F a0 20))) ∧
  ((48 < (G (sR S a0 5) a1) + (F a0 20)) →
    Q (some (vI 0)) S F G) ∧
  ((¬ 48 < (G (sR S a0 5) a1) + (F a0 20)) →
    Q (some (vI 1)) S F G)
theorem R_X10_isRoom_0 {d : Nat} {S : AS} {F : AF} {G : AG} {Q : AQ} {a0 : Nat} {a1 : Int} (h : V_X10_isRoom_0 d S F G Q a0 a1) : Go d MX10_isRoom 0 [some (vR a0), some (vI a1)] [] S F G Q := by
  unfold V_X10_isRoom_0 at h
  refine go_aload_n (show decode cX10_isRoom 0 = .ok (.aload_n 0, 1) by decide +kernel) (by rfl) ?_
  obtain ⟨q1, h⟩ := h
  refine go_getR (show decode cX10_isRoom 1 = .ok (.getfield 29, 3) by decide +kernel) fl_X10_29 rfl q1 ?_
  refine go_iload_n (show decode cX10_isRoom 4 = .ok (.iload_n 1, 1) by decide +kernel) (by rfl) ?_
  obtain ⟨q2, h⟩ := h
  obtain ⟨q3, h⟩ := h
  obtain ⟨q4, h⟩ := h
  refine go_iaload (show decode cX10_isRoom 5 = .ok (.iaload, 1) by decide +kernel) q2 q3 q4 ?_
  refine go_aload_n (show decode cX10_isRoom 6 = .ok (.aload_n 0, 1) by decide +kernel) (by rfl) ?_
  refine go_getI (show decode cX10_isRoom 7 = .ok (.getfield 142, 3) by decide +kernel) fl_X10_142 (Or.inl rfl) q1 ?_
  obtain ⟨q5, h⟩ := h
  refine go_iadd (show decode cX10_isRoom 10 = .ok (.iadd, 1) by decide +kernel) q5 ?_
  refine go_bipush (show decode cX10_isRoom 11 = .ok (.bipush 48, 2) by decide +kernel) (by decide) ?_
  obtain ⟨ht, hf⟩ := h
  refine go_icmpgt (tgt := 20) (show decode cX10_isRoom 13 = .ok (.if_icmp .gt 7, 3) by decide +kernel) (by decide) (fun hc => ?_) (fun hc => ?_)
  · have h := ht hc
    refine go_iconst (show decode cX10_isRoom 20 = .ok (.iconst 0, 1) by decide +kernel) (by decide) ?_
    exact go_zret (show decode cX10_isRoom 21 = .ok (.ireturn, 1) by decide +kernel) rfl (by decide) h
  · have h := hf hc
    refine go_iconst (show decode cX10_isRoom 16 = .ok (.iconst 1, 1) by decide +kernel) (by decide) ?_
    refine go_goto (tgt := 21) (show decode cX10_isRoom 17 = .ok (.goto 4, 3) by decide +kernel) (by decide) ?_
    exact go_zret (show decode cX10_isRoom 21 = .ok (.ireturn, 1) by decide +kernel) rfl (by decide) h
def V_X10_acts_2 (d : Nat) (S : AS) (F : AF) (G : AG) (Q : AQ) (a0 : Nat) (a1 : Int) : Prop :=
  ((2 ≤ a1) →
    Q none S F G) ∧
  ((¬ 2 ≤ a1) →
    (sK S a0 = 10) ∧
    (r32 (48 * a1)) ∧
    (sK S (sR S a0 5) = 20) ∧
    ((0 : Int) ≤ a1) ∧
    ((a1 : Int) < (sN S (sR S a0 5) : Int)) ∧
    (r32 ((48 * a1) + (G (sR S a0 5) a1))) ∧
    (r32 (((48 * a1) + (G (sR S a0 5) a1)) - 1)) ∧
    (sK S (sR S a0 4) = 20) ∧
    ((0 : Int) ≤ ((48 * a1) + (G (sR S a0 5) a1)) - 1) ∧
    ((((48 * a1) + (G (sR S a0 5) a1)) - 1 : Int) < (sN S (sR S a0 4) : Int)) ∧
    (sK S (sR S a0 18) = 20) ∧
    ((a1 : Int) < (sN S (sR S a0 18) : Int)) ∧
    ∀ G13 : AG, G13 = gu G (sR S a0 18) a1 (G (sR S a0 4) (((48 * a1) + (G (sR S a0 5) a1)) - 1)) →
    (r32 (a1 + 1)) ∧
    Go d MX10_acts 2 [some (vR a0), some (vI (a1 + 1))] [] S F G13 Q)
theorem R_X10_acts_2 {d : Nat} {S : AS} {F : AF} {G : AG} {Q : AQ} {a0 : Nat} {a1 : Int} (h : V_X10_acts_2 d S F G Q a0 a1) : Go d MX10_acts 2 [some (vR a0), some (vI a1)] [] S F G Q := by
  unfold V_X10_acts_2 at h
  refine go_iload_n (show decode cX10_acts 2 = .ok (.iload_n 1, 1) by decide +kernel) (by rfl) ?_
  refine go_iconst (show decode cX10_acts 3 = .ok (.iconst 2, 1) by decide +kernel) (by decide) ?_
  obtain ⟨ht, hf⟩ := h
  refine go_icmpge (tgt := 37) (show decode cX10_acts 4 = .ok (.if_icmp .ge 33, 3) by decide +kernel) (by decide) (fun hc => ?_) (fun hc => ?_)
  · have h := ht hc
    exact go_vret (show decode cX10_acts 37 = .ok (.return_, 1) by decide +kernel) rfl h
  · have h := hf hc
    refine go_aload_n (show decode cX10_acts 7 = .ok (.aload_n 0, 1) by decide +kernel) (by rfl) ?_
    obtain ⟨q1, h⟩ := h
    refine go_getR (show decode cX10_acts 8 = .ok (.getfield 65, 3) by decide +kernel) fl_X10_65 rfl q1 ?_
    refine go_iload_n (show decode cX10_acts 11 = .ok (.iload_n 1, 1) by decide +kernel) (by rfl) ?_
    refine go_aload_n (show decode cX10_acts 12 = .ok (.aload_n 0, 1) by decide +kernel) (by rfl) ?_
    refine go_getR (show decode cX10_acts 13 = .ok (.getfield 25, 3) by decide +kernel) fl_X10_25 rfl q1 ?_
    refine go_bipush (show decode cX10_acts 16 = .ok (.bipush 48, 2) by decide +kernel) (by decide) ?_
    refine go_iload_n (show decode cX10_acts 18 = .ok (.iload_n 1, 1) by decide +kernel) (by rfl) ?_
    obtain ⟨q2, h⟩ := h
    refine go_imul (show decode cX10_acts 19 = .ok (.imul, 1) by decide +kernel) q2 ?_
    refine go_aload_n (show decode cX10_acts 20 = .ok (.aload_n 0, 1) by decide +kernel) (by rfl) ?_
    refine go_getR (show decode cX10_acts 21 = .ok (.getfield 29, 3) by decide +kernel) fl_X10_29 rfl q1 ?_
    refine go_iload_n (show decode cX10_acts 24 = .ok (.iload_n 1, 1) by decide +kernel) (by rfl) ?_
    obtain ⟨q3, h⟩ := h
    obtain ⟨q4, h⟩ := h
    obtain ⟨q5, h⟩ := h
    refine go_iaload (show decode cX10_acts 25 = .ok (.iaload, 1) by decide +kernel) q3 q4 q5 ?_
    obtain ⟨q6, h⟩ := h
    refine go_iadd (show decode cX10_acts 26 = .ok (.iadd, 1) by decide +kernel) q6 ?_
    refine go_iconst (show decode cX10_acts 27 = .ok (.iconst 1, 1) by decide +kernel) (by decide) ?_
    obtain ⟨q7, h⟩ := h
    refine go_isub (show decode cX10_acts 28 = .ok (.isub, 1) by decide +kernel) q7 ?_
    obtain ⟨q8, h⟩ := h
    obtain ⟨q9, h⟩ := h
    obtain ⟨q10, h⟩ := h
    refine go_iaload (show decode cX10_acts 29 = .ok (.iaload, 1) by decide +kernel) q8 q9 q10 ?_
    obtain ⟨q11, h⟩ := h
    obtain ⟨q12, h⟩ := h
    refine go_iastore (show decode cX10_acts 30 = .ok (.iastore, 1) by decide +kernel) q11 q4 q12  ?_
    obtain ⟨G13, G13e⟩ : ∃ G13 : AG, G13 = gu G (sR S a0 18) a1 (G (sR S a0 4) (((48 * a1) + (G (sR S a0 5) a1)) - 1)) := ⟨_, rfl⟩
    have h := h G13 G13e
    rw [← G13e]
    obtain ⟨q14, h⟩ := h
    refine go_iinc (show decode cX10_acts 31 = .ok (.iinc 1 1, 3) by decide +kernel) (by rfl) q14 (by decide) ?_
    show Go d MX10_acts 34 [some (vR a0), some (vI (a1 + 1))] [] S F G13 Q
    refine go_goto (tgt := 2) (show decode cX10_acts 34 = .ok (.goto (-32), 3) by decide +kernel) (by decide) ?_
    exact h
def V_X10_acts_0 (d : Nat) (S : AS) (F : AF) (G : AG) (Q : AQ) (a0 : Nat) : Prop :=
  Go d MX10_acts 2 [some (vR a0), some (vI 0)] [] S F G Q
theorem R_X10_acts_0 {d : Nat} {S : AS} {F : AF} {G : AG} {Q : AQ} {a0 : Nat} (h : V_X10_acts_0 d S F G Q a0) : Go d MX10_acts 0 [some (vR a0), none] [] S F G Q := by
  unfold V_X10_acts_0 at h
  refine go_iconst (show decode cX10_acts 0 = .ok (.iconst 0, 1) by decide +kernel) (by decide) ?_
  refine go_istore_n (show decode cX10_acts 1 = .ok (.istore_n 1, 1) by decide +kernel) (by decide) ?_
  show Go d MX10_acts 2 [some (vR a0), some (vI 0)] [] S F G Q
  exact h
