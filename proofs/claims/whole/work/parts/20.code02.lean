def V_X2_save_41 (d : Nat) (S : AS) (F : AF) (G : AG) (Q : AQ)  : Prop :=
  ((0 : Int) ≤ F 2 8) ∧
  ((F 2 8 : Int) < 8) ∧
  (AtSaved S (sR S 21 (Int.toNat (F 2 8)))) ∧
  (1 ≤ d) ∧
  ((0 + 6912 : Int) ≤ 6912) ∧
  ∀ G6 : AG, G6 = gcp G 18 (sR S 21 (Int.toNat (F 2 8)) + 1) 0 0 6912 →
  ∀ F7 : AF, F7 = fu F (sR S 21 (Int.toNat (F 2 8))) 1 0 →
  (r32 ((F7 2 8) + 1)) ∧
  ∀ F9 : AF, F9 = fu F7 2 8 ((F7 2 8) + 1) →
  Q none S F9 G6
theorem R_X2_save_41 {d : Nat} {S : AS} {F : AF} {G : AG} {Q : AQ}  (hsh : ShC S) (h : V_X2_save_41 d S F G Q ) : Go d MX2_save 41 [some (vR 2)] [] S F G Q := by
  unfold V_X2_save_41 at h
  refine go_aload_n (show decode cX2_save 41 = .ok (.aload_n 0, 1) by decide +kernel) (by rfl) ?_
  refine go_getRc (show decode cX2_save 42 = .ok (.getfield 28, 3) by decide +kernel) fl_X2_28 rfl (shc_k hsh 2 (by decide) (by decide)) (v := 18) (shc_r hsh 2 3 (by decide) (by decide) (by decide)) ?_
  refine go_iconst (show decode cX2_save 45 = .ok (.iconst 0, 1) by decide +kernel) (by decide) ?_
  refine go_aload_n (show decode cX2_save 46 = .ok (.aload_n 0, 1) by decide +kernel) (by rfl) ?_
  refine go_getRc (show decode cX2_save 47 = .ok (.getfield 43, 3) by decide +kernel) fl_X2_43 rfl (shc_k hsh 2 (by decide) (by decide)) (v := 21) (shc_r hsh 2 6 (by decide) (by decide) (by decide)) ?_
  refine go_aload_n (show decode cX2_save 50 = .ok (.aload_n 0, 1) by decide +kernel) (by rfl) ?_
  refine go_getI (show decode cX2_save 51 = .ok (.getfield 60, 3) by decide +kernel) fl_X2_60 (Or.inl rfl) (shc_k hsh 2 (by decide) (by decide)) ?_
  obtain ⟨q1, h⟩ := h
  obtain ⟨q2, h⟩ := h
  refine go_aaload (show decode cX2_save 54 = .ok (.aaload, 1) by decide +kernel) (Or.inr (shc_k hsh 21 (by decide) (by decide))) q1 (lt_n (m := 8) q2 (shc_n hsh 21 (by decide) (by decide))) ?_
  obtain ⟨q3, h⟩ := h
  refine go_getRc (show decode cX2_save 55 = .ok (.getfield 98, 3) by decide +kernel) fl_X2_98 rfl q3.1 (v := (sR S 21 (Int.toNat (F 2 8)) + 1)) q3.2.1 ?_
  refine go_iconst (show decode cX2_save 58 = .ok (.iconst 0, 1) by decide +kernel) (by decide) ?_
  refine go_aload_n (show decode cX2_save 59 = .ok (.aload_n 0, 1) by decide +kernel) (by rfl) ?_
  refine go_getRc (show decode cX2_save 60 = .ok (.getfield 28, 3) by decide +kernel) fl_X2_28 rfl (shc_k hsh 2 (by decide) (by decide)) (v := 18) (shc_r hsh 2 3 (by decide) (by decide) (by decide)) ?_
  refine go_alenc (show decode cX2_save 63 = .ok (.arraylength, 1) by decide +kernel) (by have h9 : sK S 18 = 21 := (shc_k hsh 18 (by decide) (by decide)); omega) (z := 6912) (by rw [(shc_n hsh 18 (by decide) (by decide))]; rfl) ?_
  obtain ⟨q4, h⟩ := h
  obtain ⟨q5, h⟩ := h
  refine go_copyJ (show decode cX2_save 64 = .ok (.invokestatic 142, 3) by decide +kernel) ml_X2_142 ac_n ac_s ac_i (shc_k hsh 18 (by decide) (by decide)) q3.2.2.1 (by decide) (by decide) (by decide) (le_n (m := 6912) q5 (shc_n hsh 18 (by decide) (by decide))) (le_n (m := 6912) q5 q3.2.2.2) (Nat.le_of_ble_eq_true rfl) q4 ?_
  obtain ⟨G6, G6e⟩ : ∃ G6 : AG, G6 = gcp G 18 (sR S 21 (Int.toNat (F 2 8)) + 1) 0 0 6912 := ⟨_, rfl⟩
  have h := h G6 G6e
  rw [← G6e]
  refine go_aload_n (show decode cX2_save 67 = .ok (.aload_n 0, 1) by decide +kernel) (by rfl) ?_
  refine go_getRc (show decode cX2_save 68 = .ok (.getfield 43, 3) by decide +kernel) fl_X2_43 rfl (shc_k hsh 2 (by decide) (by decide)) (v := 21) (shc_r hsh 2 6 (by decide) (by decide) (by decide)) ?_
  refine go_aload_n (show decode cX2_save 71 = .ok (.aload_n 0, 1) by decide +kernel) (by rfl) ?_
  refine go_getI (show decode cX2_save 72 = .ok (.getfield 60, 3) by decide +kernel) fl_X2_60 (Or.inl rfl) (shc_k hsh 2 (by decide) (by decide)) ?_
  refine go_aaload (show decode cX2_save 75 = .ok (.aaload, 1) by decide +kernel) (Or.inr (shc_k hsh 21 (by decide) (by decide))) q1 (lt_n (m := 8) q2 (shc_n hsh 21 (by decide) (by decide))) ?_
  refine go_iconst (show decode cX2_save 76 = .ok (.iconst 0, 1) by decide +kernel) (by decide) ?_
  refine go_putI (show decode cX2_save 77 = .ok (.putfield 148, 3) by decide +kernel) fl_X2_148 rfl (Or.inl rfl) q3.1 ?_
  obtain ⟨F7, F7e⟩ : ∃ F7 : AF, F7 = fu F (sR S 21 (Int.toNat (F 2 8))) 1 0 := ⟨_, rfl⟩
  have h := h F7 F7e
  rw [← F7e]
  refine go_aload_n (show decode cX2_save 80 = .ok (.aload_n 0, 1) by decide +kernel) (by rfl) ?_
  refine go_dup (show decode cX2_save 81 = .ok (.dup, 1) by decide +kernel) ?_
  refine go_getI (show decode cX2_save 82 = .ok (.getfield 60, 3) by decide +kernel) fl_X2_60 (Or.inl rfl) (shc_k hsh 2 (by decide) (by decide)) ?_
  refine go_iconst (show decode cX2_save 85 = .ok (.iconst 1, 1) by decide +kernel) (by decide) ?_
  obtain ⟨q8, h⟩ := h
  refine go_iadd (show decode cX2_save 86 = .ok (.iadd, 1) by decide +kernel) q8 ?_
  refine go_putI (show decode cX2_save 87 = .ok (.putfield 60, 3) by decide +kernel) fl_X2_60 rfl (Or.inl rfl) (shc_k hsh 2 (by decide) (by decide)) ?_
  obtain ⟨F9, F9e⟩ : ∃ F9 : AF, F9 = fu F7 2 8 ((F7 2 8) + 1) := ⟨_, rfl⟩
  have h := h F9 F9e
  rw [← F9e]
  exact go_vret (show decode cX2_save 90 = .ok (.return_, 1) by decide +kernel) rfl h
def V_X2_save_0 (d : Nat) (S : AS) (F : AF) (G : AG) (Q : AQ)  : Prop :=
  ((F 2 8 < 8) →
    ((0 : Int) ≤ F 2 8) ∧
    ((F 2 8 : Int) < 8) ∧
    ((¬ sR S 21 (Int.toNat (F 2 8)) = 0) →
      V_X2_save_41 d S F G Q ) ∧
    ((sR S 21 (Int.toNat (F 2 8)) = 0) →
      (sn S < 999998) ∧
      ∀ x4 : Nat, x4 = sn S + 1 →
      ∀ S5 : AS, S5 = na S 4 0 2 →
      ∀ F6 : AF, F6 = nF S F →
      ∀ G7 : AG, G7 = nG S G →
      (ShC S5) ∧
      (1 ≤ d) ∧
      (1 ≤ x4) ∧
      Ok (d - 1) MX4_init [vR x4] S5 F6 G7 (fun w9 S10 F11 G12 =>
      w9 = none ∧
      (ShC S10) ∧
      ((0 : Int) ≤ F 2 8) ∧
      ((F 2 8 : Int) < 8) ∧
      (AtSaved S10 x4) ∧
      ∀ S17 : AS, S17 = ru S10 21 (Int.toNat (F 2 8)) x4 →
      (ShC S17) ∧
      V_X2_save_41 d S17 F11 G12 Q ))) ∧
  ((¬ F 2 8 < 8) →
    Q none S F G)
theorem R_X2_save_0 {d : Nat} {S : AS} {F : AF} {G : AG} {Q : AQ}  (hsh : ShC S) (h : V_X2_save_0 d S F G Q ) : Go d MX2_save 0 [some (vR 2)] [] S F G Q := by
  unfold V_X2_save_0 at h
  refine go_aload_n (show decode cX2_save 0 = .ok (.aload_n 0, 1) by decide +kernel) (by rfl) ?_
  refine go_getI (show decode cX2_save 1 = .ok (.getfield 60, 3) by decide +kernel) fl_X2_60 (Or.inl rfl) (shc_k hsh 2 (by decide) (by decide)) ?_
  refine go_aload_n (show decode cX2_save 4 = .ok (.aload_n 0, 1) by decide +kernel) (by rfl) ?_
  refine go_getRc (show decode cX2_save 5 = .ok (.getfield 43, 3) by decide +kernel) fl_X2_43 rfl (shc_k hsh 2 (by decide) (by decide)) (v := 21) (shc_r hsh 2 6 (by decide) (by decide) (by decide)) ?_
  refine go_alenc (show decode cX2_save 8 = .ok (.arraylength, 1) by decide +kernel) (by have h9 : sK S 21 = 25 := (shc_k hsh 21 (by decide) (by decide)); omega) (z := 8) (by rw [(shc_n hsh 21 (by decide) (by decide))]; rfl) ?_
  obtain ⟨ht, hf⟩ := h
  refine go_icmplt (tgt := 13) (show decode cX2_save 9 = .ok (.if_icmp .lt 4, 3) by decide +kernel) (by decide) (fun hc => ?_) (fun hc => ?_)
  · have h := ht hc
    refine go_aload_n (show decode cX2_save 13 = .ok (.aload_n 0, 1) by decide +kernel) (by rfl) ?_
    refine go_getRc (show decode cX2_save 14 = .ok (.getfield 43, 3) by decide +kernel) fl_X2_43 rfl (shc_k hsh 2 (by decide) (by decide)) (v := 21) (shc_r hsh 2 6 (by decide) (by decide) (by decide)) ?_
    refine go_aload_n (show decode cX2_save 17 = .ok (.aload_n 0, 1) by decide +kernel) (by rfl) ?_
    refine go_getI (show decode cX2_save 18 = .ok (.getfield 60, 3) by decide +kernel) fl_X2_60 (Or.inl rfl) (shc_k hsh 2 (by decide) (by decide)) ?_
    obtain ⟨q1, h⟩ := h
    obtain ⟨q2, h⟩ := h
    refine go_aaload (show decode cX2_save 21 = .ok (.aaload, 1) by decide +kernel) (Or.inr (shc_k hsh 21 (by decide) (by decide))) q1 (lt_n (m := 8) q2 (shc_n hsh 21 (by decide) (by decide))) ?_
    obtain ⟨ht, hf⟩ := h
    refine go_ifnonnull (tgt := 41) (show decode cX2_save 22 = .ok (.ifnonnull 19, 3) by decide +kernel) (by decide) (fun hc => ?_) (fun hc => ?_)
    · have h := ht hc
      exact R_X2_save_41 hsh h
    · have h := hf hc
      refine go_aload_n (show decode cX2_save 25 = .ok (.aload_n 0, 1) by decide +kernel) (by rfl) ?_
      refine go_getRc (show decode cX2_save 26 = .ok (.getfield 43, 3) by decide +kernel) fl_X2_43 rfl (shc_k hsh 2 (by decide) (by decide)) (v := 21) (shc_r hsh 2 6 (by decide) (by decide) (by decide)) ?_
      refine go_aload_n (show decode cX2_save 29 = .ok (.aload_n 0, 1) by decide +kernel) (by rfl) ?_
      refine go_getI (show decode cX2_save 30 = .ok (.getfield 60, 3) by decide +kernel) fl_X2_60 (Or.inl rfl) (shc_k hsh 2 (by decide) (by decide)) ?_
      obtain ⟨q3, h⟩ := h
      refine go_new (show decode cX2_save 33 = .ok (.new 41, 3) by decide +kernel) (by decide) cl_X2_41 ci_4 cz_4 q3 ?_
      show Go d MX2_save 36 [some (vR 2)] [vR (sn S + 1), vI (F 2 8), vR 21] (na S 4 0 2) (nF S F) (nG S G) Q
      obtain ⟨x4, x4e⟩ : ∃ x4 : Nat, x4 = sn S + 1 := ⟨_, rfl⟩
      have h := h x4 x4e
      rw [← x4e]
      obtain ⟨S5, S5e⟩ : ∃ S5 : AS, S5 = na S 4 0 2 := ⟨_, rfl⟩
      have h := h S5 S5e
      rw [← S5e]
      obtain ⟨F6, F6e⟩ : ∃ F6 : AF, F6 = nF S F := ⟨_, rfl⟩
      have h := h F6 F6e
      rw [← F6e]
      obtain ⟨G7, G7e⟩ : ∃ G7 : AG, G7 = nG S G := ⟨_, rfl⟩
      have h := h G7 G7e
      rw [← G7e]
      obtain ⟨hsh, h⟩ := h
      refine go_dup (show decode cX2_save 36 = .ok (.dup, 1) by decide +kernel) ?_
      obtain ⟨q8, h⟩ := h
      obtain ⟨q13, h⟩ := h
      refine go_callIN (d2 := d - 1) (M2 := MX4_init) (n := 0) (av := []) (st := [vR x4, vI (F 2 8), vR 21]) (show decode cX2_save 37 = .ok (.invokespecial 141, 3) by decide +kernel) ml_X2_141 mt_X4_init rfl rfl min_X4_init q13 rfl (Nat.le_of_ble_eq_true rfl) (by omega) (ok_mono h (fun w9 S10 F11 G12 h => ?_))
      obtain ⟨e9, h⟩ := h
      subst e9
      obtain ⟨hsh, h⟩ := h
      show Go d MX2_save 40 [some (vR 2)] [vR x4, vI (F 2 8), vR 21] S10 F11 G12 Q
      obtain ⟨q14, h⟩ := h
      obtain ⟨q15, h⟩ := h
      obtain ⟨q16, h⟩ := h
      refine go_aastore (show decode cX2_save 40 = .ok (.aastore, 1) by decide +kernel) (Or.inr (shc_k hsh 21 (by decide) (by decide))) q16.1 (by decide) (by rw [(shc_k hsh 21 (by decide) (by decide))]; rfl) q14 (lt_n (m := 8) q15 (shc_n hsh 21 (by decide) (by decide))) ?_
      obtain ⟨S17, S17e⟩ : ∃ S17 : AS, S17 = ru S10 21 (Int.toNat (F 2 8)) x4 := ⟨_, rfl⟩
      have h := h S17 S17e
      rw [← S17e]
      obtain ⟨hsh, h⟩ := h
      exact R_X2_save_41 hsh h
  · have h := hf hc
    exact go_vret (show decode cX2_save 12 = .ok (.return_, 1) by decide +kernel) rfl h
def V_X2_joinInnermost_43 (d : Nat) (S : AS) (F : AF) (G : AG) (Q : AQ) (a1 : Nat) (a2 : Nat) : Prop :=
  (r32 ((F 2 8) - 1)) ∧
  ∀ F2 : AF, F2 = fu F 2 8 ((F 2 8) - 1) →
  Q none S F2 G
theorem R_X2_joinInnermost_43 {d : Nat} {S : AS} {F : AF} {G : AG} {Q : AQ} {a1 : Nat} {a2 : Nat} (hsh : ShC S) (h : V_X2_joinInnermost_43 d S F G Q a1 a2) : Go d MX2_joinInnermost 43 [some (vR 2), some (vR a1), some (vR a2)] [] S F G Q := by
  unfold V_X2_joinInnermost_43 at h
  refine go_aload_n (show decode cX2_joinInnermost 43 = .ok (.aload_n 0, 1) by decide +kernel) (by rfl) ?_
  refine go_dup (show decode cX2_joinInnermost 44 = .ok (.dup, 1) by decide +kernel) ?_
  refine go_getI (show decode cX2_joinInnermost 45 = .ok (.getfield 60, 3) by decide +kernel) fl_X2_60 (Or.inl rfl) (shc_k hsh 2 (by decide) (by decide)) ?_
  refine go_iconst (show decode cX2_joinInnermost 48 = .ok (.iconst 1, 1) by decide +kernel) (by decide) ?_
  obtain ⟨q1, h⟩ := h
  refine go_isub (show decode cX2_joinInnermost 49 = .ok (.isub, 1) by decide +kernel) q1 ?_
  refine go_putI (show decode cX2_joinInnermost 50 = .ok (.putfield 60, 3) by decide +kernel) fl_X2_60 rfl (Or.inl rfl) (shc_k hsh 2 (by decide) (by decide)) ?_
  obtain ⟨F2, F2e⟩ : ∃ F2 : AF, F2 = fu F 2 8 ((F 2 8) - 1) := ⟨_, rfl⟩
  have h := h F2 F2e
  rw [← F2e]
  exact go_vret (show decode cX2_joinInnermost 53 = .ok (.return_, 1) by decide +kernel) rfl h
def V_X2_joinInnermost_0 (d : Nat) (S : AS) (F : AF) (G : AG) (Q : AQ)  : Prop :=
  (r32 ((F 2 8) - 1)) ∧
  (1 ≤ d) ∧
  ∃ z7 : Nat, Pu (d - 1) MX2_savedAt [vR 2, vI ((F 2 8) - 1)] S F G (some (vR z7)) ∧
  (r32 ((F 2 8) - 2)) ∧
  ∃ z14 : Nat, Pu (d - 1) MX2_savedAt [vR 2, vI ((F 2 8) - 2)] S F G (some (vR z14)) ∧
  ((z7 = 0) →
    V_X2_joinInnermost_43 d S F G Q z7 z14) ∧
  ((¬ z7 = 0) →
    ((z14 = 0) →
      V_X2_joinInnermost_43 d S F G Q z7 z14) ∧
    ((¬ z14 = 0) →
      (AtSaved S z14) ∧
      (AtSaved S z7) ∧
      (r32 ((F z14 1) + (F z7 1))) ∧
      ∀ F19 : AF, F19 = fu F z14 1 ((F z14 1) + (F z7 1)) →
      V_X2_joinInnermost_43 d S F19 G Q z7 z14))
theorem R_X2_joinInnermost_0 {d : Nat} {S : AS} {F : AF} {G : AG} {Q : AQ}  (hsh : ShC S) (h : V_X2_joinInnermost_0 d S F G Q ) : Go d MX2_joinInnermost 0 [some (vR 2), none, none] [] S F G Q := by
  unfold V_X2_joinInnermost_0 at h
  refine go_aload_n (show decode cX2_joinInnermost 0 = .ok (.aload_n 0, 1) by decide +kernel) (by rfl) ?_
  refine go_aload_n (show decode cX2_joinInnermost 1 = .ok (.aload_n 0, 1) by decide +kernel) (by rfl) ?_
  refine go_getI (show decode cX2_joinInnermost 2 = .ok (.getfield 60, 3) by decide +kernel) fl_X2_60 (Or.inl rfl) (shc_k hsh 2 (by decide) (by decide)) ?_
  refine go_iconst (show decode cX2_joinInnermost 5 = .ok (.iconst 1, 1) by decide +kernel) (by decide) ?_
  obtain ⟨q1, h⟩ := h
  refine go_isub (show decode cX2_joinInnermost 6 = .ok (.isub, 1) by decide +kernel) q1 ?_
  obtain ⟨q2, h⟩ := h
  obtain ⟨z7, p8, h⟩ := h
  refine go_callV (d2 := d - 1) (M2 := MX2_savedAt) (n := 1) (ci := 2) (av := [vI ((F 2 8) - 1)]) (st := []) (show decode cX2_joinInnermost 7 = .ok (.invokevirtual 151, 3) by decide +kernel) ml_X2_151 mt_X2_savedAt min_X2_savedAt mse_X2_savedAt (by decide) (shc_k hsh 2 (by decide) (by decide)) rfl (Nat.le_of_ble_eq_true rfl) (by omega) (ok_mono p8 (fun w3 S4 F5 G6 e9 => ?_))
  obtain ⟨e1, e2, e3, e4⟩ := e9
  subst e1
  replace e2 := e2.symm; subst e2
  replace e3 := e3.symm; subst e3
  replace e4 := e4.symm; subst e4
  show Go d MX2_joinInnermost 10 [some (vR 2), none, none] [vR z7] S F G Q
  refine go_astore_n (show decode cX2_joinInnermost 10 = .ok (.astore_n 1, 1) by decide +kernel) (by decide) ?_
  show Go d MX2_joinInnermost 11 [some (vR 2), some (vR z7), none] [] S F G Q
  refine go_aload_n (show decode cX2_joinInnermost 11 = .ok (.aload_n 0, 1) by decide +kernel) (by rfl) ?_
  refine go_aload_n (show decode cX2_joinInnermost 12 = .ok (.aload_n 0, 1) by decide +kernel) (by rfl) ?_
  refine go_getI (show decode cX2_joinInnermost 13 = .ok (.getfield 60, 3) by decide +kernel) fl_X2_60 (Or.inl rfl) (shc_k hsh 2 (by decide) (by decide)) ?_
  refine go_iconst (show decode cX2_joinInnermost 16 = .ok (.iconst 2, 1) by decide +kernel) (by decide) ?_
  obtain ⟨q9, h⟩ := h
  refine go_isub (show decode cX2_joinInnermost 17 = .ok (.isub, 1) by decide +kernel) q9 ?_
  obtain ⟨z14, p15, h⟩ := h
  refine go_callV (d2 := d - 1) (M2 := MX2_savedAt) (n := 1) (ci := 2) (av := [vI ((F 2 8) - 2)]) (st := []) (show decode cX2_joinInnermost 18 = .ok (.invokevirtual 151, 3) by decide +kernel) ml_X2_151 mt_X2_savedAt min_X2_savedAt mse_X2_savedAt (by decide) (shc_k hsh 2 (by decide) (by decide)) rfl (Nat.le_of_ble_eq_true rfl) (by omega) (ok_mono p15 (fun w10 S11 F12 G13 e9 => ?_))
  obtain ⟨e1, e2, e3, e4⟩ := e9
  subst e1
  replace e2 := e2.symm; subst e2
  replace e3 := e3.symm; subst e3
  replace e4 := e4.symm; subst e4
  show Go d MX2_joinInnermost 21 [some (vR 2), some (vR z7), none] [vR z14] S F G Q
  refine go_astore_n (show decode cX2_joinInnermost 21 = .ok (.astore_n 2, 1) by decide +kernel) (by decide) ?_
  show Go d MX2_joinInnermost 22 [some (vR 2), some (vR z7), some (vR z14)] [] S F G Q
  refine go_aload_n (show decode cX2_joinInnermost 22 = .ok (.aload_n 1, 1) by decide +kernel) (by rfl) ?_
  obtain ⟨ht, hf⟩ := h
  refine go_ifnull (tgt := 43) (show decode cX2_joinInnermost 23 = .ok (.ifnull 20, 3) by decide +kernel) (by decide) (fun hc => ?_) (fun hc => ?_)
  · have h := ht hc
    exact R_X2_joinInnermost_43 hsh h
  · have h := hf hc
    refine go_aload_n (show decode cX2_joinInnermost 26 = .ok (.aload_n 2, 1) by decide +kernel) (by rfl) ?_
    obtain ⟨ht, hf⟩ := h
    refine go_ifnull (tgt := 43) (show decode cX2_joinInnermost 27 = .ok (.ifnull 16, 3) by decide +kernel) (by decide) (fun hc => ?_) (fun hc => ?_)
    · have h := ht hc
      exact R_X2_joinInnermost_43 hsh h
    · have h := hf hc
      refine go_aload_n (show decode cX2_joinInnermost 30 = .ok (.aload_n 2, 1) by decide +kernel) (by rfl) ?_
      refine go_dup (show decode cX2_joinInnermost 31 = .ok (.dup, 1) by decide +kernel) ?_
      obtain ⟨q16, h⟩ := h
      refine go_getI (show decode cX2_joinInnermost 32 = .ok (.getfield 148, 3) by decide +kernel) fl_X2_148 (Or.inl rfl) q16.1 ?_
      refine go_aload_n (show decode cX2_joinInnermost 35 = .ok (.aload_n 1, 1) by decide +kernel) (by rfl) ?_
      obtain ⟨q17, h⟩ := h
      refine go_getI (show decode cX2_joinInnermost 36 = .ok (.getfield 148, 3) by decide +kernel) fl_X2_148 (Or.inl rfl) q17.1 ?_
      obtain ⟨q18, h⟩ := h
      refine go_iadd (show decode cX2_joinInnermost 39 = .ok (.iadd, 1) by decide +kernel) q18 ?_
      refine go_putI (show decode cX2_joinInnermost 40 = .ok (.putfield 148, 3) by decide +kernel) fl_X2_148 rfl (Or.inl rfl) q16.1 ?_
      obtain ⟨F19, F19e⟩ : ∃ F19 : AF, F19 = fu F z14 1 ((F z14 1) + (F z7 1)) := ⟨_, rfl⟩
      have h := h F19 F19e
      rw [← F19e]
      exact R_X2_joinInnermost_43 hsh h
def V_X2_restore_0 (d : Nat) (S : AS) (F : AF) (G : AG) (Q : AQ)  : Prop :=
  (r32 ((F 2 8) - 1)) ∧
  (1 ≤ d) ∧
  ∃ z7 : Nat, Pu (d - 1) MX2_savedAt [vR 2, vI ((F 2 8) - 1)] S F G (some (vR z7)) ∧
  ((¬ z7 = 0) →
    (AtSaved S z7) ∧
    ((0 + 6912 : Int) ≤ 6912) ∧
    ∀ G11 : AG, G11 = gcp G (z7 + 1) 18 0 0 6912 →
    ∀ F12 : AF, F12 = fu F 2 8 ((F 2 8) - 1) →
    Q (some (vI (F12 z7 1))) S F12 G11) ∧
  ((z7 = 0) →
    Q (some (vI 0)) S F G)
theorem R_X2_restore_0 {d : Nat} {S : AS} {F : AF} {G : AG} {Q : AQ}  (hsh : ShC S) (h : V_X2_restore_0 d S F G Q ) : Go d MX2_restore 0 [some (vR 2), none] [] S F G Q := by
  unfold V_X2_restore_0 at h
  refine go_aload_n (show decode cX2_restore 0 = .ok (.aload_n 0, 1) by decide +kernel) (by rfl) ?_
  refine go_aload_n (show decode cX2_restore 1 = .ok (.aload_n 0, 1) by decide +kernel) (by rfl) ?_
  refine go_getI (show decode cX2_restore 2 = .ok (.getfield 60, 3) by decide +kernel) fl_X2_60 (Or.inl rfl) (shc_k hsh 2 (by decide) (by decide)) ?_
  refine go_iconst (show decode cX2_restore 5 = .ok (.iconst 1, 1) by decide +kernel) (by decide) ?_
  obtain ⟨q1, h⟩ := h
  refine go_isub (show decode cX2_restore 6 = .ok (.isub, 1) by decide +kernel) q1 ?_
  obtain ⟨q2, h⟩ := h
  obtain ⟨z7, p8, h⟩ := h
  refine go_callV (d2 := d - 1) (M2 := MX2_savedAt) (n := 1) (ci := 2) (av := [vI ((F 2 8) - 1)]) (st := []) (show decode cX2_restore 7 = .ok (.invokevirtual 151, 3) by decide +kernel) ml_X2_151 mt_X2_savedAt min_X2_savedAt mse_X2_savedAt (by decide) (shc_k hsh 2 (by decide) (by decide)) rfl (Nat.le_of_ble_eq_true rfl) (by omega) (ok_mono p8 (fun w3 S4 F5 G6 e9 => ?_))
  obtain ⟨e1, e2, e3, e4⟩ := e9
  subst e1
  replace e2 := e2.symm; subst e2
  replace e3 := e3.symm; subst e3
  replace e4 := e4.symm; subst e4
  show Go d MX2_restore 10 [some (vR 2), none] [vR z7] S F G Q
  refine go_astore_n (show decode cX2_restore 10 = .ok (.astore_n 1, 1) by decide +kernel) (by decide) ?_
  show Go d MX2_restore 11 [some (vR 2), some (vR z7)] [] S F G Q
  refine go_aload_n (show decode cX2_restore 11 = .ok (.aload_n 1, 1) by decide +kernel) (by rfl) ?_
  obtain ⟨ht, hf⟩ := h
  refine go_ifnonnull (tgt := 17) (show decode cX2_restore 12 = .ok (.ifnonnull 5, 3) by decide +kernel) (by decide) (fun hc => ?_) (fun hc => ?_)
  · have h := ht hc
    refine go_aload_n (show decode cX2_restore 17 = .ok (.aload_n 1, 1) by decide +kernel) (by rfl) ?_
    obtain ⟨q9, h⟩ := h
    refine go_getRc (show decode cX2_restore 18 = .ok (.getfield 98, 3) by decide +kernel) fl_X2_98 rfl q9.1 (v := (z7 + 1)) q9.2.1 ?_
    refine go_iconst (show decode cX2_restore 21 = .ok (.iconst 0, 1) by decide +kernel) (by decide) ?_
    refine go_aload_n (show decode cX2_restore 22 = .ok (.aload_n 0, 1) by decide +kernel) (by rfl) ?_
    refine go_getRc (show decode cX2_restore 23 = .ok (.getfield 28, 3) by decide +kernel) fl_X2_28 rfl (shc_k hsh 2 (by decide) (by decide)) (v := 18) (shc_r hsh 2 3 (by decide) (by decide) (by decide)) ?_
    refine go_iconst (show decode cX2_restore 26 = .ok (.iconst 0, 1) by decide +kernel) (by decide) ?_
    refine go_aload_n (show decode cX2_restore 27 = .ok (.aload_n 0, 1) by decide +kernel) (by rfl) ?_
    refine go_getRc (show decode cX2_restore 28 = .ok (.getfield 28, 3) by decide +kernel) fl_X2_28 rfl (shc_k hsh 2 (by decide) (by decide)) (v := 18) (shc_r hsh 2 3 (by decide) (by decide) (by decide)) ?_
    refine go_alenc (show decode cX2_restore 31 = .ok (.arraylength, 1) by decide +kernel) (by have h9 : sK S 18 = 21 := (shc_k hsh 18 (by decide) (by decide)); omega) (z := 6912) (by rw [(shc_n hsh 18 (by decide) (by decide))]; rfl) ?_
    obtain ⟨q10, h⟩ := h
    refine go_copyJ (show decode cX2_restore 32 = .ok (.invokestatic 142, 3) by decide +kernel) ml_X2_142 ac_n ac_s ac_i q9.2.2.1 (shc_k hsh 18 (by decide) (by decide)) (by decide) (by decide) (by decide) (le_n (m := 6912) q10 q9.2.2.2) (le_n (m := 6912) q10 (shc_n hsh 18 (by decide) (by decide))) (Nat.le_of_ble_eq_true rfl) q2 ?_
    obtain ⟨G11, G11e⟩ : ∃ G11 : AG, G11 = gcp G (z7 + 1) 18 0 0 6912 := ⟨_, rfl⟩
    have h := h G11 G11e
    rw [← G11e]
    refine go_aload_n (show decode cX2_restore 35 = .ok (.aload_n 0, 1) by decide +kernel) (by rfl) ?_
    refine go_dup (show decode cX2_restore 36 = .ok (.dup, 1) by decide +kernel) ?_
    refine go_getI (show decode cX2_restore 37 = .ok (.getfield 60, 3) by decide +kernel) fl_X2_60 (Or.inl rfl) (shc_k hsh 2 (by decide) (by decide)) ?_
    refine go_iconst (show decode cX2_restore 40 = .ok (.iconst 1, 1) by decide +kernel) (by decide) ?_
    refine go_isub (show decode cX2_restore 41 = .ok (.isub, 1) by decide +kernel) q1 ?_
    refine go_putI (show decode cX2_restore 42 = .ok (.putfield 60, 3) by decide +kernel) fl_X2_60 rfl (Or.inl rfl) (shc_k hsh 2 (by decide) (by decide)) ?_
    obtain ⟨F12, F12e⟩ : ∃ F12 : AF, F12 = fu F 2 8 ((F 2 8) - 1) := ⟨_, rfl⟩
    have h := h F12 F12e
    rw [← F12e]
    refine go_aload_n (show decode cX2_restore 45 = .ok (.aload_n 1, 1) by decide +kernel) (by rfl) ?_
    refine go_getI (show decode cX2_restore 46 = .ok (.getfield 148, 3) by decide +kernel) fl_X2_148 (Or.inl rfl) q9.1 ?_
    exact go_iret (show decode cX2_restore 49 = .ok (.ireturn, 1) by decide +kernel) rfl h
  · have h := hf hc
    refine go_iconst (show decode cX2_restore 15 = .ok (.iconst 0, 1) by decide +kernel) (by decide) ?_
    exact go_iret (show decode cX2_restore 16 = .ok (.ireturn, 1) by decide +kernel) rfl h
def V_X2_cellsFrom_132 (d : Nat) (S : AS) (F : AF) (G : AG) (Q : AQ) (a1 : Int) (a2 : Nat) (a3 : Int) (a5 : Int) (a7 : Int) (a8 : Int) (a9 : Int) (a10 : Int) (a11 : Int) (a13 : Int) : Prop :=
  (r32 (a13 + 1)) ∧
  Go d MX2_cellsFrom 81 [some (vR 2), some (vI a1), some (vR a2), some (vJ a3), none, some (vJ a5), none, some (vI a7), some (vI a8), some (vI a9), some (vI a10), some (vJ a11), none, some (vI (a13 + 1))] [] S F G Q
theorem R_X2_cellsFrom_132 {d : Nat} {S : AS} {F : AF} {G : AG} {Q : AQ} {a1 : Int} {a2 : Nat} {a3 : Int} {a5 : Int} {a7 : Int} {a8 : Int} {a9 : Int} {a10 : Int} {a11 : Int} {a13 : Int} (hsh : ShC S) (hk2 : AtRect S a2) (h : V_X2_cellsFrom_132 d S F G Q a1 a2 a3 a5 a7 a8 a9 a10 a11 a13) : Go d MX2_cellsFrom 132 [some (vR 2), some (vI a1), some (vR a2), some (vJ a3), none, some (vJ a5), none, some (vI a7), some (vI a8), some (vI a9), some (vI a10), some (vJ a11), none, some (vI a13)] [] S F G Q := by
  unfold V_X2_cellsFrom_132 at h
  obtain ⟨q1, h⟩ := h
  refine go_iinc (show decode cX2_cellsFrom 132 = .ok (.iinc 13 1, 3) by decide +kernel) (by rfl) q1 (by decide) ?_
  show Go d MX2_cellsFrom 135 [some (vR 2), some (vI a1), some (vR a2), some (vJ a3), none, some (vJ a5), none, some (vI a7), some (vI a8), some (vI a9), some (vI a10), some (vJ a11), none, some (vI (a13 + 1))] [] S F G Q
  refine go_goto (tgt := 81) (show decode cX2_cellsFrom 135 = .ok (.goto (-54), 3) by decide +kernel) (by decide) ?_
  exact h
def V_X2_cellsFrom_81 (d : Nat) (S : AS) (F : AF) (G : AG) (Q : AQ) (a1 : Int) (a2 : Nat) (a3 : Int) (a5 : Int) (a7 : Int) (a8 : Int) (a9 : Int) (a10 : Int) (a11 : Int) (a13 : Int) : Prop :=
  ((a8 < a13) →
    (1 ≤ d) ∧
    ∃ z6 : Int, Pu (d - 1) MX1_overlap [vR 11, vI a10, vI (F a2 1), vI (F a2 3)] S F G (some (vI z6)) ∧
    (r64 (a11 * z6)) ∧
    (r64 (a5 + (a11 * z6))) ∧
    ∀ x10 : Int, x10 = a5 + (a11 * z6) →
    (r32 (a10 + 1)) ∧
    Go d MX2_cellsFrom 67 [some (vR 2), some (vI a1), some (vR a2), some (vJ a3), none, some (vJ x10), none, some (vI a7), some (vI a8), some (vI a9), some (vI (a10 + 1)), none, none, none] [] S F G Q) ∧
  ((¬ a8 < a13) →
    (r32 (48 * a10)) ∧
    (r32 ((48 * a10) + a13)) ∧
    (1 ≤ d) ∧
    ∃ z19 : Int, Pu (d - 1) MX2_unitsAt [vR 2, vI a1, vI ((48 * a10) + a13)] S F G (some (vJ z19)) ∧
    ((z19 < a3) →
      V_X2_cellsFrom_132 d S F G Q a1 a2 a3 a5 a7 a8 a9 a10 a11 a13) ∧
    ((¬ z19 < a3) →
      ∃ z25 : Int, Pu (d - 1) MX1_overlap [vR 4, vI a13, vI (F a2 0), vI (F a2 2)] S F G (some (vI z25)) ∧
      (r64 (a11 + z25)) ∧
      ∀ x28 : Int, x28 = a11 + z25 →
      V_X2_cellsFrom_132 d S F G Q a1 a2 a3 a5 a7 a8 a9 a10 x28 a13))
theorem R_X2_cellsFrom_81 {d : Nat} {S : AS} {F : AF} {G : AG} {Q : AQ} {a1 : Int} {a2 : Nat} {a3 : Int} {a5 : Int} {a7 : Int} {a8 : Int} {a9 : Int} {a10 : Int} {a11 : Int} {a13 : Int} (hsh : ShC S) (hk2 : AtRect S a2) (h : V_X2_cellsFrom_81 d S F G Q a1 a2 a3 a5 a7 a8 a9 a10 a11 a13) : Go d MX2_cellsFrom 81 [some (vR 2), some (vI a1), some (vR a2), some (vJ a3), none, some (vJ a5), none, some (vI a7), some (vI a8), some (vI a9), some (vI a10), some (vJ a11), none, some (vI a13)] [] S F G Q := by
  unfold V_X2_cellsFrom_81 at h
  refine go_iload (show decode cX2_cellsFrom 81 = .ok (.iload 13, 2) by decide +kernel) (by rfl) ?_
  refine go_iload (show decode cX2_cellsFrom 83 = .ok (.iload 8, 2) by decide +kernel) (by rfl) ?_
  obtain ⟨ht, hf⟩ := h
  refine go_icmpgt (tgt := 138) (show decode cX2_cellsFrom 85 = .ok (.if_icmp .gt 53, 3) by decide +kernel) (by decide) (fun hc => ?_) (fun hc => ?_)
  · have h := ht hc
    refine go_lload (show decode cX2_cellsFrom 138 = .ok (.lload 5, 2) by decide +kernel) (by rfl) ?_
    refine go_lload (show decode cX2_cellsFrom 140 = .ok (.lload 11, 2) by decide +kernel) (by rfl) ?_
    refine go_aload_n (show decode cX2_cellsFrom 142 = .ok (.aload_n 0, 1) by decide +kernel) (by rfl) ?_
    refine go_getRc (show decode cX2_cellsFrom 143 = .ok (.getfield 18, 3) by decide +kernel) fl_X2_18 rfl (shc_k hsh 2 (by decide) (by decide)) (v := 10) (shc_r hsh 2 1 (by decide) (by decide) (by decide)) ?_
    refine go_getRc (show decode cX2_cellsFrom 146 = .ok (.getfield 90, 3) by decide +kernel) fl_X2_90 rfl (shc_k hsh 10 (by decide) (by decide)) (v := 11) (shc_r hsh 10 0 (by decide) (by decide) (by decide)) ?_
    refine go_iload (show decode cX2_cellsFrom 149 = .ok (.iload 10, 2) by decide +kernel) (by rfl) ?_
    refine go_aload_n (show decode cX2_cellsFrom 151 = .ok (.aload_n 2, 1) by decide +kernel) (by rfl) ?_
    refine go_getI (show decode cX2_cellsFrom 152 = .ok (.getfield 80, 3) by decide +kernel) fl_X2_80 (Or.inl rfl) hk2 ?_
    refine go_aload_n (show decode cX2_cellsFrom 155 = .ok (.aload_n 2, 1) by decide +kernel) (by rfl) ?_
    refine go_getI (show decode cX2_cellsFrom 156 = .ok (.getfield 83, 3) by decide +kernel) fl_X2_83 (Or.inl rfl) hk2 ?_
    obtain ⟨q1, h⟩ := h
    obtain ⟨z6, p7, h⟩ := h
    refine go_callV (d2 := d - 1) (M2 := MX1_overlap) (n := 3) (ci := 1) (av := [vI a10, vI (F a2 1), vI (F a2 3)]) (st := [vJ a11, vJ a5]) (show decode cX2_cellsFrom 159 = .ok (.invokevirtual 105, 3) by decide +kernel) ml_X2_105 mt_X1_overlap min_X1_overlap mse_X1_overlap (by decide) (shc_k hsh 11 (by decide) (by decide)) rfl (Nat.le_of_ble_eq_true rfl) (by omega) (ok_mono p7 (fun w2 S3 F4 G5 e9 => ?_))
    obtain ⟨e1, e2, e3, e4⟩ := e9
    subst e1
    replace e2 := e2.symm; subst e2
    replace e3 := e3.symm; subst e3
    replace e4 := e4.symm; subst e4
    show Go d MX2_cellsFrom 162 [some (vR 2), some (vI a1), some (vR a2), some (vJ a3), none, some (vJ a5), none, some (vI a7), some (vI a8), some (vI a9), some (vI a10), some (vJ a11), none, some (vI a13)] [vI z6, vJ a11, vJ a5] S F G Q
    refine go_i2l (show decode cX2_cellsFrom 162 = .ok (.i2l, 1) by decide +kernel) ?_
    obtain ⟨q8, h⟩ := h
    refine go_lmul (show decode cX2_cellsFrom 163 = .ok (.lmul, 1) by decide +kernel) q8 ?_
    obtain ⟨q9, h⟩ := h
    refine go_ladd (show decode cX2_cellsFrom 164 = .ok (.ladd, 1) by decide +kernel) q9 ?_
    obtain ⟨x10, x10e⟩ : ∃ x10 : Int, x10 = a5 + (a11 * z6) := ⟨_, rfl⟩
    have h := h x10 x10e
    rw [← x10e]
    refine go_lstore (show decode cX2_cellsFrom 165 = .ok (.lstore 5, 2) by decide +kernel) (by decide) ?_
    show Go d MX2_cellsFrom 167 [some (vR 2), some (vI a1), some (vR a2), some (vJ a3), none, some (vJ x10), none, some (vI a7), some (vI a8), some (vI a9), some (vI a10), some (vJ a11), none, some (vI a13)] [] S F G Q
    obtain ⟨q11, h⟩ := h
    refine go_iinc (show decode cX2_cellsFrom 167 = .ok (.iinc 10 1, 3) by decide +kernel) (by rfl) q11 (by decide) ?_
    show Go d MX2_cellsFrom 170 [some (vR 2), some (vI a1), some (vR a2), some (vJ a3), none, some (vJ x10), none, some (vI a7), some (vI a8), some (vI a9), some (vI (a10 + 1)), some (vJ a11), none, some (vI a13)] [] S F G Q
    refine go_goto (tgt := 67) (show decode cX2_cellsFrom 170 = .ok (.goto (-103), 3) by decide +kernel) (by decide) ?_
    refine go_clr 11 ?_
    refine go_clr 13 ?_
    exact h
  · have h := hf hc
    refine go_aload_n (show decode cX2_cellsFrom 88 = .ok (.aload_n 0, 1) by decide +kernel) (by rfl) ?_
    refine go_iload_n (show decode cX2_cellsFrom 89 = .ok (.iload_n 1, 1) by decide +kernel) (by rfl) ?_
    refine go_bipush (show decode cX2_cellsFrom 90 = .ok (.bipush 48, 2) by decide +kernel) (by decide) ?_
    refine go_iload (show decode cX2_cellsFrom 92 = .ok (.iload 10, 2) by decide +kernel) (by rfl) ?_
    obtain ⟨q12, h⟩ := h
    refine go_imul (show decode cX2_cellsFrom 94 = .ok (.imul, 1) by decide +kernel) q12 ?_
    refine go_iload (show decode cX2_cellsFrom 95 = .ok (.iload 13, 2) by decide +kernel) (by rfl) ?_
    obtain ⟨q13, h⟩ := h
    refine go_iadd (show decode cX2_cellsFrom 97 = .ok (.iadd, 1) by decide +kernel) q13 ?_
    obtain ⟨q14, h⟩ := h
    obtain ⟨z19, p20, h⟩ := h
    refine go_callV (d2 := d - 1) (M2 := MX2_unitsAt) (n := 2) (ci := 2) (av := [vI a1, vI ((48 * a10) + a13)]) (st := []) (show decode cX2_cellsFrom 98 = .ok (.invokevirtual 111, 3) by decide +kernel) ml_X2_111 mt_X2_unitsAt min_X2_unitsAt mse_X2_unitsAt (by decide) (shc_k hsh 2 (by decide) (by decide)) rfl (Nat.le_of_ble_eq_true rfl) (by omega) (ok_mono p20 (fun w15 S16 F17 G18 e9 => ?_))
    obtain ⟨e1, e2, e3, e4⟩ := e9
    subst e1
    replace e2 := e2.symm; subst e2
    replace e3 := e3.symm; subst e3
    replace e4 := e4.symm; subst e4
    show Go d MX2_cellsFrom 101 [some (vR 2), some (vI a1), some (vR a2), some (vJ a3), none, some (vJ a5), none, some (vI a7), some (vI a8), some (vI a9), some (vI a10), some (vJ a11), none, some (vI a13)] [vJ z19] S F G Q
    refine go_lload_n (show decode cX2_cellsFrom 101 = .ok (.lload_n 3, 1) by decide +kernel) (by rfl) ?_
    obtain ⟨ht, hf⟩ := h
    refine go_jlt (tgt := 132) (show decode cX2_cellsFrom 102 = .ok (.lcmp, 1) by decide +kernel) (show decode cX2_cellsFrom 103 = .ok (.ifCond .lt 29, 3) by decide +kernel) (by decide) (fun hc => ?_) (fun hc => ?_)
    · have h := ht hc
      exact R_X2_cellsFrom_132 hsh hk2 h
    · have h := hf hc
      refine go_lload (show decode cX2_cellsFrom 106 = .ok (.lload 11, 2) by decide +kernel) (by rfl) ?_
      refine go_aload_n (show decode cX2_cellsFrom 108 = .ok (.aload_n 0, 1) by decide +kernel) (by rfl) ?_
      refine go_getRc (show decode cX2_cellsFrom 109 = .ok (.getfield 12, 3) by decide +kernel) fl_X2_12 rfl (shc_k hsh 2 (by decide) (by decide)) (v := 3) (shc_r hsh 2 0 (by decide) (by decide) (by decide)) ?_
      refine go_getRc (show decode cX2_cellsFrom 112 = .ok (.getfield 90, 3) by decide +kernel) fl_X2_90 rfl (shc_k hsh 3 (by decide) (by decide)) (v := 4) (shc_r hsh 3 0 (by decide) (by decide) (by decide)) ?_
      refine go_iload (show decode cX2_cellsFrom 115 = .ok (.iload 13, 2) by decide +kernel) (by rfl) ?_
      refine go_aload_n (show decode cX2_cellsFrom 117 = .ok (.aload_n 2, 1) by decide +kernel) (by rfl) ?_
      refine go_getI (show decode cX2_cellsFrom 118 = .ok (.getfield 74, 3) by decide +kernel) fl_X2_74 (Or.inl rfl) hk2 ?_
      refine go_aload_n (show decode cX2_cellsFrom 121 = .ok (.aload_n 2, 1) by decide +kernel) (by rfl) ?_
      refine go_getI (show decode cX2_cellsFrom 122 = .ok (.getfield 77, 3) by decide +kernel) fl_X2_77 (Or.inl rfl) hk2 ?_
      obtain ⟨z25, p26, h⟩ := h
      refine go_callV (d2 := d - 1) (M2 := MX1_overlap) (n := 3) (ci := 1) (av := [vI a13, vI (F a2 0), vI (F a2 2)]) (st := [vJ a11]) (show decode cX2_cellsFrom 125 = .ok (.invokevirtual 105, 3) by decide +kernel) ml_X2_105 mt_X1_overlap min_X1_overlap mse_X1_overlap (by decide) (shc_k hsh 4 (by decide) (by decide)) rfl (Nat.le_of_ble_eq_true rfl) (by omega) (ok_mono p26 (fun w21 S22 F23 G24 e9 => ?_))
      obtain ⟨e1, e2, e3, e4⟩ := e9
      subst e1
      replace e2 := e2.symm; subst e2
      replace e3 := e3.symm; subst e3
      replace e4 := e4.symm; subst e4
      show Go d MX2_cellsFrom 128 [some (vR 2), some (vI a1), some (vR a2), some (vJ a3), none, some (vJ a5), none, some (vI a7), some (vI a8), some (vI a9), some (vI a10), some (vJ a11), none, some (vI a13)] [vI z25, vJ a11] S F G Q
      refine go_i2l (show decode cX2_cellsFrom 128 = .ok (.i2l, 1) by decide +kernel) ?_
      obtain ⟨q27, h⟩ := h
      refine go_ladd (show decode cX2_cellsFrom 129 = .ok (.ladd, 1) by decide +kernel) q27 ?_
      obtain ⟨x28, x28e⟩ : ∃ x28 : Int, x28 = a11 + z25 := ⟨_, rfl⟩
      have h := h x28 x28e
      rw [← x28e]
      refine go_lstore (show decode cX2_cellsFrom 130 = .ok (.lstore 11, 2) by decide +kernel) (by decide) ?_
      show Go d MX2_cellsFrom 132 [some (vR 2), some (vI a1), some (vR a2), some (vJ a3), none, some (vJ a5), none, some (vI a7), some (vI a8), some (vI a9), some (vI a10), some (vJ x28), none, some (vI a13)] [] S F G Q
      exact R_X2_cellsFrom_132 hsh hk2 h
def V_X2_cellsFrom_67 (d : Nat) (S : AS) (F : AF) (G : AG) (Q : AQ) (a1 : Int) (a2 : Nat) (a3 : Int) (a5 : Int) (a7 : Int) (a8 : Int) (a9 : Int) (a10 : Int) : Prop :=
  ((a9 < a10) →
    Q (some (vJ a5)) S F G) ∧
  ((¬ a9 < a10) →
    Go d MX2_cellsFrom 81 [some (vR 2), some (vI a1), some (vR a2), some (vJ a3), none, some (vJ a5), none, some (vI a7), some (vI a8), some (vI a9), some (vI a10), some (vJ 0), none, some (vI a7)] [] S F G Q)
theorem R_X2_cellsFrom_67 {d : Nat} {S : AS} {F : AF} {G : AG} {Q : AQ} {a1 : Int} {a2 : Nat} {a3 : Int} {a5 : Int} {a7 : Int} {a8 : Int} {a9 : Int} {a10 : Int} (hsh : ShC S) (hk2 : AtRect S a2) (h : V_X2_cellsFrom_67 d S F G Q a1 a2 a3 a5 a7 a8 a9 a10) : Go d MX2_cellsFrom 67 [some (vR 2), some (vI a1), some (vR a2), some (vJ a3), none, some (vJ a5), none, some (vI a7), some (vI a8), some (vI a9), some (vI a10), none, none, none] [] S F G Q := by
  unfold V_X2_cellsFrom_67 at h
  refine go_iload (show decode cX2_cellsFrom 67 = .ok (.iload 10, 2) by decide +kernel) (by rfl) ?_
  refine go_iload (show decode cX2_cellsFrom 69 = .ok (.iload 9, 2) by decide +kernel) (by rfl) ?_
  obtain ⟨ht, hf⟩ := h
  refine go_icmpgt (tgt := 173) (show decode cX2_cellsFrom 71 = .ok (.if_icmp .gt 102, 3) by decide +kernel) (by decide) (fun hc => ?_) (fun hc => ?_)
  · have h := ht hc
    refine go_lload (show decode cX2_cellsFrom 173 = .ok (.lload 5, 2) by decide +kernel) (by rfl) ?_
    exact go_lret (show decode cX2_cellsFrom 175 = .ok (.lreturn, 1) by decide +kernel) rfl h
  · have h := hf hc
    refine go_lconst (n := 0) (show decode cX2_cellsFrom 74 = .ok (.lconst 0, 1) by decide +kernel) ?_
    show Go d MX2_cellsFrom 75 [some (vR 2), some (vI a1), some (vR a2), some (vJ a3), none, some (vJ a5), none, some (vI a7), some (vI a8), some (vI a9), some (vI a10), none, none, none] [vJ 0] S F G Q
    refine go_lstore (show decode cX2_cellsFrom 75 = .ok (.lstore 11, 2) by decide +kernel) (by decide) ?_
    show Go d MX2_cellsFrom 77 [some (vR 2), some (vI a1), some (vR a2), some (vJ a3), none, some (vJ a5), none, some (vI a7), some (vI a8), some (vI a9), some (vI a10), some (vJ 0), none, none] [] S F G Q
    refine go_iload (show decode cX2_cellsFrom 77 = .ok (.iload 7, 2) by decide +kernel) (by rfl) ?_
    refine go_istore (show decode cX2_cellsFrom 79 = .ok (.istore 13, 2) by decide +kernel) (by decide) ?_
    show Go d MX2_cellsFrom 81 [some (vR 2), some (vI a1), some (vR a2), some (vJ a3), none, some (vJ a5), none, some (vI a7), some (vI a8), some (vI a9), some (vI a10), some (vJ 0), none, some (vI a7)] [] S F G Q
    exact h
def V_X2_cellsFrom_0 (d : Nat) (S : AS) (F : AF) (G : AG) (Q : AQ) (a1 : Int) (a2 : Nat) (a3 : Int) : Prop :=
  (1 ≤ d) ∧
  ∃ z6 : Int, Pu (d - 1) MX1_bandOf [vR 4, vI (F a2 0)] S F G (some (vI z6)) ∧
  ∃ z12 : Int, Pu (d - 1) MX1_bandOf [vR 4, vI (F a2 2)] S F G (some (vI z12)) ∧
  ∃ z18 : Int, Pu (d - 1) MX1_bandOf [vR 11, vI (F a2 3)] S F G (some (vI z18)) ∧
  ∃ z24 : Int, Pu (d - 1) MX1_bandOf [vR 11, vI (F a2 1)] S F G (some (vI z24)) ∧
  Go d MX2_cellsFrom 67 [some (vR 2), some (vI a1), some (vR a2), some (vJ a3), none, some (vJ 0), none, some (vI z6), some (vI z12), some (vI z18), some (vI z24), none, none, none] [] S F G Q
theorem R_X2_cellsFrom_0 {d : Nat} {S : AS} {F : AF} {G : AG} {Q : AQ} {a1 : Int} {a2 : Nat} {a3 : Int} (hsh : ShC S) (hk2 : AtRect S a2) (h : V_X2_cellsFrom_0 d S F G Q a1 a2 a3) : Go d MX2_cellsFrom 0 [some (vR 2), some (vI a1), some (vR a2), some (vJ a3), none, none, none, none, none, none, none, none, none, none] [] S F G Q := by
  unfold V_X2_cellsFrom_0 at h
  refine go_lconst (n := 0) (show decode cX2_cellsFrom 0 = .ok (.lconst 0, 1) by decide +kernel) ?_
  show Go d MX2_cellsFrom 1 [some (vR 2), some (vI a1), some (vR a2), some (vJ a3), none, none, none, none, none, none, none, none, none, none] [vJ 0] S F G Q
  refine go_lstore (show decode cX2_cellsFrom 1 = .ok (.lstore 5, 2) by decide +kernel) (by decide) ?_
  show Go d MX2_cellsFrom 3 [some (vR 2), some (vI a1), some (vR a2), some (vJ a3), none, some (vJ 0), none, none, none, none, none, none, none, none] [] S F G Q
  refine go_aload_n (show decode cX2_cellsFrom 3 = .ok (.aload_n 0, 1) by decide +kernel) (by rfl) ?_
  refine go_getRc (show decode cX2_cellsFrom 4 = .ok (.getfield 12, 3) by decide +kernel) fl_X2_12 rfl (shc_k hsh 2 (by decide) (by decide)) (v := 3) (shc_r hsh 2 0 (by decide) (by decide) (by decide)) ?_
  refine go_getRc (show decode cX2_cellsFrom 7 = .ok (.getfield 90, 3) by decide +kernel) fl_X2_90 rfl (shc_k hsh 3 (by decide) (by decide)) (v := 4) (shc_r hsh 3 0 (by decide) (by decide) (by decide)) ?_
  refine go_aload_n (show decode cX2_cellsFrom 10 = .ok (.aload_n 2, 1) by decide +kernel) (by rfl) ?_
  refine go_getI (show decode cX2_cellsFrom 11 = .ok (.getfield 74, 3) by decide +kernel) fl_X2_74 (Or.inl rfl) hk2 ?_
  obtain ⟨q1, h⟩ := h
  obtain ⟨z6, p7, h⟩ := h
  refine go_callV (d2 := d - 1) (M2 := MX1_bandOf) (n := 1) (ci := 1) (av := [vI (F a2 0)]) (st := []) (show decode cX2_cellsFrom 14 = .ok (.invokevirtual 99, 3) by decide +kernel) ml_X2_99 mt_X1_bandOf min_X1_bandOf mse_X1_bandOf (by decide) (shc_k hsh 4 (by decide) (by decide)) rfl (Nat.le_of_ble_eq_true rfl) (by omega) (ok_mono p7 (fun w2 S3 F4 G5 e9 => ?_))
  obtain ⟨e1, e2, e3, e4⟩ := e9
  subst e1
  replace e2 := e2.symm; subst e2
  replace e3 := e3.symm; subst e3
  replace e4 := e4.symm; subst e4
  show Go d MX2_cellsFrom 17 [some (vR 2), some (vI a1), some (vR a2), some (vJ a3), none, some (vJ 0), none, none, none, none, none, none, none, none] [vI z6] S F G Q
  refine go_istore (show decode cX2_cellsFrom 17 = .ok (.istore 7, 2) by decide +kernel) (by decide) ?_
  show Go d MX2_cellsFrom 19 [some (vR 2), some (vI a1), some (vR a2), some (vJ a3), none, some (vJ 0), none, some (vI z6), none, none, none, none, none, none] [] S F G Q
  refine go_aload_n (show decode cX2_cellsFrom 19 = .ok (.aload_n 0, 1) by decide +kernel) (by rfl) ?_
  refine go_getRc (show decode cX2_cellsFrom 20 = .ok (.getfield 12, 3) by decide +kernel) fl_X2_12 rfl (shc_k hsh 2 (by decide) (by decide)) (v := 3) (shc_r hsh 2 0 (by decide) (by decide) (by decide)) ?_
  refine go_getRc (show decode cX2_cellsFrom 23 = .ok (.getfield 90, 3) by decide +kernel) fl_X2_90 rfl (shc_k hsh 3 (by decide) (by decide)) (v := 4) (shc_r hsh 3 0 (by decide) (by decide) (by decide)) ?_
  refine go_aload_n (show decode cX2_cellsFrom 26 = .ok (.aload_n 2, 1) by decide +kernel) (by rfl) ?_
  refine go_getI (show decode cX2_cellsFrom 27 = .ok (.getfield 77, 3) by decide +kernel) fl_X2_77 (Or.inl rfl) hk2 ?_
  obtain ⟨z12, p13, h⟩ := h
  refine go_callV (d2 := d - 1) (M2 := MX1_bandOf) (n := 1) (ci := 1) (av := [vI (F a2 2)]) (st := []) (show decode cX2_cellsFrom 30 = .ok (.invokevirtual 99, 3) by decide +kernel) ml_X2_99 mt_X1_bandOf min_X1_bandOf mse_X1_bandOf (by decide) (shc_k hsh 4 (by decide) (by decide)) rfl (Nat.le_of_ble_eq_true rfl) (by omega) (ok_mono p13 (fun w8 S9 F10 G11 e9 => ?_))
  obtain ⟨e1, e2, e3, e4⟩ := e9
  subst e1
  replace e2 := e2.symm; subst e2
  replace e3 := e3.symm; subst e3
  replace e4 := e4.symm; subst e4
  show Go d MX2_cellsFrom 33 [some (vR 2), some (vI a1), some (vR a2), some (vJ a3), none, some (vJ 0), none, some (vI z6), none, none, none, none, none, none] [vI z12] S F G Q
  refine go_istore (show decode cX2_cellsFrom 33 = .ok (.istore 8, 2) by decide +kernel) (by decide) ?_
  show Go d MX2_cellsFrom 35 [some (vR 2), some (vI a1), some (vR a2), some (vJ a3), none, some (vJ 0), none, some (vI z6), some (vI z12), none, none, none, none, none] [] S F G Q
  refine go_aload_n (show decode cX2_cellsFrom 35 = .ok (.aload_n 0, 1) by decide +kernel) (by rfl) ?_
  refine go_getRc (show decode cX2_cellsFrom 36 = .ok (.getfield 18, 3) by decide +kernel) fl_X2_18 rfl (shc_k hsh 2 (by decide) (by decide)) (v := 10) (shc_r hsh 2 1 (by decide) (by decide) (by decide)) ?_
  refine go_getRc (show decode cX2_cellsFrom 39 = .ok (.getfield 90, 3) by decide +kernel) fl_X2_90 rfl (shc_k hsh 10 (by decide) (by decide)) (v := 11) (shc_r hsh 10 0 (by decide) (by decide) (by decide)) ?_
  refine go_aload_n (show decode cX2_cellsFrom 42 = .ok (.aload_n 2, 1) by decide +kernel) (by rfl) ?_
  refine go_getI (show decode cX2_cellsFrom 43 = .ok (.getfield 83, 3) by decide +kernel) fl_X2_83 (Or.inl rfl) hk2 ?_
  obtain ⟨z18, p19, h⟩ := h
  refine go_callV (d2 := d - 1) (M2 := MX1_bandOf) (n := 1) (ci := 1) (av := [vI (F a2 3)]) (st := []) (show decode cX2_cellsFrom 46 = .ok (.invokevirtual 99, 3) by decide +kernel) ml_X2_99 mt_X1_bandOf min_X1_bandOf mse_X1_bandOf (by decide) (shc_k hsh 11 (by decide) (by decide)) rfl (Nat.le_of_ble_eq_true rfl) (by omega) (ok_mono p19 (fun w14 S15 F16 G17 e9 => ?_))
  obtain ⟨e1, e2, e3, e4⟩ := e9
  subst e1
  replace e2 := e2.symm; subst e2
  replace e3 := e3.symm; subst e3
  replace e4 := e4.symm; subst e4
  show Go d MX2_cellsFrom 49 [some (vR 2), some (vI a1), some (vR a2), some (vJ a3), none, some (vJ 0), none, some (vI z6), some (vI z12), none, none, none, none, none] [vI z18] S F G Q
  refine go_istore (show decode cX2_cellsFrom 49 = .ok (.istore 9, 2) by decide +kernel) (by decide) ?_
  show Go d MX2_cellsFrom 51 [some (vR 2), some (vI a1), some (vR a2), some (vJ a3), none, some (vJ 0), none, some (vI z6), some (vI z12), some (vI z18), none, none, none, none] [] S F G Q
  refine go_aload_n (show decode cX2_cellsFrom 51 = .ok (.aload_n 0, 1) by decide +kernel) (by rfl) ?_
  refine go_getRc (show decode cX2_cellsFrom 52 = .ok (.getfield 18, 3) by decide +kernel) fl_X2_18 rfl (shc_k hsh 2 (by decide) (by decide)) (v := 10) (shc_r hsh 2 1 (by decide) (by decide) (by decide)) ?_
  refine go_getRc (show decode cX2_cellsFrom 55 = .ok (.getfield 90, 3) by decide +kernel) fl_X2_90 rfl (shc_k hsh 10 (by decide) (by decide)) (v := 11) (shc_r hsh 10 0 (by decide) (by decide) (by decide)) ?_
  refine go_aload_n (show decode cX2_cellsFrom 58 = .ok (.aload_n 2, 1) by decide +kernel) (by rfl) ?_
  refine go_getI (show decode cX2_cellsFrom 59 = .ok (.getfield 80, 3) by decide +kernel) fl_X2_80 (Or.inl rfl) hk2 ?_
  obtain ⟨z24, p25, h⟩ := h
  refine go_callV (d2 := d - 1) (M2 := MX1_bandOf) (n := 1) (ci := 1) (av := [vI (F a2 1)]) (st := []) (show decode cX2_cellsFrom 62 = .ok (.invokevirtual 99, 3) by decide +kernel) ml_X2_99 mt_X1_bandOf min_X1_bandOf mse_X1_bandOf (by decide) (shc_k hsh 11 (by decide) (by decide)) rfl (Nat.le_of_ble_eq_true rfl) (by omega) (ok_mono p25 (fun w20 S21 F22 G23 e9 => ?_))
  obtain ⟨e1, e2, e3, e4⟩ := e9
  subst e1
  replace e2 := e2.symm; subst e2
  replace e3 := e3.symm; subst e3
  replace e4 := e4.symm; subst e4
  show Go d MX2_cellsFrom 65 [some (vR 2), some (vI a1), some (vR a2), some (vJ a3), none, some (vJ 0), none, some (vI z6), some (vI z12), some (vI z18), none, none, none, none] [vI z24] S F G Q
  refine go_istore (show decode cX2_cellsFrom 65 = .ok (.istore 10, 2) by decide +kernel) (by decide) ?_
  show Go d MX2_cellsFrom 67 [some (vR 2), some (vI a1), some (vR a2), some (vJ a3), none, some (vJ 0), none, some (vI z6), some (vI z12), some (vI z18), some (vI z24), none, none, none] [] S F G Q
  exact h
def V_X2_valueOfRank_85 (d : Nat) (S : AS) (F : AF) (G : AG) (Q : AQ) (a1 : Int) (a2 : Nat) (a3 : Int) (a5 : Int) (a7 : Int) (a9 : Int) (a11 : Int) (a12 : Int) : Prop :=
  (r32 (a11 + 1)) ∧
  Go d MX2_valueOfRank 25 [some (vR 2), some (vI a1), some (vR a2), some (vJ a3), none, some (vJ a5), none, some (vJ a7), none, some (vJ a9), none, some (vI (a11 + 1)), none, none] [] S F G Q
theorem R_X2_valueOfRank_85 {d : Nat} {S : AS} {F : AF} {G : AG} {Q : AQ} {a1 : Int} {a2 : Nat} {a3 : Int} {a5 : Int} {a7 : Int} {a9 : Int} {a11 : Int} {a12 : Int} (hsh : ShC S) (hk2 : AtRect S a2) (h : V_X2_valueOfRank_85 d S F G Q a1 a2 a3 a5 a7 a9 a11 a12) : Go d MX2_valueOfRank 85 [some (vR 2), some (vI a1), some (vR a2), some (vJ a3), none, some (vJ a5), none, some (vJ a7), none, some (vJ a9), none, some (vI a11), some (vJ a12), none] [] S F G Q := by
  unfold V_X2_valueOfRank_85 at h
  obtain ⟨q1, h⟩ := h
  refine go_iinc (show decode cX2_valueOfRank 85 = .ok (.iinc 11 1, 3) by decide +kernel) (by rfl) q1 (by decide) ?_
  show Go d MX2_valueOfRank 88 [some (vR 2), some (vI a1), some (vR a2), some (vJ a3), none, some (vJ a5), none, some (vJ a7), none, some (vJ a9), none, some (vI (a11 + 1)), some (vJ a12), none] [] S F G Q
  refine go_goto (tgt := 25) (show decode cX2_valueOfRank 88 = .ok (.goto (-63), 3) by decide +kernel) (by decide) ?_
  refine go_clr 12 ?_
  exact h
def V_X2_valueOfRank_25 (d : Nat) (S : AS) (F : AF) (G : AG) (Q : AQ) (a1 : Int) (a2 : Nat) (a3 : Int) (a5 : Int) (a7 : Int) (a9 : Int) (a11 : Int) : Prop :=
  ((64 ≤ a11) →
    Q (some (vJ a5)) S F G) ∧
  ((¬ 64 ≤ a11) →
    ((a7 ≤ a5) →
      Q (some (vJ a5)) S F G) ∧
    ((¬ a7 ≤ a5) →
      (r64 (a7 - a5)) ∧
      (r64 (Int.tdiv (a7 - a5) 2)) ∧
      (r64 (a5 + (Int.tdiv (a7 - a5) 2))) ∧
      ∀ x4 : Int, x4 = a5 + (Int.tdiv (a7 - a5) 2) →
      (r64 (x4 + 1)) ∧
      (1 ≤ d) ∧
      ∃ z11 : Int, Pu (d - 1) MX2_cellsFrom [vR 2, vI a1, vR a2, vJ (x4 + 1)] S F G (some (vJ z11)) ∧
      (r64 (a9 - z11)) ∧
      ((a9 - z11 < a3) →
        ∀ x14 : Int, x14 = x4 + 1 →
        V_X2_valueOfRank_85 d S F G Q a1 a2 a3 x14 a7 a9 a11 x4) ∧
      ((¬ a9 - z11 < a3) →
        V_X2_valueOfRank_85 d S F G Q a1 a2 a3 a5 x4 a9 a11 x4)))
theorem R_X2_valueOfRank_25 {d : Nat} {S : AS} {F : AF} {G : AG} {Q : AQ} {a1 : Int} {a2 : Nat} {a3 : Int} {a5 : Int} {a7 : Int} {a9 : Int} {a11 : Int} (hsh : ShC S) (hk2 : AtRect S a2) (h : V_X2_valueOfRank_25 d S F G Q a1 a2 a3 a5 a7 a9 a11) : Go d MX2_valueOfRank 25 [some (vR 2), some (vI a1), some (vR a2), some (vJ a3), none, some (vJ a5), none, some (vJ a7), none, some (vJ a9), none, some (vI a11), none, none] [] S F G Q := by
  unfold V_X2_valueOfRank_25 at h
  refine go_iload (show decode cX2_valueOfRank 25 = .ok (.iload 11, 2) by decide +kernel) (by rfl) ?_
  refine go_bipush (show decode cX2_valueOfRank 27 = .ok (.bipush 64, 2) by decide +kernel) (by decide) ?_
  obtain ⟨ht, hf⟩ := h
  refine go_icmpge (tgt := 91) (show decode cX2_valueOfRank 29 = .ok (.if_icmp .ge 62, 3) by decide +kernel) (by decide) (fun hc => ?_) (fun hc => ?_)
  · have h := ht hc
    refine go_lload (show decode cX2_valueOfRank 91 = .ok (.lload 5, 2) by decide +kernel) (by rfl) ?_
    exact go_lret (show decode cX2_valueOfRank 93 = .ok (.lreturn, 1) by decide +kernel) rfl h
  · have h := hf hc
    refine go_lload (show decode cX2_valueOfRank 32 = .ok (.lload 5, 2) by decide +kernel) (by rfl) ?_
    refine go_lload (show decode cX2_valueOfRank 34 = .ok (.lload 7, 2) by decide +kernel) (by rfl) ?_
    obtain ⟨ht, hf⟩ := h
    refine go_jge (tgt := 91) (show decode cX2_valueOfRank 36 = .ok (.lcmp, 1) by decide +kernel) (show decode cX2_valueOfRank 37 = .ok (.ifCond .ge 54, 3) by decide +kernel) (by decide) (fun hc => ?_) (fun hc => ?_)
    · have h := ht hc
      refine go_lload (show decode cX2_valueOfRank 91 = .ok (.lload 5, 2) by decide +kernel) (by rfl) ?_
      exact go_lret (show decode cX2_valueOfRank 93 = .ok (.lreturn, 1) by decide +kernel) rfl h
    · have h := hf hc
      refine go_lload (show decode cX2_valueOfRank 40 = .ok (.lload 5, 2) by decide +kernel) (by rfl) ?_
      refine go_lload (show decode cX2_valueOfRank 42 = .ok (.lload 7, 2) by decide +kernel) (by rfl) ?_
      refine go_lload (show decode cX2_valueOfRank 44 = .ok (.lload 5, 2) by decide +kernel) (by rfl) ?_
      obtain ⟨q1, h⟩ := h
      refine go_lsub (show decode cX2_valueOfRank 46 = .ok (.lsub, 1) by decide +kernel) q1 ?_
      refine go_ldc2 (show decode cX2_valueOfRank 47 = .ok (.ldc2_w 135, 3) by decide +kernel) lc_X2_135 (by decide) ?_
      obtain ⟨q2, h⟩ := h
      refine go_ldiv (show decode cX2_valueOfRank 50 = .ok (.ldiv, 1) by decide +kernel) (by decide) q2 ?_
      obtain ⟨q3, h⟩ := h
      refine go_ladd (show decode cX2_valueOfRank 51 = .ok (.ladd, 1) by decide +kernel) q3 ?_
      obtain ⟨x4, x4e⟩ : ∃ x4 : Int, x4 = a5 + (Int.tdiv (a7 - a5) 2) := ⟨_, rfl⟩
      have h := h x4 x4e
      rw [← x4e]
      refine go_lstore (show decode cX2_valueOfRank 52 = .ok (.lstore 12, 2) by decide +kernel) (by decide) ?_
      show Go d MX2_valueOfRank 54 [some (vR 2), some (vI a1), some (vR a2), some (vJ a3), none, some (vJ a5), none, some (vJ a7), none, some (vJ a9), none, some (vI a11), some (vJ x4), none] [] S F G Q
      refine go_lload (show decode cX2_valueOfRank 54 = .ok (.lload 9, 2) by decide +kernel) (by rfl) ?_
      refine go_aload_n (show decode cX2_valueOfRank 56 = .ok (.aload_n 0, 1) by decide +kernel) (by rfl) ?_
      refine go_iload_n (show decode cX2_valueOfRank 57 = .ok (.iload_n 1, 1) by decide +kernel) (by rfl) ?_
      refine go_aload_n (show decode cX2_valueOfRank 58 = .ok (.aload_n 2, 1) by decide +kernel) (by rfl) ?_
      refine go_lload (show decode cX2_valueOfRank 59 = .ok (.lload 12, 2) by decide +kernel) (by rfl) ?_
      refine go_lconst (n := 1) (show decode cX2_valueOfRank 61 = .ok (.lconst 1, 1) by decide +kernel) ?_
      show Go d MX2_valueOfRank 62 [some (vR 2), some (vI a1), some (vR a2), some (vJ a3), none, some (vJ a5), none, some (vJ a7), none, some (vJ a9), none, some (vI a11), some (vJ x4), none] [vJ 1, vJ x4, vR a2, vI a1, vR 2, vJ a9] S F G Q
      obtain ⟨q5, h⟩ := h
      refine go_ladd (show decode cX2_valueOfRank 62 = .ok (.ladd, 1) by decide +kernel) q5 ?_
      obtain ⟨q6, h⟩ := h
      obtain ⟨z11, p12, h⟩ := h
      refine go_callV (d2 := d - 1) (M2 := MX2_cellsFrom) (n := 3) (ci := 2) (av := [vI a1, vR a2, vJ (x4 + 1)]) (st := [vJ a9]) (show decode cX2_valueOfRank 63 = .ok (.invokevirtual 137, 3) by decide +kernel) ml_X2_137 mt_X2_cellsFrom min_X2_cellsFrom mse_X2_cellsFrom (by decide) (shc_k hsh 2 (by decide) (by decide)) rfl (Nat.le_of_ble_eq_true rfl) (by omega) (ok_mono p12 (fun w7 S8 F9 G10 e9 => ?_))
      obtain ⟨e1, e2, e3, e4⟩ := e9
      subst e1
      replace e2 := e2.symm; subst e2
      replace e3 := e3.symm; subst e3
      replace e4 := e4.symm; subst e4
      show Go d MX2_valueOfRank 66 [some (vR 2), some (vI a1), some (vR a2), some (vJ a3), none, some (vJ a5), none, some (vJ a7), none, some (vJ a9), none, some (vI a11), some (vJ x4), none] [vJ z11, vJ a9] S F G Q
      obtain ⟨q13, h⟩ := h
      refine go_lsub (show decode cX2_valueOfRank 66 = .ok (.lsub, 1) by decide +kernel) q13 ?_
      refine go_lload_n (show decode cX2_valueOfRank 67 = .ok (.lload_n 3, 1) by decide +kernel) (by rfl) ?_
      obtain ⟨ht, hf⟩ := h
      refine go_jlt (tgt := 79) (show decode cX2_valueOfRank 68 = .ok (.lcmp, 1) by decide +kernel) (show decode cX2_valueOfRank 69 = .ok (.ifCond .lt 10, 3) by decide +kernel) (by decide) (fun hc => ?_) (fun hc => ?_)
      · have h := ht hc
        refine go_lload (show decode cX2_valueOfRank 79 = .ok (.lload 12, 2) by decide +kernel) (by rfl) ?_
        refine go_lconst (n := 1) (show decode cX2_valueOfRank 81 = .ok (.lconst 1, 1) by decide +kernel) ?_
        show Go d MX2_valueOfRank 82 [some (vR 2), some (vI a1), some (vR a2), some (vJ a3), none, some (vJ a5), none, some (vJ a7), none, some (vJ a9), none, some (vI a11), some (vJ x4), none] [vJ 1, vJ x4] S F G Q
        refine go_ladd (show decode cX2_valueOfRank 82 = .ok (.ladd, 1) by decide +kernel) q5 ?_
        obtain ⟨x14, x14e⟩ : ∃ x14 : Int, x14 = x4 + 1 := ⟨_, rfl⟩
        have h := h x14 x14e
        rw [← x14e]
        refine go_lstore (show decode cX2_valueOfRank 83 = .ok (.lstore 5, 2) by decide +kernel) (by decide) ?_
        show Go d MX2_valueOfRank 85 [some (vR 2), some (vI a1), some (vR a2), some (vJ a3), none, some (vJ x14), none, some (vJ a7), none, some (vJ a9), none, some (vI a11), some (vJ x4), none] [] S F G Q
        exact R_X2_valueOfRank_85 hsh hk2 h
      · have h := hf hc
        refine go_lload (show decode cX2_valueOfRank 72 = .ok (.lload 12, 2) by decide +kernel) (by rfl) ?_
        refine go_lstore (show decode cX2_valueOfRank 74 = .ok (.lstore 7, 2) by decide +kernel) (by decide) ?_
        show Go d MX2_valueOfRank 76 [some (vR 2), some (vI a1), some (vR a2), some (vJ a3), none, some (vJ a5), none, some (vJ x4), none, some (vJ a9), none, some (vI a11), some (vJ x4), none] [] S F G Q
        refine go_goto (tgt := 85) (show decode cX2_valueOfRank 76 = .ok (.goto 9, 3) by decide +kernel) (by decide) ?_
        exact R_X2_valueOfRank_85 hsh hk2 h
def V_X2_valueOfRank_0 (d : Nat) (S : AS) (F : AF) (G : AG) (Q : AQ) (a1 : Int) (a2 : Nat) (a3 : Int) : Prop :=
  (1 ≤ d) ∧
  ∃ z6 : Int, Pu (d - 1) MX2_leastIn [vR 2, vI a1, vR a2] S F G (some (vJ z6)) ∧
  ∃ z12 : Int, Pu (d - 1) MX2_mostIn [vR 2, vI a1, vR a2] S F G (some (vJ z12)) ∧
  ∃ z18 : Int, Pu (d - 1) MX3_cells [vR a2] S F G (some (vJ z18)) ∧
  Go d MX2_valueOfRank 25 [some (vR 2), some (vI a1), some (vR a2), some (vJ a3), none, some (vJ z6), none, some (vJ z12), none, some (vJ z18), none, some (vI 0), none, none] [] S F G Q
theorem R_X2_valueOfRank_0 {d : Nat} {S : AS} {F : AF} {G : AG} {Q : AQ} {a1 : Int} {a2 : Nat} {a3 : Int} (hsh : ShC S) (hk2 : AtRect S a2) (h : V_X2_valueOfRank_0 d S F G Q a1 a2 a3) : Go d MX2_valueOfRank 0 [some (vR 2), some (vI a1), some (vR a2), some (vJ a3), none, none, none, none, none, none, none, none, none, none] [] S F G Q := by
  unfold V_X2_valueOfRank_0 at h
  refine go_aload_n (show decode cX2_valueOfRank 0 = .ok (.aload_n 0, 1) by decide +kernel) (by rfl) ?_
  refine go_iload_n (show decode cX2_valueOfRank 1 = .ok (.iload_n 1, 1) by decide +kernel) (by rfl) ?_
  refine go_aload_n (show decode cX2_valueOfRank 2 = .ok (.aload_n 2, 1) by decide +kernel) (by rfl) ?_
  obtain ⟨q1, h⟩ := h
  obtain ⟨z6, p7, h⟩ := h
  refine go_callV (d2 := d - 1) (M2 := MX2_leastIn) (n := 2) (ci := 2) (av := [vI a1, vR a2]) (st := []) (show decode cX2_valueOfRank 3 = .ok (.invokevirtual 124, 3) by decide +kernel) ml_X2_124 mt_X2_leastIn min_X2_leastIn mse_X2_leastIn (by decide) (shc_k hsh 2 (by decide) (by decide)) rfl (Nat.le_of_ble_eq_true rfl) (by omega) (ok_mono p7 (fun w2 S3 F4 G5 e9 => ?_))
  obtain ⟨e1, e2, e3, e4⟩ := e9
  subst e1
  replace e2 := e2.symm; subst e2
  replace e3 := e3.symm; subst e3
  replace e4 := e4.symm; subst e4
  show Go d MX2_valueOfRank 6 [some (vR 2), some (vI a1), some (vR a2), some (vJ a3), none, none, none, none, none, none, none, none, none, none] [vJ z6] S F G Q
  refine go_lstore (show decode cX2_valueOfRank 6 = .ok (.lstore 5, 2) by decide +kernel) (by decide) ?_
  show Go d MX2_valueOfRank 8 [some (vR 2), some (vI a1), some (vR a2), some (vJ a3), none, some (vJ z6), none, none, none, none, none, none, none, none] [] S F G Q
  refine go_aload_n (show decode cX2_valueOfRank 8 = .ok (.aload_n 0, 1) by decide +kernel) (by rfl) ?_
  refine go_iload_n (show decode cX2_valueOfRank 9 = .ok (.iload_n 1, 1) by decide +kernel) (by rfl) ?_
  refine go_aload_n (show decode cX2_valueOfRank 10 = .ok (.aload_n 2, 1) by decide +kernel) (by rfl) ?_
  obtain ⟨z12, p13, h⟩ := h
  refine go_callV (d2 := d - 1) (M2 := MX2_mostIn) (n := 2) (ci := 2) (av := [vI a1, vR a2]) (st := []) (show decode cX2_valueOfRank 11 = .ok (.invokevirtual 128, 3) by decide +kernel) ml_X2_128 mt_X2_mostIn min_X2_mostIn mse_X2_mostIn (by decide) (shc_k hsh 2 (by decide) (by decide)) rfl (Nat.le_of_ble_eq_true rfl) (by omega) (ok_mono p13 (fun w8 S9 F10 G11 e9 => ?_))
  obtain ⟨e1, e2, e3, e4⟩ := e9
  subst e1
  replace e2 := e2.symm; subst e2
  replace e3 := e3.symm; subst e3
  replace e4 := e4.symm; subst e4
  show Go d MX2_valueOfRank 14 [some (vR 2), some (vI a1), some (vR a2), some (vJ a3), none, some (vJ z6), none, none, none, none, none, none, none, none] [vJ z12] S F G Q
  refine go_lstore (show decode cX2_valueOfRank 14 = .ok (.lstore 7, 2) by decide +kernel) (by decide) ?_
  show Go d MX2_valueOfRank 16 [some (vR 2), some (vI a1), some (vR a2), some (vJ a3), none, some (vJ z6), none, some (vJ z12), none, none, none, none, none, none] [] S F G Q
  refine go_aload_n (show decode cX2_valueOfRank 16 = .ok (.aload_n 2, 1) by decide +kernel) (by rfl) ?_
  obtain ⟨z18, p19, h⟩ := h
  refine go_callV (d2 := d - 1) (M2 := MX3_cells) (n := 0) (ci := 3) (av := []) (st := []) (show decode cX2_valueOfRank 17 = .ok (.invokevirtual 131, 3) by decide +kernel) ml_X2_131 mt_X3_cells min_X3_cells mse_X3_cells (by decide) hk2 rfl (Nat.le_of_ble_eq_true rfl) (by omega) (ok_mono p19 (fun w14 S15 F16 G17 e9 => ?_))
  obtain ⟨e1, e2, e3, e4⟩ := e9
  subst e1
  replace e2 := e2.symm; subst e2
  replace e3 := e3.symm; subst e3
  replace e4 := e4.symm; subst e4
  show Go d MX2_valueOfRank 20 [some (vR 2), some (vI a1), some (vR a2), some (vJ a3), none, some (vJ z6), none, some (vJ z12), none, none, none, none, none, none] [vJ z18] S F G Q
  refine go_lstore (show decode cX2_valueOfRank 20 = .ok (.lstore 9, 2) by decide +kernel) (by decide) ?_
  show Go d MX2_valueOfRank 22 [some (vR 2), some (vI a1), some (vR a2), some (vJ a3), none, some (vJ z6), none, some (vJ z12), none, some (vJ z18), none, none, none, none] [] S F G Q
  refine go_iconst (show decode cX2_valueOfRank 22 = .ok (.iconst 0, 1) by decide +kernel) (by decide) ?_
  refine go_istore (show decode cX2_valueOfRank 23 = .ok (.istore 11, 2) by decide +kernel) (by decide) ?_
  show Go d MX2_valueOfRank 25 [some (vR 2), some (vI a1), some (vR a2), some (vJ a3), none, some (vJ z6), none, some (vJ z12), none, some (vJ z18), none, some (vI 0), none, none] [] S F G Q
  exact h
def V_X2_sumWhenSaved_0 (d : Nat) (S : AS) (F : AF) (G : AG) (Q : AQ) (a1 : Nat) (a2 : Int) (a3 : Nat) : Prop :=
  (AtSaved S a1) ∧
  (r32 (a2 * 2304)) ∧
  (1 ≤ d) ∧
  ∃ z8 : Int, Pu (d - 1) MX2_sumBy [vR 2, vR 4, vR 11, vR (a1 + 1), vI (a2 * 2304), vR a3] S F G (some (vJ z8)) ∧
  Q (some (vJ z8)) S F G
theorem R_X2_sumWhenSaved_0 {d : Nat} {S : AS} {F : AF} {G : AG} {Q : AQ} {a1 : Nat} {a2 : Int} {a3 : Nat} (hsh : ShC S) (hk3 : AtRect S a3) (h : V_X2_sumWhenSaved_0 d S F G Q a1 a2 a3) : Go d MX2_sumWhenSaved 0 [some (vR 2), some (vR a1), some (vI a2), some (vR a3)] [] S F G Q := by
  unfold V_X2_sumWhenSaved_0 at h
  refine go_aload_n (show decode cX2_sumWhenSaved 0 = .ok (.aload_n 0, 1) by decide +kernel) (by rfl) ?_
  refine go_aload_n (show decode cX2_sumWhenSaved 1 = .ok (.aload_n 0, 1) by decide +kernel) (by rfl) ?_
  refine go_getRc (show decode cX2_sumWhenSaved 2 = .ok (.getfield 12, 3) by decide +kernel) fl_X2_12 rfl (shc_k hsh 2 (by decide) (by decide)) (v := 3) (shc_r hsh 2 0 (by decide) (by decide) (by decide)) ?_
  refine go_getRc (show decode cX2_sumWhenSaved 5 = .ok (.getfield 90, 3) by decide +kernel) fl_X2_90 rfl (shc_k hsh 3 (by decide) (by decide)) (v := 4) (shc_r hsh 3 0 (by decide) (by decide) (by decide)) ?_
  refine go_aload_n (show decode cX2_sumWhenSaved 8 = .ok (.aload_n 0, 1) by decide +kernel) (by rfl) ?_
  refine go_getRc (show decode cX2_sumWhenSaved 9 = .ok (.getfield 18, 3) by decide +kernel) fl_X2_18 rfl (shc_k hsh 2 (by decide) (by decide)) (v := 10) (shc_r hsh 2 1 (by decide) (by decide) (by decide)) ?_
  refine go_getRc (show decode cX2_sumWhenSaved 12 = .ok (.getfield 90, 3) by decide +kernel) fl_X2_90 rfl (shc_k hsh 10 (by decide) (by decide)) (v := 11) (shc_r hsh 10 0 (by decide) (by decide) (by decide)) ?_
  refine go_aload_n (show decode cX2_sumWhenSaved 15 = .ok (.aload_n 1, 1) by decide +kernel) (by rfl) ?_
  obtain ⟨q1, h⟩ := h
  refine go_getRc (show decode cX2_sumWhenSaved 16 = .ok (.getfield 98, 3) by decide +kernel) fl_X2_98 rfl q1.1 (v := (a1 + 1)) q1.2.1 ?_
  refine go_iload_n (show decode cX2_sumWhenSaved 19 = .ok (.iload_n 2, 1) by decide +kernel) (by rfl) ?_
  refine go_sipush (show decode cX2_sumWhenSaved 20 = .ok (.sipush 2304, 3) by decide +kernel) (by decide) ?_
  obtain ⟨q2, h⟩ := h
  refine go_imul (show decode cX2_sumWhenSaved 23 = .ok (.imul, 1) by decide +kernel) q2 ?_
  refine go_aload_n (show decode cX2_sumWhenSaved 24 = .ok (.aload_n 3, 1) by decide +kernel) (by rfl) ?_
  obtain ⟨q3, h⟩ := h
  obtain ⟨z8, p9, h⟩ := h
  refine go_callV (d2 := d - 1) (M2 := MX2_sumBy) (n := 5) (ci := 2) (av := [vR 4, vR 11, vR (a1 + 1), vI (a2 * 2304), vR a3]) (st := []) (show decode cX2_sumWhenSaved 25 = .ok (.invokevirtual 94, 3) by decide +kernel) ml_X2_94 mt_X2_sumBy min_X2_sumBy mse_X2_sumBy (by decide) (shc_k hsh 2 (by decide) (by decide)) rfl (Nat.le_of_ble_eq_true rfl) (by omega) (ok_mono p9 (fun w4 S5 F6 G7 e9 => ?_))
  obtain ⟨e1, e2, e3, e4⟩ := e9
  subst e1
  replace e2 := e2.symm; subst e2
  replace e3 := e3.symm; subst e3
  replace e4 := e4.symm; subst e4
  show Go d MX2_sumWhenSaved 28 [some (vR 2), some (vR a1), some (vI a2), some (vR a3)] [vJ z8] S F G Q
  exact go_lret (show decode cX2_sumWhenSaved 28 = .ok (.lreturn, 1) by decide +kernel) rfl h
def V_X2_axisOf_0 (d : Nat) (S : AS) (F : AF) (G : AG) (Q : AQ) (a1 : Int) : Prop :=
  ((¬ a1 = 0) →
    Q (some (vR 10)) S F G) ∧
  ((a1 = 0) →
    Q (some (vR 3)) S F G)
theorem R_X2_axisOf_0 {d : Nat} {S : AS} {F : AF} {G : AG} {Q : AQ} {a1 : Int} (hsh : ShC S) (h : V_X2_axisOf_0 d S F G Q a1) : Go d MX2_axisOf 0 [some (vR 2), some (vI a1)] [] S F G Q := by
  unfold V_X2_axisOf_0 at h
  refine go_iload_n (show decode cX2_axisOf 0 = .ok (.iload_n 1, 1) by decide +kernel) (by rfl) ?_
  obtain ⟨ht, hf⟩ := h
  refine go_ifne (tgt := 11) (show decode cX2_axisOf 1 = .ok (.ifCond .ne 10, 3) by decide +kernel) (by decide) (fun hc => ?_) (fun hc => ?_)
  · have h := ht hc
    refine go_aload_n (show decode cX2_axisOf 11 = .ok (.aload_n 0, 1) by decide +kernel) (by rfl) ?_
    refine go_getRc (show decode cX2_axisOf 12 = .ok (.getfield 18, 3) by decide +kernel) fl_X2_18 rfl (shc_k hsh 2 (by decide) (by decide)) (v := 10) (shc_r hsh 2 1 (by decide) (by decide) (by decide)) ?_
    exact go_aret (show decode cX2_axisOf 15 = .ok (.areturn, 1) by decide +kernel) rfl h
  · have h := hf hc
    refine go_aload_n (show decode cX2_axisOf 4 = .ok (.aload_n 0, 1) by decide +kernel) (by rfl) ?_
    refine go_getRc (show decode cX2_axisOf 5 = .ok (.getfield 12, 3) by decide +kernel) fl_X2_12 rfl (shc_k hsh 2 (by decide) (by decide)) (v := 3) (shc_r hsh 2 0 (by decide) (by decide) (by decide)) ?_
    refine go_goto (tgt := 15) (show decode cX2_axisOf 8 = .ok (.goto 7, 3) by decide +kernel) (by decide) ?_
    exact go_aret (show decode cX2_axisOf 15 = .ok (.areturn, 1) by decide +kernel) rfl h
set_option maxRecDepth 50000 in
def V_X7_init_83 (d : Nat) (S : AS) (F : AF) (G : AG) (Q : AQ) (a0 : Nat) : Prop :=
  (sn S < 999998) ∧
  ∀ x2 : Nat, x2 = sn S + 1 →
  ∀ S3 : AS, S3 = na S 20 97 97 →
  ∀ F4 : AF, F4 = nF S F →
  ∀ G5 : AG, G5 = nG S G →
  (sK S3 a0 = 7) ∧
  (x2 ≤ sn S3) ∧
  ∀ S8 : AS, S8 = ru S3 a0 16 x2 →
  Q none S8 F4 G5
set_option maxRecDepth 50000 in
theorem R_X7_init_83 {d : Nat} {S : AS} {F : AF} {G : AG} {Q : AQ} {a0 : Nat} (h : V_X7_init_83 d S F G Q a0) : Go d MX7_init 83 [some (vR a0)] [] S F G Q := by
  unfold V_X7_init_83 at h
  refine go_aload_n (show decode cX7_init 83 = .ok (.aload_n 0, 1) by decide +kernel) (by rfl) ?_
  refine go_bipush (show decode cX7_init 84 = .ok (.bipush 97, 2) by decide +kernel) (by decide) ?_
  obtain ⟨q1, h⟩ := h
  refine go_newa (K := 20) (show decode cX7_init 86 = .ok (.newarray .int, 2) by decide +kernel) rfl (by decide) ar_20 (by decide) (by decide) q1 ?_
  show Go d MX7_init 88 [some (vR a0)] [vR (sn S + 1), vR a0] (na S 20 97 97) (nF S F) (nG S G) Q
  obtain ⟨x2, x2e⟩ : ∃ x2 : Nat, x2 = sn S + 1 := ⟨_, rfl⟩
  have h := h x2 x2e
  rw [← x2e]
  obtain ⟨S3, S3e⟩ : ∃ S3 : AS, S3 = na S 20 97 97 := ⟨_, rfl⟩
  have h := h S3 S3e
  rw [← S3e]
  obtain ⟨F4, F4e⟩ : ∃ F4 : AF, F4 = nF S F := ⟨_, rfl⟩
  have h := h F4 F4e
  rw [← F4e]
  obtain ⟨G5, G5e⟩ : ∃ G5 : AG, G5 = nG S G := ⟨_, rfl⟩
  have h := h G5 G5e
  rw [← G5e]
  obtain ⟨q6, h⟩ := h
  obtain ⟨q7, h⟩ := h
  refine go_putR (show decode cX7_init 88 = .ok (.putfield 48, 3) by decide +kernel) fl_X7_48 rfl (Or.inr ⟨rfl, rfl⟩) q6 q7 ?_
  obtain ⟨S8, S8e⟩ : ∃ S8 : AS, S8 = ru S3 a0 16 x2 := ⟨_, rfl⟩
  have h := h S8 S8e
  rw [← S8e]
  exact go_vret (show decode cX7_init 91 = .ok (.return_, 1) by decide +kernel) rfl h
set_option maxRecDepth 50000 in
def V_X7_init_59 (d : Nat) (S : AS) (F : AF) (G : AG) (Q : AQ) (a0 : Nat) : Prop :=
  (sn S < 999998) ∧
  ∀ x2 : Nat, x2 = sn S + 1 →
  ∀ S3 : AS, S3 = na S 21 48 48 →
  ∀ F4 : AF, F4 = nF S F →
  ∀ G5 : AG, G5 = nG S G →
  (sK S3 a0 = 7) ∧
  (x2 ≤ sn S3) ∧
  ∀ S8 : AS, S8 = ru S3 a0 13 x2 →
  (sn S8 < 999998) ∧
  ∀ x10 : Nat, x10 = sn S8 + 1 →
  ∀ S11 : AS, S11 = na S8 21 48 48 →
  ∀ F12 : AF, F12 = nF S8 F4 →
  ∀ G13 : AG, G13 = nG S8 G5 →
  (sK S11 a0 = 7) ∧
  (x10 ≤ sn S11) ∧
  ∀ S16 : AS, S16 = ru S11 a0 14 x10 →
  (sn S16 < 999998) ∧
  ∀ x18 : Nat, x18 = sn S16 + 1 →
  ∀ S19 : AS, S19 = na S16 20 97 97 →
  ∀ F20 : AF, F20 = nF S16 F12 →
  ∀ G21 : AG, G21 = nG S16 G13 →
  (sK S19 a0 = 7) ∧
  (x18 ≤ sn S19) ∧
  ∀ S24 : AS, S24 = ru S19 a0 15 x18 →
  V_X7_init_83 d S24 F20 G21 Q a0
set_option maxRecDepth 50000 in
theorem R_X7_init_59 {d : Nat} {S : AS} {F : AF} {G : AG} {Q : AQ} {a0 : Nat} (h : V_X7_init_59 d S F G Q a0) : Go d MX7_init 59 [some (vR a0)] [] S F G Q := by
  unfold V_X7_init_59 at h
  refine go_aload_n (show decode cX7_init 59 = .ok (.aload_n 0, 1) by decide +kernel) (by rfl) ?_
  refine go_bipush (show decode cX7_init 60 = .ok (.bipush 48, 2) by decide +kernel) (by decide) ?_
  obtain ⟨q1, h⟩ := h
  refine go_newa (K := 21) (show decode cX7_init 62 = .ok (.newarray .long, 2) by decide +kernel) rfl (by decide) ar_21 (by decide) (by decide) q1 ?_
  show Go d MX7_init 64 [some (vR a0)] [vR (sn S + 1), vR a0] (na S 21 48 48) (nF S F) (nG S G) Q
  obtain ⟨x2, x2e⟩ : ∃ x2 : Nat, x2 = sn S + 1 := ⟨_, rfl⟩
  have h := h x2 x2e
  rw [← x2e]
  obtain ⟨S3, S3e⟩ : ∃ S3 : AS, S3 = na S 21 48 48 := ⟨_, rfl⟩
  have h := h S3 S3e
  rw [← S3e]
  obtain ⟨F4, F4e⟩ : ∃ F4 : AF, F4 = nF S F := ⟨_, rfl⟩
  have h := h F4 F4e
  rw [← F4e]
  obtain ⟨G5, G5e⟩ : ∃ G5 : AG, G5 = nG S G := ⟨_, rfl⟩
  have h := h G5 G5e
  rw [← G5e]
  obtain ⟨q6, h⟩ := h
  obtain ⟨q7, h⟩ := h
  refine go_putR (show decode cX7_init 64 = .ok (.putfield 39, 3) by decide +kernel) fl_X7_39 rfl (Or.inr ⟨rfl, rfl⟩) q6 q7 ?_
  obtain ⟨S8, S8e⟩ : ∃ S8 : AS, S8 = ru S3 a0 13 x2 := ⟨_, rfl⟩
  have h := h S8 S8e
  rw [← S8e]
  refine go_aload_n (show decode cX7_init 67 = .ok (.aload_n 0, 1) by decide +kernel) (by rfl) ?_
  refine go_bipush (show decode cX7_init 68 = .ok (.bipush 48, 2) by decide +kernel) (by decide) ?_
  obtain ⟨q9, h⟩ := h
  refine go_newa (K := 21) (show decode cX7_init 70 = .ok (.newarray .long, 2) by decide +kernel) rfl (by decide) ar_21 (by decide) (by decide) q9 ?_
  show Go d MX7_init 72 [some (vR a0)] [vR (sn S8 + 1), vR a0] (na S8 21 48 48) (nF S8 F4) (nG S8 G5) Q
  obtain ⟨x10, x10e⟩ : ∃ x10 : Nat, x10 = sn S8 + 1 := ⟨_, rfl⟩
  have h := h x10 x10e
  rw [← x10e]
  obtain ⟨S11, S11e⟩ : ∃ S11 : AS, S11 = na S8 21 48 48 := ⟨_, rfl⟩
  have h := h S11 S11e
  rw [← S11e]
  obtain ⟨F12, F12e⟩ : ∃ F12 : AF, F12 = nF S8 F4 := ⟨_, rfl⟩
  have h := h F12 F12e
  rw [← F12e]
  obtain ⟨G13, G13e⟩ : ∃ G13 : AG, G13 = nG S8 G5 := ⟨_, rfl⟩
  have h := h G13 G13e
  rw [← G13e]
  obtain ⟨q14, h⟩ := h
  obtain ⟨q15, h⟩ := h
  refine go_putR (show decode cX7_init 72 = .ok (.putfield 42, 3) by decide +kernel) fl_X7_42 rfl (Or.inr ⟨rfl, rfl⟩) q14 q15 ?_
  obtain ⟨S16, S16e⟩ : ∃ S16 : AS, S16 = ru S11 a0 14 x10 := ⟨_, rfl⟩
  have h := h S16 S16e
  rw [← S16e]
  refine go_aload_n (show decode cX7_init 75 = .ok (.aload_n 0, 1) by decide +kernel) (by rfl) ?_
  refine go_bipush (show decode cX7_init 76 = .ok (.bipush 97, 2) by decide +kernel) (by decide) ?_
  obtain ⟨q17, h⟩ := h
  refine go_newa (K := 20) (show decode cX7_init 78 = .ok (.newarray .int, 2) by decide +kernel) rfl (by decide) ar_20 (by decide) (by decide) q17 ?_
  show Go d MX7_init 80 [some (vR a0)] [vR (sn S16 + 1), vR a0] (na S16 20 97 97) (nF S16 F12) (nG S16 G13) Q
  obtain ⟨x18, x18e⟩ : ∃ x18 : Nat, x18 = sn S16 + 1 := ⟨_, rfl⟩
  have h := h x18 x18e
  rw [← x18e]
  obtain ⟨S19, S19e⟩ : ∃ S19 : AS, S19 = na S16 20 97 97 := ⟨_, rfl⟩
  have h := h S19 S19e
  rw [← S19e]
  obtain ⟨F20, F20e⟩ : ∃ F20 : AF, F20 = nF S16 F12 := ⟨_, rfl⟩
  have h := h F20 F20e
  rw [← F20e]
  obtain ⟨G21, G21e⟩ : ∃ G21 : AG, G21 = nG S16 G13 := ⟨_, rfl⟩
  have h := h G21 G21e
  rw [← G21e]
  obtain ⟨q22, h⟩ := h
  obtain ⟨q23, h⟩ := h
  refine go_putR (show decode cX7_init 80 = .ok (.putfield 45, 3) by decide +kernel) fl_X7_45 rfl (Or.inr ⟨rfl, rfl⟩) q22 q23 ?_
  obtain ⟨S24, S24e⟩ : ∃ S24 : AS, S24 = ru S19 a0 15 x18 := ⟨_, rfl⟩
  have h := h S24 S24e
  rw [← S24e]
  exact R_X7_init_83 h
set_option maxRecDepth 50000 in
def V_X7_init_34 (d : Nat) (S : AS) (F : AF) (G : AG) (Q : AQ) (a0 : Nat) : Prop :=
  (sn S < 999998) ∧
  ∀ x2 : Nat, x2 = sn S + 1 →
  ∀ S3 : AS, S3 = na S 20 48 48 →
  ∀ F4 : AF, F4 = nF S F →
  ∀ G5 : AG, G5 = nG S G →
  (sK S3 a0 = 7) ∧
  (x2 ≤ sn S3) ∧
  ∀ S8 : AS, S8 = ru S3 a0 10 x2 →
  (sn S8 < 999998) ∧
  ∀ x10 : Nat, x10 = sn S8 + 1 →
  ∀ S11 : AS, S11 = na S8 20 48 48 →
  ∀ F12 : AF, F12 = nF S8 F4 →
  ∀ G13 : AG, G13 = nG S8 G5 →
  (sK S11 a0 = 7) ∧
  (x10 ≤ sn S11) ∧
  ∀ S16 : AS, S16 = ru S11 a0 11 x10 →
  (sn S16 < 999998) ∧
  ∀ x18 : Nat, x18 = sn S16 + 1 →
  ∀ S19 : AS, S19 = na S16 21 2304 2304 →
  ∀ F20 : AF, F20 = nF S16 F12 →
  ∀ G21 : AG, G21 = nG S16 G13 →
  (sK S19 a0 = 7) ∧
  (x18 ≤ sn S19) ∧
  ∀ S24 : AS, S24 = ru S19 a0 12 x18 →
  V_X7_init_59 d S24 F20 G21 Q a0
set_option maxRecDepth 50000 in
theorem R_X7_init_34 {d : Nat} {S : AS} {F : AF} {G : AG} {Q : AQ} {a0 : Nat} (h : V_X7_init_34 d S F G Q a0) : Go d MX7_init 34 [some (vR a0)] [] S F G Q := by
  unfold V_X7_init_34 at h
  refine go_aload_n (show decode cX7_init 34 = .ok (.aload_n 0, 1) by decide +kernel) (by rfl) ?_
  refine go_bipush (show decode cX7_init 35 = .ok (.bipush 48, 2) by decide +kernel) (by decide) ?_
  obtain ⟨q1, h⟩ := h
  refine go_newa (K := 20) (show decode cX7_init 37 = .ok (.newarray .int, 2) by decide +kernel) rfl (by decide) ar_20 (by decide) (by decide) q1 ?_
  show Go d MX7_init 39 [some (vR a0)] [vR (sn S + 1), vR a0] (na S 20 48 48) (nF S F) (nG S G) Q
  obtain ⟨x2, x2e⟩ : ∃ x2 : Nat, x2 = sn S + 1 := ⟨_, rfl⟩
  have h := h x2 x2e
  rw [← x2e]
  obtain ⟨S3, S3e⟩ : ∃ S3 : AS, S3 = na S 20 48 48 := ⟨_, rfl⟩
  have h := h S3 S3e
  rw [← S3e]
  obtain ⟨F4, F4e⟩ : ∃ F4 : AF, F4 = nF S F := ⟨_, rfl⟩
  have h := h F4 F4e
  rw [← F4e]
  obtain ⟨G5, G5e⟩ : ∃ G5 : AG, G5 = nG S G := ⟨_, rfl⟩
  have h := h G5 G5e
  rw [← G5e]
  obtain ⟨q6, h⟩ := h
  obtain ⟨q7, h⟩ := h
  refine go_putR (show decode cX7_init 39 = .ok (.putfield 29, 3) by decide +kernel) fl_X7_29 rfl (Or.inr ⟨rfl, rfl⟩) q6 q7 ?_
  obtain ⟨S8, S8e⟩ : ∃ S8 : AS, S8 = ru S3 a0 10 x2 := ⟨_, rfl⟩
  have h := h S8 S8e
  rw [← S8e]
  refine go_aload_n (show decode cX7_init 42 = .ok (.aload_n 0, 1) by decide +kernel) (by rfl) ?_
  refine go_bipush (show decode cX7_init 43 = .ok (.bipush 48, 2) by decide +kernel) (by decide) ?_
  obtain ⟨q9, h⟩ := h
  refine go_newa (K := 20) (show decode cX7_init 45 = .ok (.newarray .int, 2) by decide +kernel) rfl (by decide) ar_20 (by decide) (by decide) q9 ?_
  show Go d MX7_init 47 [some (vR a0)] [vR (sn S8 + 1), vR a0] (na S8 20 48 48) (nF S8 F4) (nG S8 G5) Q
  obtain ⟨x10, x10e⟩ : ∃ x10 : Nat, x10 = sn S8 + 1 := ⟨_, rfl⟩
  have h := h x10 x10e
  rw [← x10e]
  obtain ⟨S11, S11e⟩ : ∃ S11 : AS, S11 = na S8 20 48 48 := ⟨_, rfl⟩
  have h := h S11 S11e
  rw [← S11e]
  obtain ⟨F12, F12e⟩ : ∃ F12 : AF, F12 = nF S8 F4 := ⟨_, rfl⟩
  have h := h F12 F12e
  rw [← F12e]
  obtain ⟨G13, G13e⟩ : ∃ G13 : AG, G13 = nG S8 G5 := ⟨_, rfl⟩
  have h := h G13 G13e
  rw [← G13e]
  obtain ⟨q14, h⟩ := h
  obtain ⟨q15, h⟩ := h
  refine go_putR (show decode cX7_init 47 = .ok (.putfield 32, 3) by decide +kernel) fl_X7_32 rfl (Or.inr ⟨rfl, rfl⟩) q14 q15 ?_
  obtain ⟨S16, S16e⟩ : ∃ S16 : AS, S16 = ru S11 a0 11 x10 := ⟨_, rfl⟩
  have h := h S16 S16e
  rw [← S16e]
  refine go_aload_n (show decode cX7_init 50 = .ok (.aload_n 0, 1) by decide +kernel) (by rfl) ?_
  refine go_sipush (show decode cX7_init 51 = .ok (.sipush 2304, 3) by decide +kernel) (by decide) ?_
  obtain ⟨q17, h⟩ := h
  refine go_newa (K := 21) (show decode cX7_init 54 = .ok (.newarray .long, 2) by decide +kernel) rfl (by decide) ar_21 (by decide) (by decide) q17 ?_
  show Go d MX7_init 56 [some (vR a0)] [vR (sn S16 + 1), vR a0] (na S16 21 2304 2304) (nF S16 F12) (nG S16 G13) Q
  obtain ⟨x18, x18e⟩ : ∃ x18 : Nat, x18 = sn S16 + 1 := ⟨_, rfl⟩
  have h := h x18 x18e
  rw [← x18e]
  obtain ⟨S19, S19e⟩ : ∃ S19 : AS, S19 = na S16 21 2304 2304 := ⟨_, rfl⟩
  have h := h S19 S19e
  rw [← S19e]
  obtain ⟨F20, F20e⟩ : ∃ F20 : AF, F20 = nF S16 F12 := ⟨_, rfl⟩
  have h := h F20 F20e
  rw [← F20e]
  obtain ⟨G21, G21e⟩ : ∃ G21 : AG, G21 = nG S16 G13 := ⟨_, rfl⟩
  have h := h G21 G21e
  rw [← G21e]
  obtain ⟨q22, h⟩ := h
  obtain ⟨q23, h⟩ := h
  refine go_putR (show decode cX7_init 56 = .ok (.putfield 35, 3) by decide +kernel) fl_X7_35 rfl (Or.inr ⟨rfl, rfl⟩) q22 q23 ?_
  obtain ⟨S24, S24e⟩ : ∃ S24 : AS, S24 = ru S19 a0 12 x18 := ⟨_, rfl⟩
  have h := h S24 S24e
  rw [← S24e]
  exact R_X7_init_59 h
set_option maxRecDepth 50000 in
def V_X7_init_0 (d : Nat) (S : AS) (F : AF) (G : AG) (Q : AQ) (a0 : Nat) : Prop :=
  (1 ≤ d) ∧
  (1 ≤ a0) ∧
  (sn S < 999998) ∧
  ∀ x4 : Nat, x4 = sn S + 1 →
  ∀ S5 : AS, S5 = na S 2 0 9 →
  ∀ F6 : AF, F6 = nF S F →
  ∀ G7 : AG, G7 = nG S G →
  (1 ≤ d) ∧
  (1 ≤ x4) ∧
  Ok (d - 1) MX2_init [vR x4] S5 F6 G7 (fun w9 S10 F11 G12 =>
  w9 = none ∧
  (sK S10 a0 = 7) ∧
  (x4 ≤ sn S10) ∧
  ∀ S16 : AS, S16 = ru S10 a0 0 x4 →
  (sn S16 < 999998) ∧
  ∀ x18 : Nat, x18 = sn S16 + 1 →
  ∀ S19 : AS, S19 = na S16 3 0 4 →
  ∀ F20 : AF, F20 = nF S16 F11 →
  ∀ G21 : AG, G21 = nG S16 G12 →
  (1 ≤ d) ∧
  (1 ≤ x18) ∧
  Ok (d - 1) MX3_init [vR x18] S19 F20 G21 (fun w23 S24 F25 G26 =>
  w23 = none ∧
  (sK S24 a0 = 7) ∧
  (x18 ≤ sn S24) ∧
  ∀ S30 : AS, S30 = ru S24 a0 1 x18 →
  (sn S30 < 999998) ∧
  ∀ x32 : Nat, x32 = sn S30 + 1 →
  ∀ S33 : AS, S33 = na S30 20 48 48 →
  ∀ F34 : AF, F34 = nF S30 F25 →
  ∀ G35 : AG, G35 = nG S30 G26 →
  (sK S33 a0 = 7) ∧
  (x32 ≤ sn S33) ∧
  ∀ S38 : AS, S38 = ru S33 a0 9 x32 →
  V_X7_init_34 d S38 F34 G35 Q a0))
set_option maxRecDepth 50000 in
theorem R_X7_init_0 {d : Nat} {S : AS} {F : AF} {G : AG} {Q : AQ} {a0 : Nat} (h : V_X7_init_0 d S F G Q a0) : Go d MX7_init 0 [some (vR a0)] [] S F G Q := by
  unfold V_X7_init_0 at h
  refine go_aload_n (show decode cX7_init 0 = .ok (.aload_n 0, 1) by decide +kernel) (by rfl) ?_
  obtain ⟨q1, h⟩ := h
  obtain ⟨q2, h⟩ := h
  refine go_objInit (show decode cX7_init 1 = .ok (.invokespecial 3, 3) by decide +kernel) ml_X7_3 oi_1 oi_2 q2 (Nat.le_of_ble_eq_true rfl) q1 ?_
  refine go_aload_n (show decode cX7_init 4 = .ok (.aload_n 0, 1) by decide +kernel) (by rfl) ?_
  obtain ⟨q3, h⟩ := h
  refine go_new (show decode cX7_init 5 = .ok (.new 9, 3) by decide +kernel) (by decide) cl_X7_9 ci_2 cz_2 q3 ?_
  show Go d MX7_init 8 [some (vR a0)] [vR (sn S + 1), vR a0] (na S 2 0 9) (nF S F) (nG S G) Q
  obtain ⟨x4, x4e⟩ : ∃ x4 : Nat, x4 = sn S + 1 := ⟨_, rfl⟩
  have h := h x4 x4e
  rw [← x4e]
  obtain ⟨S5, S5e⟩ : ∃ S5 : AS, S5 = na S 2 0 9 := ⟨_, rfl⟩
  have h := h S5 S5e
  rw [← S5e]
  obtain ⟨F6, F6e⟩ : ∃ F6 : AF, F6 = nF S F := ⟨_, rfl⟩
  have h := h F6 F6e
  rw [← F6e]
  obtain ⟨G7, G7e⟩ : ∃ G7 : AG, G7 = nG S G := ⟨_, rfl⟩
  have h := h G7 G7e
  rw [← G7e]
  refine go_dup (show decode cX7_init 8 = .ok (.dup, 1) by decide +kernel) ?_
  obtain ⟨q8, h⟩ := h
  obtain ⟨q13, h⟩ := h
  refine go_callI (d2 := d - 1) (M2 := MX2_init) (n := 0) (av := []) (st := [vR x4, vR a0]) (show decode cX7_init 9 = .ok (.invokespecial 11, 3) by decide +kernel) ml_X7_11 mt_X2_init rfl rfl min_X2_init q13 rfl (Nat.le_of_ble_eq_true rfl) (by omega) (ok_mono h (fun w9 S10 F11 G12 h => ?_))
  obtain ⟨e9, h⟩ := h
  subst e9
  show Go d MX7_init 12 [some (vR a0)] [vR x4, vR a0] S10 F11 G12 Q
  obtain ⟨q14, h⟩ := h
  obtain ⟨q15, h⟩ := h
  refine go_putR (show decode cX7_init 12 = .ok (.putfield 12, 3) by decide +kernel) fl_X7_12 rfl (Or.inr ⟨rfl, rfl⟩) q14 q15 ?_
  obtain ⟨S16, S16e⟩ : ∃ S16 : AS, S16 = ru S10 a0 0 x4 := ⟨_, rfl⟩
  have h := h S16 S16e
  rw [← S16e]
  refine go_aload_n (show decode cX7_init 15 = .ok (.aload_n 0, 1) by decide +kernel) (by rfl) ?_
  obtain ⟨q17, h⟩ := h
  refine go_new (show decode cX7_init 16 = .ok (.new 18, 3) by decide +kernel) (by decide) cl_X7_18 ci_3 cz_3 q17 ?_
  show Go d MX7_init 19 [some (vR a0)] [vR (sn S16 + 1), vR a0] (na S16 3 0 4) (nF S16 F11) (nG S16 G12) Q
  obtain ⟨x18, x18e⟩ : ∃ x18 : Nat, x18 = sn S16 + 1 := ⟨_, rfl⟩
  have h := h x18 x18e
  rw [← x18e]
  obtain ⟨S19, S19e⟩ : ∃ S19 : AS, S19 = na S16 3 0 4 := ⟨_, rfl⟩
  have h := h S19 S19e
  rw [← S19e]
  obtain ⟨F20, F20e⟩ : ∃ F20 : AF, F20 = nF S16 F11 := ⟨_, rfl⟩
  have h := h F20 F20e
  rw [← F20e]
  obtain ⟨G21, G21e⟩ : ∃ G21 : AG, G21 = nG S16 G12 := ⟨_, rfl⟩
  have h := h G21 G21e
  rw [← G21e]
  refine go_dup (show decode cX7_init 19 = .ok (.dup, 1) by decide +kernel) ?_
  obtain ⟨q22, h⟩ := h
  obtain ⟨q27, h⟩ := h
  refine go_callIN (d2 := d - 1) (M2 := MX3_init) (n := 0) (av := []) (st := [vR x18, vR a0]) (show decode cX7_init 20 = .ok (.invokespecial 20, 3) by decide +kernel) ml_X7_20 mt_X3_init rfl rfl min_X3_init q27 rfl (Nat.le_of_ble_eq_true rfl) (by omega) (ok_mono h (fun w23 S24 F25 G26 h => ?_))
  obtain ⟨e9, h⟩ := h
  subst e9
  show Go d MX7_init 23 [some (vR a0)] [vR x18, vR a0] S24 F25 G26 Q
  obtain ⟨q28, h⟩ := h
  obtain ⟨q29, h⟩ := h
  refine go_putR (show decode cX7_init 23 = .ok (.putfield 21, 3) by decide +kernel) fl_X7_21 rfl (Or.inr ⟨rfl, rfl⟩) q28 q29 ?_
  obtain ⟨S30, S30e⟩ : ∃ S30 : AS, S30 = ru S24 a0 1 x18 := ⟨_, rfl⟩
  have h := h S30 S30e
  rw [← S30e]
  refine go_aload_n (show decode cX7_init 26 = .ok (.aload_n 0, 1) by decide +kernel) (by rfl) ?_
  refine go_bipush (show decode cX7_init 27 = .ok (.bipush 48, 2) by decide +kernel) (by decide) ?_
  obtain ⟨q31, h⟩ := h
  refine go_newa (K := 20) (show decode cX7_init 29 = .ok (.newarray .int, 2) by decide +kernel) rfl (by decide) ar_20 (by decide) (by decide) q31 ?_
  show Go d MX7_init 31 [some (vR a0)] [vR (sn S30 + 1), vR a0] (na S30 20 48 48) (nF S30 F25) (nG S30 G26) Q
  obtain ⟨x32, x32e⟩ : ∃ x32 : Nat, x32 = sn S30 + 1 := ⟨_, rfl⟩
  have h := h x32 x32e
  rw [← x32e]
  obtain ⟨S33, S33e⟩ : ∃ S33 : AS, S33 = na S30 20 48 48 := ⟨_, rfl⟩
  have h := h S33 S33e
  rw [← S33e]
  obtain ⟨F34, F34e⟩ : ∃ F34 : AF, F34 = nF S30 F25 := ⟨_, rfl⟩
  have h := h F34 F34e
  rw [← F34e]
  obtain ⟨G35, G35e⟩ : ∃ G35 : AG, G35 = nG S30 G26 := ⟨_, rfl⟩
  have h := h G35 G35e
  rw [← G35e]
  obtain ⟨q36, h⟩ := h
  obtain ⟨q37, h⟩ := h
  refine go_putR (show decode cX7_init 31 = .ok (.putfield 25, 3) by decide +kernel) fl_X7_25 rfl (Or.inr ⟨rfl, rfl⟩) q36 q37 ?_
  obtain ⟨S38, S38e⟩ : ∃ S38 : AS, S38 = ru S33 a0 9 x32 := ⟨_, rfl⟩
  have h := h S38 S38e
  rw [← S38e]
  exact R_X7_init_34 h
def V_X7_locate_172 (d : Nat) (S : AS) (F : AF) (G : AG) (Q : AQ) (a1 : Int) (a2 : Int) (a3 : Nat) (a4 : Int) (a6 : Int) (a7 : Int) (a8 : Int) (a9 : Int) (a10 : Int) (a11 : Nat) (a12 : Int) (a13 : Int) (a15 : Int) (a16 : Int) : Prop :=
  (r64 ((F 34 2) * a16)) ∧
  (r64 (a13 - ((F 34 2) * a16))) ∧
  ∀ x3 : Int, x3 = a13 - ((F 34 2) * a16) →
  (r64 ((F 34 3) * a16)) ∧
  (r64 ((F 34 7) + ((F 34 3) * a16))) ∧
  ∀ F6 : AF, F6 = fu F 34 7 ((F 34 7) + ((F 34 3) * a16)) →
  (r32 (a15 + 1)) ∧
  Go d MX7_locate 117 [some (vR 34), some (vI a1), some (vI a2), some (vR a3), some (vJ a4), none, some (vI a6), some (vI a7), some (vI a8), some (vI a9), some (vI a10), some (vR a11), some (vI a12), some (vJ x3), none, some (vI (a15 + 1)), none, none, none, none] [] S F6 G Q
theorem R_X7_locate_172 {d : Nat} {S : AS} {F : AF} {G : AG} {Q : AQ} {a1 : Int} {a2 : Int} {a3 : Nat} {a4 : Int} {a6 : Int} {a7 : Int} {a8 : Int} {a9 : Int} {a10 : Int} {a11 : Nat} {a12 : Int} {a13 : Int} {a15 : Int} {a16 : Int} (hsh : ShC S) (hk3 : AtRect S a3) (hk11 : AtCuts S a11) (h : V_X7_locate_172 d S F G Q a1 a2 a3 a4 a6 a7 a8 a9 a10 a11 a12 a13 a15 a16) : Go d MX7_locate 172 [some (vR 34), some (vI a1), some (vI a2), some (vR a3), some (vJ a4), none, some (vI a6), some (vI a7), some (vI a8), some (vI a9), some (vI a10), some (vR a11), some (vI a12), some (vJ a13), none, some (vI a15), some (vJ a16), none, none, none] [] S F G Q := by
  unfold V_X7_locate_172 at h
  refine go_lload (show decode cX7_locate 172 = .ok (.lload 13, 2) by decide +kernel) (by rfl) ?_
  refine go_aload_n (show decode cX7_locate 174 = .ok (.aload_n 0, 1) by decide +kernel) (by rfl) ?_
  refine go_getJ (show decode cX7_locate 175 = .ok (.getfield 68, 3) by decide +kernel) fl_X7_68 rfl (shc_k hsh 34 (by decide) (by decide)) ?_
  refine go_lload (show decode cX7_locate 178 = .ok (.lload 16, 2) by decide +kernel) (by rfl) ?_
  obtain ⟨q1, h⟩ := h
  refine go_lmul (show decode cX7_locate 180 = .ok (.lmul, 1) by decide +kernel) q1 ?_
  obtain ⟨q2, h⟩ := h
  refine go_lsub (show decode cX7_locate 181 = .ok (.lsub, 1) by decide +kernel) q2 ?_
  obtain ⟨x3, x3e⟩ : ∃ x3 : Int, x3 = a13 - ((F 34 2) * a16) := ⟨_, rfl⟩
  have h := h x3 x3e
  rw [← x3e]
  refine go_lstore (show decode cX7_locate 182 = .ok (.lstore 13, 2) by decide +kernel) (by decide) ?_
  show Go d MX7_locate 184 [some (vR 34), some (vI a1), some (vI a2), some (vR a3), some (vJ a4), none, some (vI a6), some (vI a7), some (vI a8), some (vI a9), some (vI a10), some (vR a11), some (vI a12), some (vJ x3), none, some (vI a15), some (vJ a16), none, none, none] [] S F G Q
  refine go_aload_n (show decode cX7_locate 184 = .ok (.aload_n 0, 1) by decide +kernel) (by rfl) ?_
  refine go_dup (show decode cX7_locate 185 = .ok (.dup, 1) by decide +kernel) ?_
  refine go_getJ (show decode cX7_locate 186 = .ok (.getfield 115, 3) by decide +kernel) fl_X7_115 rfl (shc_k hsh 34 (by decide) (by decide)) ?_
  refine go_aload_n (show decode cX7_locate 189 = .ok (.aload_n 0, 1) by decide +kernel) (by rfl) ?_
  refine go_getJ (show decode cX7_locate 190 = .ok (.getfield 72, 3) by decide +kernel) fl_X7_72 rfl (shc_k hsh 34 (by decide) (by decide)) ?_
  refine go_lload (show decode cX7_locate 193 = .ok (.lload 16, 2) by decide +kernel) (by rfl) ?_
  obtain ⟨q4, h⟩ := h
  refine go_lmul (show decode cX7_locate 195 = .ok (.lmul, 1) by decide +kernel) q4 ?_
  obtain ⟨q5, h⟩ := h
  refine go_ladd (show decode cX7_locate 196 = .ok (.ladd, 1) by decide +kernel) q5 ?_
  refine go_putJ (show decode cX7_locate 197 = .ok (.putfield 115, 3) by decide +kernel) fl_X7_115 rfl (Or.inl rfl) (shc_k hsh 34 (by decide) (by decide)) ?_
  obtain ⟨F6, F6e⟩ : ∃ F6 : AF, F6 = fu F 34 7 ((F 34 7) + ((F 34 3) * a16)) := ⟨_, rfl⟩
  have h := h F6 F6e
  rw [← F6e]
  refine go_goto (tgt := 274) (show decode cX7_locate 200 = .ok (.goto 74, 3) by decide +kernel) (by decide) ?_
  obtain ⟨q7, h⟩ := h
  refine go_iinc (show decode cX7_locate 274 = .ok (.iinc 15 1, 3) by decide +kernel) (by rfl) q7 (by decide) ?_
  show Go d MX7_locate 277 [some (vR 34), some (vI a1), some (vI a2), some (vR a3), some (vJ a4), none, some (vI a6), some (vI a7), some (vI a8), some (vI a9), some (vI a10), some (vR a11), some (vI a12), some (vJ x3), none, some (vI (a15 + 1)), some (vJ a16), none, none, none] [] S F6 G Q
  refine go_goto (tgt := 117) (show decode cX7_locate 277 = .ok (.goto (-160), 3) by decide +kernel) (by decide) ?_
  refine go_clr 16 ?_
  exact h
def V_X7_locate_117 (d : Nat) (S : AS) (F : AF) (G : AG) (Q : AQ) (a1 : Int) (a2 : Int) (a3 : Nat) (a4 : Int) (a6 : Int) (a7 : Int) (a8 : Int) (a9 : Int) (a10 : Int) (a11 : Nat) (a12 : Int) (a13 : Int) (a15 : Int) : Prop :=
  ((a12 < a15) →
    Q (some (vI 0)) S F G) ∧
  ((¬ a12 < a15) →
    (1 ≤ d) ∧
    ∃ z6 : Int, Pu (d - 1) MX1_overlap [vR a11, vI a15, vI a7, vI a8] S F G (some (vI z6)) ∧
    Ok (d - 1) MX7_measure [vR 34, vI a1, vI a2, vI a15, vI a9, vI a10] S F G (fun w8 S9 F10 G11 =>
    S9 = S ∧
    w8 = none ∧
    ((F10 34 2 < 1) →
      V_X7_locate_172 d S F10 G11 Q a1 a2 a3 a4 a6 a7 a8 a9 a10 a11 a12 a13 a15 z6) ∧
    ((¬ F10 34 2 < 1) →
      (r64 ((F10 34 2) * z6)) ∧
      ((a13 ≤ (F10 34 2) * z6) →
        (r64 (a13 - 1)) ∧
        (¬ (F10 34 2) = 0) ∧
        (r64 (Int.tdiv (a13 - 1) (F10 34 2))) ∧
        ∀ x16 : Int, x16 = Int.tdiv (a13 - 1) (F10 34 2) →
        (r64 ((F10 34 3) * x16)) ∧
        (r64 ((F10 34 7) + ((F10 34 3) * x16))) ∧
        ∀ F19 : AF, F19 = fu F10 34 7 ((F10 34 7) + ((F10 34 3) * x16)) →
        ((0 : Int) ≤ a15) ∧
        ((a15 : Int) < 105) ∧
        (r64 ((max a7 (G11 (a11 + 1) a15)) + x16)) ∧
        (r32 ((max a7 (G11 (a11 + 1) a15)) + x16)) ∧
        Ok (d - 1) MX7_setOuter [vR 34, vI a2, vI ((max a7 (G11 (a11 + 1) a15)) + x16)] S F19 G11 (fun w24 S25 F26 G27 =>
        S25 = S ∧
        w24 = none ∧
        (r64 (x16 * (F26 34 2))) ∧
        (r64 (a13 - (x16 * (F26 34 2)))) ∧
        Ok (d - 1) MX7_locateInLine [vR 34, vI a1, vI a2, vI a15, vJ (a13 - (x16 * (F26 34 2))), vI a9] S F26 G27 (fun w30 S31 F32 G33 =>
        S31 = S ∧
        ∃ z34 : Int, w30 = some (vI z34) ∧
        (z34 = 0 ∨ z34 = 1) ∧
        Q (some (vI z34)) S F32 G33))) ∧
      ((¬ a13 ≤ (F10 34 2) * z6) →
        V_X7_locate_172 d S F10 G11 Q a1 a2 a3 a4 a6 a7 a8 a9 a10 a11 a12 a13 a15 z6))))
theorem R_X7_locate_117 {d : Nat} {S : AS} {F : AF} {G : AG} {Q : AQ} {a1 : Int} {a2 : Int} {a3 : Nat} {a4 : Int} {a6 : Int} {a7 : Int} {a8 : Int} {a9 : Int} {a10 : Int} {a11 : Nat} {a12 : Int} {a13 : Int} {a15 : Int} (hsh : ShC S) (hk3 : AtRect S a3) (hk11 : AtCuts S a11) (h : V_X7_locate_117 d S F G Q a1 a2 a3 a4 a6 a7 a8 a9 a10 a11 a12 a13 a15) : Go d MX7_locate 117 [some (vR 34), some (vI a1), some (vI a2), some (vR a3), some (vJ a4), none, some (vI a6), some (vI a7), some (vI a8), some (vI a9), some (vI a10), some (vR a11), some (vI a12), some (vJ a13), none, some (vI a15), none, none, none, none] [] S F G Q := by
  unfold V_X7_locate_117 at h
  refine go_iload (show decode cX7_locate 117 = .ok (.iload 15, 2) by decide +kernel) (by rfl) ?_
  refine go_iload (show decode cX7_locate 119 = .ok (.iload 12, 2) by decide +kernel) (by rfl) ?_
  obtain ⟨ht, hf⟩ := h
  refine go_icmpgt (tgt := 280) (show decode cX7_locate 121 = .ok (.if_icmp .gt 159, 3) by decide +kernel) (by decide) (fun hc => ?_) (fun hc => ?_)
  · have h := ht hc
    refine go_iconst (show decode cX7_locate 280 = .ok (.iconst 0, 1) by decide +kernel) (by decide) ?_
    exact go_zret (show decode cX7_locate 281 = .ok (.ireturn, 1) by decide +kernel) rfl (by decide) h
  · have h := hf hc
    refine go_aload (show decode cX7_locate 124 = .ok (.aload 11, 2) by decide +kernel) (by rfl) ?_
    refine go_iload (show decode cX7_locate 126 = .ok (.iload 15, 2) by decide +kernel) (by rfl) ?_
    refine go_iload (show decode cX7_locate 128 = .ok (.iload 7, 2) by decide +kernel) (by rfl) ?_
    refine go_iload (show decode cX7_locate 130 = .ok (.iload 8, 2) by decide +kernel) (by rfl) ?_
    obtain ⟨q1, h⟩ := h
    obtain ⟨z6, p7, h⟩ := h
    refine go_callV (d2 := d - 1) (M2 := MX1_overlap) (n := 3) (ci := 1) (av := [vI a15, vI a7, vI a8]) (st := []) (show decode cX7_locate 132 = .ok (.invokevirtual 89, 3) by decide +kernel) ml_X7_89 mt_X1_overlap min_X1_overlap mse_X1_overlap (by decide) hk11.1 rfl (Nat.le_of_ble_eq_true rfl) (by omega) (ok_mono p7 (fun w2 S3 F4 G5 e9 => ?_))
    obtain ⟨e1, e2, e3, e4⟩ := e9
    subst e1
    replace e2 := e2.symm; subst e2
    replace e3 := e3.symm; subst e3
    replace e4 := e4.symm; subst e4
    show Go d MX7_locate 135 [some (vR 34), some (vI a1), some (vI a2), some (vR a3), some (vJ a4), none, some (vI a6), some (vI a7), some (vI a8), some (vI a9), some (vI a10), some (vR a11), some (vI a12), some (vJ a13), none, some (vI a15), none, none, none, none] [vI z6] S F G Q
    refine go_i2l (show decode cX7_locate 135 = .ok (.i2l, 1) by decide +kernel) ?_
    refine go_lstore (show decode cX7_locate 136 = .ok (.lstore 16, 2) by decide +kernel) (by decide) ?_
    show Go d MX7_locate 138 [some (vR 34), some (vI a1), some (vI a2), some (vR a3), some (vJ a4), none, some (vI a6), some (vI a7), some (vI a8), some (vI a9), some (vI a10), some (vR a11), some (vI a12), some (vJ a13), none, some (vI a15), some (vJ z6), none, none, none] [] S F G Q
    refine go_aload_n (show decode cX7_locate 138 = .ok (.aload_n 0, 1) by decide +kernel) (by rfl) ?_
    refine go_iload_n (show decode cX7_locate 139 = .ok (.iload_n 1, 1) by decide +kernel) (by rfl) ?_
    refine go_iload_n (show decode cX7_locate 140 = .ok (.iload_n 2, 1) by decide +kernel) (by rfl) ?_
    refine go_iload (show decode cX7_locate 141 = .ok (.iload 15, 2) by decide +kernel) (by rfl) ?_
    refine go_iload (show decode cX7_locate 143 = .ok (.iload 9, 2) by decide +kernel) (by rfl) ?_
    refine go_iload (show decode cX7_locate 145 = .ok (.iload 10, 2) by decide +kernel) (by rfl) ?_
    refine go_callV (d2 := d - 1) (M2 := MX7_measure) (n := 5) (ci := 7) (av := [vI a1, vI a2, vI a15, vI a9, vI a10]) (st := []) (show decode cX7_locate 147 = .ok (.invokevirtual 96, 3) by decide +kernel) ml_X7_96 mt_X7_measure min_X7_measure mse_X7_measure (by decide) (shc_k hsh 34 (by decide) (by decide)) rfl (Nat.le_of_ble_eq_true rfl) (by omega) (ok_mono h (fun w8 S9 F10 G11 h => ?_))
    obtain ⟨e8, h⟩ := h
    replace e8 := e8.symm; subst e8
    obtain ⟨e9, h⟩ := h
    subst e9
    show Go d MX7_locate 150 [some (vR 34), some (vI a1), some (vI a2), some (vR a3), some (vJ a4), none, some (vI a6), some (vI a7), some (vI a8), some (vI a9), some (vI a10), some (vR a11), some (vI a12), some (vJ a13), none, some (vI a15), some (vJ z6), none, none, none] [] S F10 G11 Q
    refine go_aload_n (show decode cX7_locate 150 = .ok (.aload_n 0, 1) by decide +kernel) (by rfl) ?_
    refine go_getJ (show decode cX7_locate 151 = .ok (.getfield 68, 3) by decide +kernel) fl_X7_68 rfl (shc_k hsh 34 (by decide) (by decide)) ?_
    refine go_lconst (n := 1) (show decode cX7_locate 154 = .ok (.lconst 1, 1) by decide +kernel) ?_
    show Go d MX7_locate 155 [some (vR 34), some (vI a1), some (vI a2), some (vR a3), some (vJ a4), none, some (vI a6), some (vI a7), some (vI a8), some (vI a9), some (vI a10), some (vR a11), some (vI a12), some (vJ a13), none, some (vI a15), some (vJ z6), none, none, none] [vJ 1, vJ (F10 34 2)] S F10 G11 Q
    obtain ⟨ht, hf⟩ := h
    refine go_jlt (tgt := 172) (show decode cX7_locate 155 = .ok (.lcmp, 1) by decide +kernel) (show decode cX7_locate 156 = .ok (.ifCond .lt 16, 3) by decide +kernel) (by decide) (fun hc => ?_) (fun hc => ?_)
    · have h := ht hc
      exact R_X7_locate_172 hsh hk3 hk11 h
    · have h := hf hc
      refine go_lload (show decode cX7_locate 159 = .ok (.lload 13, 2) by decide +kernel) (by rfl) ?_
      refine go_aload_n (show decode cX7_locate 161 = .ok (.aload_n 0, 1) by decide +kernel) (by rfl) ?_
      refine go_getJ (show decode cX7_locate 162 = .ok (.getfield 68, 3) by decide +kernel) fl_X7_68 rfl (shc_k hsh 34 (by decide) (by decide)) ?_
      refine go_lload (show decode cX7_locate 165 = .ok (.lload 16, 2) by decide +kernel) (by rfl) ?_
      obtain ⟨q12, h⟩ := h
      refine go_lmul (show decode cX7_locate 167 = .ok (.lmul, 1) by decide +kernel) q12 ?_
      obtain ⟨ht, hf⟩ := h
      refine go_jle (tgt := 203) (show decode cX7_locate 168 = .ok (.lcmp, 1) by decide +kernel) (show decode cX7_locate 169 = .ok (.ifCond .le 34, 3) by decide +kernel) (by decide) (fun hc => ?_) (fun hc => ?_)
      · have h := ht hc
        refine go_lload (show decode cX7_locate 203 = .ok (.lload 13, 2) by decide +kernel) (by rfl) ?_
        refine go_lconst (n := 1) (show decode cX7_locate 205 = .ok (.lconst 1, 1) by decide +kernel) ?_
        show Go d MX7_locate 206 [some (vR 34), some (vI a1), some (vI a2), some (vR a3), some (vJ a4), none, some (vI a6), some (vI a7), some (vI a8), some (vI a9), some (vI a10), some (vR a11), some (vI a12), some (vJ a13), none, some (vI a15), some (vJ z6), none, none, none] [vJ 1, vJ a13] S F10 G11 Q
        obtain ⟨q13, h⟩ := h
        refine go_lsub (show decode cX7_locate 206 = .ok (.lsub, 1) by decide +kernel) q13 ?_
        refine go_aload_n (show decode cX7_locate 207 = .ok (.aload_n 0, 1) by decide +kernel) (by rfl) ?_
        refine go_getJ (show decode cX7_locate 208 = .ok (.getfield 68, 3) by decide +kernel) fl_X7_68 rfl (shc_k hsh 34 (by decide) (by decide)) ?_
        obtain ⟨q14, h⟩ := h
        obtain ⟨q15, h⟩ := h
        refine go_ldiv (show decode cX7_locate 211 = .ok (.ldiv, 1) by decide +kernel) q14 q15 ?_
        obtain ⟨x16, x16e⟩ : ∃ x16 : Int, x16 = Int.tdiv (a13 - 1) (F10 34 2) := ⟨_, rfl⟩
        have h := h x16 x16e
        rw [← x16e]
        refine go_lstore (show decode cX7_locate 212 = .ok (.lstore 18, 2) by decide +kernel) (by decide) ?_
        show Go d MX7_locate 214 [some (vR 34), some (vI a1), some (vI a2), some (vR a3), some (vJ a4), none, some (vI a6), some (vI a7), some (vI a8), some (vI a9), some (vI a10), some (vR a11), some (vI a12), some (vJ a13), none, some (vI a15), some (vJ z6), none, some (vJ x16), none] [] S F10 G11 Q
        refine go_aload_n (show decode cX7_locate 214 = .ok (.aload_n 0, 1) by decide +kernel) (by rfl) ?_
        refine go_dup (show decode cX7_locate 215 = .ok (.dup, 1) by decide +kernel) ?_
        refine go_getJ (show decode cX7_locate 216 = .ok (.getfield 115, 3) by decide +kernel) fl_X7_115 rfl (shc_k hsh 34 (by decide) (by decide)) ?_
        refine go_aload_n (show decode cX7_locate 219 = .ok (.aload_n 0, 1) by decide +kernel) (by rfl) ?_
        refine go_getJ (show decode cX7_locate 220 = .ok (.getfield 72, 3) by decide +kernel) fl_X7_72 rfl (shc_k hsh 34 (by decide) (by decide)) ?_
        refine go_lload (show decode cX7_locate 223 = .ok (.lload 18, 2) by decide +kernel) (by rfl) ?_
        obtain ⟨q17, h⟩ := h
        refine go_lmul (show decode cX7_locate 225 = .ok (.lmul, 1) by decide +kernel) q17 ?_
        obtain ⟨q18, h⟩ := h
        refine go_ladd (show decode cX7_locate 226 = .ok (.ladd, 1) by decide +kernel) q18 ?_
        refine go_putJ (show decode cX7_locate 227 = .ok (.putfield 115, 3) by decide +kernel) fl_X7_115 rfl (Or.inl rfl) (shc_k hsh 34 (by decide) (by decide)) ?_
        obtain ⟨F19, F19e⟩ : ∃ F19 : AF, F19 = fu F10 34 7 ((F10 34 7) + ((F10 34 3) * x16)) := ⟨_, rfl⟩
        have h := h F19 F19e
        rw [← F19e]
        refine go_aload_n (show decode cX7_locate 230 = .ok (.aload_n 0, 1) by decide +kernel) (by rfl) ?_
        refine go_iload_n (show decode cX7_locate 231 = .ok (.iload_n 2, 1) by decide +kernel) (by rfl) ?_
        refine go_iload (show decode cX7_locate 232 = .ok (.iload 7, 2) by decide +kernel) (by rfl) ?_
        refine go_aload (show decode cX7_locate 234 = .ok (.aload 11, 2) by decide +kernel) (by rfl) ?_
        refine go_getRc (show decode cX7_locate 236 = .ok (.getfield 118, 3) by decide +kernel) fl_X7_118 rfl hk11.1 (v := (a11 + 1)) hk11.2.1 ?_
        refine go_iload (show decode cX7_locate 239 = .ok (.iload 15, 2) by decide +kernel) (by rfl) ?_
        obtain ⟨q20, h⟩ := h
        obtain ⟨q21, h⟩ := h
        refine go_iaload (show decode cX7_locate 241 = .ok (.iaload, 1) by decide +kernel) hk11.2.2.1 q20 (lt_n (m := 105) q21 hk11.2.2.2) ?_
        refine go_maxIm (show decode cX7_locate 242 = .ok (.invokestatic 121, 3) by decide +kernel) ml_X7_121 mh_max_s mh_i mh_max_c (Nat.le_of_ble_eq_true rfl) q1 ?_
        refine go_i2l (show decode cX7_locate 245 = .ok (.i2l, 1) by decide +kernel) ?_
        refine go_lload (show decode cX7_locate 246 = .ok (.lload 18, 2) by decide +kernel) (by rfl) ?_
        obtain ⟨q22, h⟩ := h
        refine go_ladd (show decode cX7_locate 248 = .ok (.ladd, 1) by decide +kernel) q22 ?_
        obtain ⟨q23, h⟩ := h
        refine go_l2i (show decode cX7_locate 249 = .ok (.l2i, 1) by decide +kernel) q23 ?_
        refine go_callV (d2 := d - 1) (M2 := MX7_setOuter) (n := 2) (ci := 7) (av := [vI a2, vI ((max a7 (G11 (a11 + 1) a15)) + x16)]) (st := []) (show decode cX7_locate 250 = .ok (.invokevirtual 127, 3) by decide +kernel) ml_X7_127 mt_X7_setOuter min_X7_setOuter mse_X7_setOuter (by decide) (shc_k hsh 34 (by decide) (by decide)) rfl (Nat.le_of_ble_eq_true rfl) (by omega) (ok_mono h (fun w24 S25 F26 G27 h => ?_))
        obtain ⟨e8, h⟩ := h
        replace e8 := e8.symm; subst e8
        obtain ⟨e9, h⟩ := h
        subst e9
        show Go d MX7_locate 253 [some (vR 34), some (vI a1), some (vI a2), some (vR a3), some (vJ a4), none, some (vI a6), some (vI a7), some (vI a8), some (vI a9), some (vI a10), some (vR a11), some (vI a12), some (vJ a13), none, some (vI a15), some (vJ z6), none, some (vJ x16), none] [] S F26 G27 Q
        refine go_aload_n (show decode cX7_locate 253 = .ok (.aload_n 0, 1) by decide +kernel) (by rfl) ?_
        refine go_iload_n (show decode cX7_locate 254 = .ok (.iload_n 1, 1) by decide +kernel) (by rfl) ?_
        refine go_iload_n (show decode cX7_locate 255 = .ok (.iload_n 2, 1) by decide +kernel) (by rfl) ?_
        refine go_iload (show decode cX7_locate 256 = .ok (.iload 15, 2) by decide +kernel) (by rfl) ?_
        refine go_lload (show decode cX7_locate 258 = .ok (.lload 13, 2) by decide +kernel) (by rfl) ?_
        refine go_lload (show decode cX7_locate 260 = .ok (.lload 18, 2) by decide +kernel) (by rfl) ?_
        refine go_aload_n (show decode cX7_locate 262 = .ok (.aload_n 0, 1) by decide +kernel) (by rfl) ?_
        refine go_getJ (show decode cX7_locate 263 = .ok (.getfield 68, 3) by decide +kernel) fl_X7_68 rfl (shc_k hsh 34 (by decide) (by decide)) ?_
        obtain ⟨q28, h⟩ := h
        refine go_lmul (show decode cX7_locate 266 = .ok (.lmul, 1) by decide +kernel) q28 ?_
        obtain ⟨q29, h⟩ := h
        refine go_lsub (show decode cX7_locate 267 = .ok (.lsub, 1) by decide +kernel) q29 ?_
        refine go_iload (show decode cX7_locate 268 = .ok (.iload 9, 2) by decide +kernel) (by rfl) ?_
        refine go_callV (d2 := d - 1) (M2 := MX7_locateInLine) (n := 5) (ci := 7) (av := [vI a1, vI a2, vI a15, vJ (a13 - (x16 * (F26 34 2))), vI a9]) (st := []) (show decode cX7_locate 270 = .ok (.invokevirtual 131, 3) by decide +kernel) ml_X7_131 mt_X7_locateInLine min_X7_locateInLine mse_X7_locateInLine (by decide) (shc_k hsh 34 (by decide) (by decide)) rfl (Nat.le_of_ble_eq_true rfl) (by omega) (ok_mono h (fun w30 S31 F32 G33 h => ?_))
        obtain ⟨e8, h⟩ := h
        replace e8 := e8.symm; subst e8
        obtain ⟨z34, e9, h⟩ := h
        subst e9
        show Go d MX7_locate 273 [some (vR 34), some (vI a1), some (vI a2), some (vR a3), some (vJ a4), none, some (vI a6), some (vI a7), some (vI a8), some (vI a9), some (vI a10), some (vR a11), some (vI a12), some (vJ a13), none, some (vI a15), some (vJ z6), none, some (vJ x16), none] [vI z34] S F32 G33 Q
        obtain ⟨q35, h⟩ := h
        exact go_zret (show decode cX7_locate 273 = .ok (.ireturn, 1) by decide +kernel) rfl q35 h
      · have h := hf hc
        exact R_X7_locate_172 hsh hk3 hk11 h
def V_X7_locate_81 (d : Nat) (S : AS) (F : AF) (G : AG) (Q : AQ) (a1 : Int) (a2 : Int) (a3 : Nat) (a4 : Int) (a6 : Int) (a7 : Int) (a8 : Int) (a9 : Int) (s0 : Int) : Prop :=
  (1 ≤ d) ∧
  ∃ z6 : Nat, Pu (d - 1) MX7_outer [vR 34, vI a2] S F G (some (vR z6)) ∧
  (AtCuts S z6) ∧
  ∃ z13 : Int, Pu (d - 1) MX1_bandOf [vR z6, vI a8] S F G (some (vI z13)) ∧
  ∀ F15 : AF, F15 = fu F 34 7 0 →
  ∃ z20 : Int, Pu (d - 1) MX1_bandOf [vR z6, vI a7] S F15 G (some (vI z20)) ∧
  Go d MX7_locate 117 [some (vR 34), some (vI a1), some (vI a2), some (vR a3), some (vJ a4), none, some (vI a6), some (vI a7), some (vI a8), some (vI a9), some (vI s0), some (vR z6), some (vI z13), some (vJ a4), none, some (vI z20), none, none, none, none] [] S F15 G Q
theorem R_X7_locate_81 {d : Nat} {S : AS} {F : AF} {G : AG} {Q : AQ} {a1 : Int} {a2 : Int} {a3 : Nat} {a4 : Int} {a6 : Int} {a7 : Int} {a8 : Int} {a9 : Int} {s0 : Int} (hsh : ShC S) (hk3 : AtRect S a3) (h : V_X7_locate_81 d S F G Q a1 a2 a3 a4 a6 a7 a8 a9 s0) : Go d MX7_locate 81 [some (vR 34), some (vI a1), some (vI a2), some (vR a3), some (vJ a4), none, some (vI a6), some (vI a7), some (vI a8), some (vI a9), none, none, none, none, none, none, none, none, none, none] [vI s0] S F G Q := by
  unfold V_X7_locate_81 at h
  refine go_istore (show decode cX7_locate 81 = .ok (.istore 10, 2) by decide +kernel) (by decide) ?_
  show Go d MX7_locate 83 [some (vR 34), some (vI a1), some (vI a2), some (vR a3), some (vJ a4), none, some (vI a6), some (vI a7), some (vI a8), some (vI a9), some (vI s0), none, none, none, none, none, none, none, none, none] [] S F G Q
  refine go_aload_n (show decode cX7_locate 83 = .ok (.aload_n 0, 1) by decide +kernel) (by rfl) ?_
  refine go_iload_n (show decode cX7_locate 84 = .ok (.iload_n 2, 1) by decide +kernel) (by rfl) ?_
  obtain ⟨q1, h⟩ := h
  obtain ⟨z6, p7, h⟩ := h
  refine go_callV (d2 := d - 1) (M2 := MX7_outer) (n := 1) (ci := 7) (av := [vI a2]) (st := []) (show decode cX7_locate 85 = .ok (.invokevirtual 112, 3) by decide +kernel) ml_X7_112 mt_X7_outer min_X7_outer mse_X7_outer (by decide) (shc_k hsh 34 (by decide) (by decide)) rfl (Nat.le_of_ble_eq_true rfl) (by omega) (ok_mono p7 (fun w2 S3 F4 G5 e9 => ?_))
  obtain ⟨e1, e2, e3, e4⟩ := e9
  subst e1
  replace e2 := e2.symm; subst e2
  replace e3 := e3.symm; subst e3
  replace e4 := e4.symm; subst e4
  show Go d MX7_locate 88 [some (vR 34), some (vI a1), some (vI a2), some (vR a3), some (vJ a4), none, some (vI a6), some (vI a7), some (vI a8), some (vI a9), some (vI s0), none, none, none, none, none, none, none, none, none] [vR z6] S F G Q
  refine go_astore (show decode cX7_locate 88 = .ok (.astore 11, 2) by decide +kernel) (by decide) ?_
  show Go d MX7_locate 90 [some (vR 34), some (vI a1), some (vI a2), some (vR a3), some (vJ a4), none, some (vI a6), some (vI a7), some (vI a8), some (vI a9), some (vI s0), some (vR z6), none, none, none, none, none, none, none, none] [] S F G Q
  refine go_aload (show decode cX7_locate 90 = .ok (.aload 11, 2) by decide +kernel) (by rfl) ?_
  refine go_iload (show decode cX7_locate 92 = .ok (.iload 8, 2) by decide +kernel) (by rfl) ?_
  obtain ⟨q12, h⟩ := h
  obtain ⟨z13, p14, h⟩ := h
  refine go_callV (d2 := d - 1) (M2 := MX1_bandOf) (n := 1) (ci := 1) (av := [vI a8]) (st := []) (show decode cX7_locate 94 = .ok (.invokevirtual 75, 3) by decide +kernel) ml_X7_75 mt_X1_bandOf min_X1_bandOf mse_X1_bandOf (by decide) q12.1 rfl (Nat.le_of_ble_eq_true rfl) (by omega) (ok_mono p14 (fun w8 S9 F10 G11 e9 => ?_))
  obtain ⟨e1, e2, e3, e4⟩ := e9
  subst e1
  replace e2 := e2.symm; subst e2
  replace e3 := e3.symm; subst e3
  replace e4 := e4.symm; subst e4
  show Go d MX7_locate 97 [some (vR 34), some (vI a1), some (vI a2), some (vR a3), some (vJ a4), none, some (vI a6), some (vI a7), some (vI a8), some (vI a9), some (vI s0), some (vR z6), none, none, none, none, none, none, none, none] [vI z13] S F G Q
  refine go_istore (show decode cX7_locate 97 = .ok (.istore 12, 2) by decide +kernel) (by decide) ?_
  show Go d MX7_locate 99 [some (vR 34), some (vI a1), some (vI a2), some (vR a3), some (vJ a4), none, some (vI a6), some (vI a7), some (vI a8), some (vI a9), some (vI s0), some (vR z6), some (vI z13), none, none, none, none, none, none, none] [] S F G Q
  refine go_lload (show decode cX7_locate 99 = .ok (.lload 4, 2) by decide +kernel) (by rfl) ?_
  refine go_lstore (show decode cX7_locate 101 = .ok (.lstore 13, 2) by decide +kernel) (by decide) ?_
  show Go d MX7_locate 103 [some (vR 34), some (vI a1), some (vI a2), some (vR a3), some (vJ a4), none, some (vI a6), some (vI a7), some (vI a8), some (vI a9), some (vI s0), some (vR z6), some (vI z13), some (vJ a4), none, none, none, none, none, none] [] S F G Q
  refine go_aload_n (show decode cX7_locate 103 = .ok (.aload_n 0, 1) by decide +kernel) (by rfl) ?_
  refine go_lconst (n := 0) (show decode cX7_locate 104 = .ok (.lconst 0, 1) by decide +kernel) ?_
  show Go d MX7_locate 105 [some (vR 34), some (vI a1), some (vI a2), some (vR a3), some (vJ a4), none, some (vI a6), some (vI a7), some (vI a8), some (vI a9), some (vI s0), some (vR z6), some (vI z13), some (vJ a4), none, none, none, none, none, none] [vJ 0, vR 34] S F G Q
  refine go_putJ (show decode cX7_locate 105 = .ok (.putfield 115, 3) by decide +kernel) fl_X7_115 rfl (Or.inl rfl) (shc_k hsh 34 (by decide) (by decide)) ?_
  obtain ⟨F15, F15e⟩ : ∃ F15 : AF, F15 = fu F 34 7 0 := ⟨_, rfl⟩
  have h := h F15 F15e
  rw [← F15e]
  refine go_aload (show decode cX7_locate 108 = .ok (.aload 11, 2) by decide +kernel) (by rfl) ?_
  refine go_iload (show decode cX7_locate 110 = .ok (.iload 7, 2) by decide +kernel) (by rfl) ?_
  obtain ⟨z20, p21, h⟩ := h
  refine go_callV (d2 := d - 1) (M2 := MX1_bandOf) (n := 1) (ci := 1) (av := [vI a7]) (st := []) (show decode cX7_locate 112 = .ok (.invokevirtual 75, 3) by decide +kernel) ml_X7_75 mt_X1_bandOf min_X1_bandOf mse_X1_bandOf (by decide) q12.1 rfl (Nat.le_of_ble_eq_true rfl) (by omega) (ok_mono p21 (fun w16 S17 F18 G19 e9 => ?_))
  obtain ⟨e1, e2, e3, e4⟩ := e9
  subst e1
  replace e2 := e2.symm; subst e2
  replace e3 := e3.symm; subst e3
  replace e4 := e4.symm; subst e4
  show Go d MX7_locate 115 [some (vR 34), some (vI a1), some (vI a2), some (vR a3), some (vJ a4), none, some (vI a6), some (vI a7), some (vI a8), some (vI a9), some (vI s0), some (vR z6), some (vI z13), some (vJ a4), none, none, none, none, none, none] [vI z20] S F15 G Q
  refine go_istore (show decode cX7_locate 115 = .ok (.istore 15, 2) by decide +kernel) (by decide) ?_
  show Go d MX7_locate 117 [some (vR 34), some (vI a1), some (vI a2), some (vR a3), some (vJ a4), none, some (vI a6), some (vI a7), some (vI a8), some (vI a9), some (vI s0), some (vR z6), some (vI z13), some (vJ a4), none, some (vI z20), none, none, none, none] [] S F15 G Q
  exact h
def V_X7_locate_63 (d : Nat) (S : AS) (F : AF) (G : AG) (Q : AQ) (a1 : Int) (a2 : Int) (a3 : Nat) (a4 : Int) (a6 : Int) (a7 : Int) (a8 : Int) (s0 : Int) : Prop :=
  ((a6 = 0) →
    V_X7_locate_81 d S F G Q a1 a2 a3 a4 a6 a7 a8 s0 (F a3 3)) ∧
  ((¬ a6 = 0) →
    V_X7_locate_81 d S F G Q a1 a2 a3 a4 a6 a7 a8 s0 (F a3 2))
theorem R_X7_locate_63 {d : Nat} {S : AS} {F : AF} {G : AG} {Q : AQ} {a1 : Int} {a2 : Int} {a3 : Nat} {a4 : Int} {a6 : Int} {a7 : Int} {a8 : Int} {s0 : Int} (hsh : ShC S) (hk3 : AtRect S a3) (h : V_X7_locate_63 d S F G Q a1 a2 a3 a4 a6 a7 a8 s0) : Go d MX7_locate 63 [some (vR 34), some (vI a1), some (vI a2), some (vR a3), some (vJ a4), none, some (vI a6), some (vI a7), some (vI a8), none, none, none, none, none, none, none, none, none, none, none] [vI s0] S F G Q := by
  unfold V_X7_locate_63 at h
  refine go_istore (show decode cX7_locate 63 = .ok (.istore 9, 2) by decide +kernel) (by decide) ?_
  show Go d MX7_locate 65 [some (vR 34), some (vI a1), some (vI a2), some (vR a3), some (vJ a4), none, some (vI a6), some (vI a7), some (vI a8), some (vI s0), none, none, none, none, none, none, none, none, none, none] [] S F G Q
  refine go_iload (show decode cX7_locate 65 = .ok (.iload 6, 2) by decide +kernel) (by rfl) ?_
  obtain ⟨ht, hf⟩ := h
  refine go_ifeq (tgt := 77) (show decode cX7_locate 67 = .ok (.ifCond .eq 10, 3) by decide +kernel) (by decide) (fun hc => ?_) (fun hc => ?_)
  · have h := ht hc
    refine go_aload_n (show decode cX7_locate 77 = .ok (.aload_n 3, 1) by decide +kernel) (by rfl) ?_
    refine go_getI (show decode cX7_locate 78 = .ok (.getfield 106, 3) by decide +kernel) fl_X7_106 (Or.inl rfl) hk3 ?_
    exact R_X7_locate_81 hsh hk3 h
  · have h := hf hc
    refine go_aload_n (show decode cX7_locate 70 = .ok (.aload_n 3, 1) by decide +kernel) (by rfl) ?_
    refine go_getI (show decode cX7_locate 71 = .ok (.getfield 109, 3) by decide +kernel) fl_X7_109 (Or.inl rfl) hk3 ?_
    refine go_goto (tgt := 81) (show decode cX7_locate 74 = .ok (.goto 7, 3) by decide +kernel) (by decide) ?_
    exact R_X7_locate_81 hsh hk3 h
def V_X7_locate_45 (d : Nat) (S : AS) (F : AF) (G : AG) (Q : AQ) (a1 : Int) (a2 : Int) (a3 : Nat) (a4 : Int) (a6 : Int) (a7 : Int) (s0 : Int) : Prop :=
  ((a6 = 0) →
    V_X7_locate_63 d S F G Q a1 a2 a3 a4 a6 a7 s0 (F a3 1)) ∧
  ((¬ a6 = 0) →
    V_X7_locate_63 d S F G Q a1 a2 a3 a4 a6 a7 s0 (F a3 0))
theorem R_X7_locate_45 {d : Nat} {S : AS} {F : AF} {G : AG} {Q : AQ} {a1 : Int} {a2 : Int} {a3 : Nat} {a4 : Int} {a6 : Int} {a7 : Int} {s0 : Int} (hsh : ShC S) (hk3 : AtRect S a3) (h : V_X7_locate_45 d S F G Q a1 a2 a3 a4 a6 a7 s0) : Go d MX7_locate 45 [some (vR 34), some (vI a1), some (vI a2), some (vR a3), some (vJ a4), none, some (vI a6), some (vI a7), none, none, none, none, none, none, none, none, none, none, none, none] [vI s0] S F G Q := by
  unfold V_X7_locate_45 at h
  refine go_istore (show decode cX7_locate 45 = .ok (.istore 8, 2) by decide +kernel) (by decide) ?_
  show Go d MX7_locate 47 [some (vR 34), some (vI a1), some (vI a2), some (vR a3), some (vJ a4), none, some (vI a6), some (vI a7), some (vI s0), none, none, none, none, none, none, none, none, none, none, none] [] S F G Q
  refine go_iload (show decode cX7_locate 47 = .ok (.iload 6, 2) by decide +kernel) (by rfl) ?_
  obtain ⟨ht, hf⟩ := h
  refine go_ifeq (tgt := 59) (show decode cX7_locate 49 = .ok (.ifCond .eq 10, 3) by decide +kernel) (by decide) (fun hc => ?_) (fun hc => ?_)
  · have h := ht hc
    refine go_aload_n (show decode cX7_locate 59 = .ok (.aload_n 3, 1) by decide +kernel) (by rfl) ?_
    refine go_getI (show decode cX7_locate 60 = .ok (.getfield 100, 3) by decide +kernel) fl_X7_100 (Or.inl rfl) hk3 ?_
    exact R_X7_locate_63 hsh hk3 h
  · have h := hf hc
    refine go_aload_n (show decode cX7_locate 52 = .ok (.aload_n 3, 1) by decide +kernel) (by rfl) ?_
    refine go_getI (show decode cX7_locate 53 = .ok (.getfield 103, 3) by decide +kernel) fl_X7_103 (Or.inl rfl) hk3 ?_
    refine go_goto (tgt := 63) (show decode cX7_locate 56 = .ok (.goto 7, 3) by decide +kernel) (by decide) ?_
    exact R_X7_locate_63 hsh hk3 h
def V_X7_locate_27 (d : Nat) (S : AS) (F : AF) (G : AG) (Q : AQ) (a1 : Int) (a2 : Int) (a3 : Nat) (a4 : Int) (a6 : Int) (s0 : Int) : Prop :=
  ((a6 = 0) →
    V_X7_locate_45 d S F G Q a1 a2 a3 a4 a6 s0 (F a3 2)) ∧
  ((¬ a6 = 0) →
    V_X7_locate_45 d S F G Q a1 a2 a3 a4 a6 s0 (F a3 3))
theorem R_X7_locate_27 {d : Nat} {S : AS} {F : AF} {G : AG} {Q : AQ} {a1 : Int} {a2 : Int} {a3 : Nat} {a4 : Int} {a6 : Int} {s0 : Int} (hsh : ShC S) (hk3 : AtRect S a3) (h : V_X7_locate_27 d S F G Q a1 a2 a3 a4 a6 s0) : Go d MX7_locate 27 [some (vR 34), some (vI a1), some (vI a2), some (vR a3), some (vJ a4), none, some (vI a6), none, none, none, none, none, none, none, none, none, none, none, none, none] [vI s0] S F G Q := by
  unfold V_X7_locate_27 at h
  refine go_istore (show decode cX7_locate 27 = .ok (.istore 7, 2) by decide +kernel) (by decide) ?_
  show Go d MX7_locate 29 [some (vR 34), some (vI a1), some (vI a2), some (vR a3), some (vJ a4), none, some (vI a6), some (vI s0), none, none, none, none, none, none, none, none, none, none, none, none] [] S F G Q
  refine go_iload (show decode cX7_locate 29 = .ok (.iload 6, 2) by decide +kernel) (by rfl) ?_
  obtain ⟨ht, hf⟩ := h
  refine go_ifeq (tgt := 41) (show decode cX7_locate 31 = .ok (.ifCond .eq 10, 3) by decide +kernel) (by decide) (fun hc => ?_) (fun hc => ?_)
  · have h := ht hc
    refine go_aload_n (show decode cX7_locate 41 = .ok (.aload_n 3, 1) by decide +kernel) (by rfl) ?_
    refine go_getI (show decode cX7_locate 42 = .ok (.getfield 109, 3) by decide +kernel) fl_X7_109 (Or.inl rfl) hk3 ?_
    exact R_X7_locate_45 hsh hk3 h
  · have h := hf hc
    refine go_aload_n (show decode cX7_locate 34 = .ok (.aload_n 3, 1) by decide +kernel) (by rfl) ?_
    refine go_getI (show decode cX7_locate 35 = .ok (.getfield 106, 3) by decide +kernel) fl_X7_106 (Or.inl rfl) hk3 ?_
    refine go_goto (tgt := 45) (show decode cX7_locate 38 = .ok (.goto 7, 3) by decide +kernel) (by decide) ?_
    exact R_X7_locate_45 hsh hk3 h
def V_X7_locate_9 (d : Nat) (S : AS) (F : AF) (G : AG) (Q : AQ) (a1 : Int) (a2 : Int) (a3 : Nat) (a4 : Int) (s0 : Int) : Prop :=
  ((s0 = 0) →
    V_X7_locate_27 d S F G Q a1 a2 a3 a4 s0 (F a3 0)) ∧
  ((¬ s0 = 0) →
    V_X7_locate_27 d S F G Q a1 a2 a3 a4 s0 (F a3 1))
theorem R_X7_locate_9 {d : Nat} {S : AS} {F : AF} {G : AG} {Q : AQ} {a1 : Int} {a2 : Int} {a3 : Nat} {a4 : Int} {s0 : Int} (hsh : ShC S) (hk3 : AtRect S a3) (h : V_X7_locate_9 d S F G Q a1 a2 a3 a4 s0) : Go d MX7_locate 9 [some (vR 34), some (vI a1), some (vI a2), some (vR a3), some (vJ a4), none, none, none, none, none, none, none, none, none, none, none, none, none, none, none] [vI s0] S F G Q := by
  unfold V_X7_locate_9 at h
  refine go_istore (show decode cX7_locate 9 = .ok (.istore 6, 2) by decide +kernel) (by decide) ?_
  show Go d MX7_locate 11 [some (vR 34), some (vI a1), some (vI a2), some (vR a3), some (vJ a4), none, some (vI s0), none, none, none, none, none, none, none, none, none, none, none, none, none] [] S F G Q
  refine go_iload (show decode cX7_locate 11 = .ok (.iload 6, 2) by decide +kernel) (by rfl) ?_
  obtain ⟨ht, hf⟩ := h
  refine go_ifeq (tgt := 23) (show decode cX7_locate 13 = .ok (.ifCond .eq 10, 3) by decide +kernel) (by decide) (fun hc => ?_) (fun hc => ?_)
  · have h := ht hc
    refine go_aload_n (show decode cX7_locate 23 = .ok (.aload_n 3, 1) by decide +kernel) (by rfl) ?_
    refine go_getI (show decode cX7_locate 24 = .ok (.getfield 103, 3) by decide +kernel) fl_X7_103 (Or.inl rfl) hk3 ?_
    exact R_X7_locate_27 hsh hk3 h
  · have h := hf hc
    refine go_aload_n (show decode cX7_locate 16 = .ok (.aload_n 3, 1) by decide +kernel) (by rfl) ?_
    refine go_getI (show decode cX7_locate 17 = .ok (.getfield 100, 3) by decide +kernel) fl_X7_100 (Or.inl rfl) hk3 ?_
    refine go_goto (tgt := 27) (show decode cX7_locate 20 = .ok (.goto 7, 3) by decide +kernel) (by decide) ?_
    exact R_X7_locate_27 hsh hk3 h
def V_X7_locate_0 (d : Nat) (S : AS) (F : AF) (G : AG) (Q : AQ) (a1 : Int) (a2 : Int) (a3 : Nat) (a4 : Int) : Prop :=
  ((¬ a2 = 0) →
    V_X7_locate_9 d S F G Q a1 a2 a3 a4 0) ∧
  ((a2 = 0) →
    V_X7_locate_9 d S F G Q a1 a2 a3 a4 1)
theorem R_X7_locate_0 {d : Nat} {S : AS} {F : AF} {G : AG} {Q : AQ} {a1 : Int} {a2 : Int} {a3 : Nat} {a4 : Int} (hsh : ShC S) (hk3 : AtRect S a3) (h : V_X7_locate_0 d S F G Q a1 a2 a3 a4) : Go d MX7_locate 0 [some (vR 34), some (vI a1), some (vI a2), some (vR a3), some (vJ a4), none, none, none, none, none, none, none, none, none, none, none, none, none, none, none] [] S F G Q := by
  unfold V_X7_locate_0 at h
  refine go_iload_n (show decode cX7_locate 0 = .ok (.iload_n 2, 1) by decide +kernel) (by rfl) ?_
  obtain ⟨ht, hf⟩ := h
  refine go_ifne (tgt := 8) (show decode cX7_locate 1 = .ok (.ifCond .ne 7, 3) by decide +kernel) (by decide) (fun hc => ?_) (fun hc => ?_)
  · have h := ht hc
    refine go_iconst (show decode cX7_locate 8 = .ok (.iconst 0, 1) by decide +kernel) (by decide) ?_
    exact R_X7_locate_9 hsh hk3 h
  · have h := hf hc
    refine go_iconst (show decode cX7_locate 4 = .ok (.iconst 1, 1) by decide +kernel) (by decide) ?_
    refine go_goto (tgt := 9) (show decode cX7_locate 5 = .ok (.goto 4, 3) by decide +kernel) (by decide) ?_
    exact R_X7_locate_9 hsh hk3 h
def V_X7_outer_0 (d : Nat) (S : AS) (F : AF) (G : AG) (Q : AQ) (a1 : Int) : Prop :=
  ((¬ a1 = 0) →
    Q (some (vR 4)) S F G) ∧
  ((a1 = 0) →
    Q (some (vR 11)) S F G)
theorem R_X7_outer_0 {d : Nat} {S : AS} {F : AF} {G : AG} {Q : AQ} {a1 : Int} (hsh : ShC S) (h : V_X7_outer_0 d S F G Q a1) : Go d MX7_outer 0 [some (vR 34), some (vI a1)] [] S F G Q := by
  unfold V_X7_outer_0 at h
  refine go_iload_n (show decode cX7_outer 0 = .ok (.iload_n 1, 1) by decide +kernel) (by rfl) ?_
  obtain ⟨ht, hf⟩ := h
  refine go_ifne (tgt := 17) (show decode cX7_outer 1 = .ok (.ifCond .ne 16, 3) by decide +kernel) (by decide) (fun hc => ?_) (fun hc => ?_)
  · have h := ht hc
    refine go_aload_n (show decode cX7_outer 17 = .ok (.aload_n 0, 1) by decide +kernel) (by rfl) ?_
    refine go_getRc (show decode cX7_outer 18 = .ok (.getfield 12, 3) by decide +kernel) fl_X7_12 rfl (shc_k hsh 34 (by decide) (by decide)) (v := 2) (shc_r hsh 34 0 (by decide) (by decide) (by decide)) ?_
    refine go_getRc (show decode cX7_outer 21 = .ok (.getfield 61, 3) by decide +kernel) fl_X7_61 rfl (shc_k hsh 2 (by decide) (by decide)) (v := 3) (shc_r hsh 2 0 (by decide) (by decide) (by decide)) ?_
    refine go_getRc (show decode cX7_outer 24 = .ok (.getfield 55, 3) by decide +kernel) fl_X7_55 rfl (shc_k hsh 3 (by decide) (by decide)) (v := 4) (shc_r hsh 3 0 (by decide) (by decide) (by decide)) ?_
    exact go_aret (show decode cX7_outer 27 = .ok (.areturn, 1) by decide +kernel) rfl h
  · have h := hf hc
    refine go_aload_n (show decode cX7_outer 4 = .ok (.aload_n 0, 1) by decide +kernel) (by rfl) ?_
    refine go_getRc (show decode cX7_outer 5 = .ok (.getfield 12, 3) by decide +kernel) fl_X7_12 rfl (shc_k hsh 34 (by decide) (by decide)) (v := 2) (shc_r hsh 34 0 (by decide) (by decide) (by decide)) ?_
    refine go_getRc (show decode cX7_outer 8 = .ok (.getfield 51, 3) by decide +kernel) fl_X7_51 rfl (shc_k hsh 2 (by decide) (by decide)) (v := 10) (shc_r hsh 2 1 (by decide) (by decide) (by decide)) ?_
    refine go_getRc (show decode cX7_outer 11 = .ok (.getfield 55, 3) by decide +kernel) fl_X7_55 rfl (shc_k hsh 10 (by decide) (by decide)) (v := 11) (shc_r hsh 10 0 (by decide) (by decide) (by decide)) ?_
    refine go_goto (tgt := 27) (show decode cX7_outer 14 = .ok (.goto 13, 3) by decide +kernel) (by decide) ?_
    exact go_aret (show decode cX7_outer 27 = .ok (.areturn, 1) by decide +kernel) rfl h
def V_X7_measure_105 (d : Nat) (S : AS) (F : AF) (G : AG) (Q : AQ) (a1 : Int) (a2 : Int) (a3 : Int) (a4 : Int) (a5 : Int) (a6 : Nat) (a7 : Int) (a8 : Int) (a9 : Int) : Prop :=
  (r32 (a8 + 1)) ∧
  Go d MX7_measure 35 [some (vR 34), some (vI a1), some (vI a2), some (vI a3), some (vI a4), some (vI a5), some (vR a6), some (vI a7), some (vI (a8 + 1)), none, none, none, none] [] S F G Q
theorem R_X7_measure_105 {d : Nat} {S : AS} {F : AF} {G : AG} {Q : AQ} {a1 : Int} {a2 : Int} {a3 : Int} {a4 : Int} {a5 : Int} {a6 : Nat} {a7 : Int} {a8 : Int} {a9 : Int} (hsh : ShC S) (hk6 : AtCuts S a6) (h : V_X7_measure_105 d S F G Q a1 a2 a3 a4 a5 a6 a7 a8 a9) : Go d MX7_measure 105 [some (vR 34), some (vI a1), some (vI a2), some (vI a3), some (vI a4), some (vI a5), some (vR a6), some (vI a7), some (vI a8), some (vJ a9), none, none, none] [] S F G Q := by
  unfold V_X7_measure_105 at h
  obtain ⟨q1, h⟩ := h
  refine go_iinc (show decode cX7_measure 105 = .ok (.iinc 8 1, 3) by decide +kernel) (by rfl) q1 (by decide) ?_
  show Go d MX7_measure 108 [some (vR 34), some (vI a1), some (vI a2), some (vI a3), some (vI a4), some (vI a5), some (vR a6), some (vI a7), some (vI (a8 + 1)), some (vJ a9), none, none, none] [] S F G Q
  refine go_goto (tgt := 35) (show decode cX7_measure 108 = .ok (.goto (-73), 3) by decide +kernel) (by decide) ?_
  refine go_clr 9 ?_
  exact h
def V_X7_measure_35 (d : Nat) (S : AS) (F : AF) (G : AG) (Q : AQ) (a1 : Int) (a2 : Int) (a3 : Int) (a4 : Int) (a5 : Int) (a6 : Nat) (a7 : Int) (a8 : Int) : Prop :=
  ((a7 < a8) →
    Q none S F G) ∧
  ((¬ a7 < a8) →
    (1 ≤ d) ∧
    ∃ z6 : Int, Pu (d - 1) MX7_field [vI a2, vI a3, vI a8] S F G (some (vI z6)) ∧
    ∃ z12 : Int, Pu (d - 1) MX2_unitsAt [vR 2, vI a1, vI z6] S F G (some (vJ z12)) ∧
    ((z12 ≤ 0) →
      V_X7_measure_105 d S F G Q a1 a2 a3 a4 a5 a6 a7 a8 z12) ∧
    ((¬ z12 ≤ 0) →
      ∃ z18 : Int, Pu (d - 1) MX1_overlap [vR a6, vI a8, vI a4, vI a5] S F G (some (vI z18)) ∧
      (r64 (z12 * z18)) ∧
      (r64 ((F 34 2) + (z12 * z18))) ∧
      ∀ F22 : AF, F22 = fu F 34 2 ((F 34 2) + (z12 * z18)) →
      (r64 ((F22 34 3) + z18)) ∧
      ∀ F24 : AF, F24 = fu F22 34 3 ((F22 34 3) + z18) →
      V_X7_measure_105 d S F24 G Q a1 a2 a3 a4 a5 a6 a7 a8 z12))
theorem R_X7_measure_35 {d : Nat} {S : AS} {F : AF} {G : AG} {Q : AQ} {a1 : Int} {a2 : Int} {a3 : Int} {a4 : Int} {a5 : Int} {a6 : Nat} {a7 : Int} {a8 : Int} (hsh : ShC S) (hk6 : AtCuts S a6) (h : V_X7_measure_35 d S F G Q a1 a2 a3 a4 a5 a6 a7 a8) : Go d MX7_measure 35 [some (vR 34), some (vI a1), some (vI a2), some (vI a3), some (vI a4), some (vI a5), some (vR a6), some (vI a7), some (vI a8), none, none, none, none] [] S F G Q := by
  unfold V_X7_measure_35 at h
  refine go_iload (show decode cX7_measure 35 = .ok (.iload 8, 2) by decide +kernel) (by rfl) ?_
  refine go_iload (show decode cX7_measure 37 = .ok (.iload 7, 2) by decide +kernel) (by rfl) ?_
  obtain ⟨ht, hf⟩ := h
  refine go_icmpgt (tgt := 111) (show decode cX7_measure 39 = .ok (.if_icmp .gt 72, 3) by decide +kernel) (by decide) (fun hc => ?_) (fun hc => ?_)
  · have h := ht hc
    exact go_vret (show decode cX7_measure 111 = .ok (.return_, 1) by decide +kernel) rfl h
  · have h := hf hc
    refine go_aload_n (show decode cX7_measure 42 = .ok (.aload_n 0, 1) by decide +kernel) (by rfl) ?_
    refine go_getRc (show decode cX7_measure 43 = .ok (.getfield 12, 3) by decide +kernel) fl_X7_12 rfl (shc_k hsh 34 (by decide) (by decide)) (v := 2) (shc_r hsh 34 0 (by decide) (by decide) (by decide)) ?_
    refine go_iload_n (show decode cX7_measure 46 = .ok (.iload_n 1, 1) by decide +kernel) (by rfl) ?_
    refine go_iload_n (show decode cX7_measure 47 = .ok (.iload_n 2, 1) by decide +kernel) (by rfl) ?_
    refine go_iload_n (show decode cX7_measure 48 = .ok (.iload_n 3, 1) by decide +kernel) (by rfl) ?_
    refine go_iload (show decode cX7_measure 49 = .ok (.iload 8, 2) by decide +kernel) (by rfl) ?_
    obtain ⟨q1, h⟩ := h
    obtain ⟨z6, p7, h⟩ := h
    refine go_callS (d2 := d - 1) (M2 := MX7_field) (n := 3) (av := [vI a2, vI a3, vI a8]) (st := [vI a1, vR 2]) (show decode cX7_measure 51 = .ok (.invokestatic 81, 3) by decide +kernel) ml_X7_81 mt_X7_field mst_X7_field rfl (Nat.le_of_ble_eq_true rfl) (by omega) (ok_mono p7 (fun w2 S3 F4 G5 e9 => ?_))
    obtain ⟨e1, e2, e3, e4⟩ := e9
    subst e1
    replace e2 := e2.symm; subst e2
    replace e3 := e3.symm; subst e3
    replace e4 := e4.symm; subst e4
    show Go d MX7_measure 54 [some (vR 34), some (vI a1), some (vI a2), some (vI a3), some (vI a4), some (vI a5), some (vR a6), some (vI a7), some (vI a8), none, none, none, none] [vI z6, vI a1, vR 2] S F G Q
    obtain ⟨z12, p13, h⟩ := h
    refine go_callV (d2 := d - 1) (M2 := MX2_unitsAt) (n := 2) (ci := 2) (av := [vI a1, vI z6]) (st := []) (show decode cX7_measure 54 = .ok (.invokevirtual 85, 3) by decide +kernel) ml_X7_85 mt_X2_unitsAt min_X2_unitsAt mse_X2_unitsAt (by decide) (shc_k hsh 2 (by decide) (by decide)) rfl (Nat.le_of_ble_eq_true rfl) (by omega) (ok_mono p13 (fun w8 S9 F10 G11 e9 => ?_))
    obtain ⟨e1, e2, e3, e4⟩ := e9
    subst e1
    replace e2 := e2.symm; subst e2
    replace e3 := e3.symm; subst e3
    replace e4 := e4.symm; subst e4
    show Go d MX7_measure 57 [some (vR 34), some (vI a1), some (vI a2), some (vI a3), some (vI a4), some (vI a5), some (vR a6), some (vI a7), some (vI a8), none, none, none, none] [vJ z12] S F G Q
    refine go_lstore (show decode cX7_measure 57 = .ok (.lstore 9, 2) by decide +kernel) (by decide) ?_
    show Go d MX7_measure 59 [some (vR 34), some (vI a1), some (vI a2), some (vI a3), some (vI a4), some (vI a5), some (vR a6), some (vI a7), some (vI a8), some (vJ z12), none, none, none] [] S F G Q
    refine go_lload (show decode cX7_measure 59 = .ok (.lload 9, 2) by decide +kernel) (by rfl) ?_
    refine go_lconst (n := 0) (show decode cX7_measure 61 = .ok (.lconst 0, 1) by decide +kernel) ?_
    show Go d MX7_measure 62 [some (vR 34), some (vI a1), some (vI a2), some (vI a3), some (vI a4), some (vI a5), some (vR a6), some (vI a7), some (vI a8), some (vJ z12), none, none, none] [vJ 0, vJ z12] S F G Q
    obtain ⟨ht, hf⟩ := h
    refine go_jle (tgt := 105) (show decode cX7_measure 62 = .ok (.lcmp, 1) by decide +kernel) (show decode cX7_measure 63 = .ok (.ifCond .le 42, 3) by decide +kernel) (by decide) (fun hc => ?_) (fun hc => ?_)
    · have h := ht hc
      exact R_X7_measure_105 hsh hk6 h
    · have h := hf hc
      refine go_aload (show decode cX7_measure 66 = .ok (.aload 6, 2) by decide +kernel) (by rfl) ?_
      refine go_iload (show decode cX7_measure 68 = .ok (.iload 8, 2) by decide +kernel) (by rfl) ?_
      refine go_iload (show decode cX7_measure 70 = .ok (.iload 4, 2) by decide +kernel) (by rfl) ?_
      refine go_iload (show decode cX7_measure 72 = .ok (.iload 5, 2) by decide +kernel) (by rfl) ?_
      obtain ⟨z18, p19, h⟩ := h
      refine go_callV (d2 := d - 1) (M2 := MX1_overlap) (n := 3) (ci := 1) (av := [vI a8, vI a4, vI a5]) (st := []) (show decode cX7_measure 74 = .ok (.invokevirtual 89, 3) by decide +kernel) ml_X7_89 mt_X1_overlap min_X1_overlap mse_X1_overlap (by decide) hk6.1 rfl (Nat.le_of_ble_eq_true rfl) (by omega) (ok_mono p19 (fun w14 S15 F16 G17 e9 => ?_))
      obtain ⟨e1, e2, e3, e4⟩ := e9
      subst e1
      replace e2 := e2.symm; subst e2
      replace e3 := e3.symm; subst e3
      replace e4 := e4.symm; subst e4
      show Go d MX7_measure 77 [some (vR 34), some (vI a1), some (vI a2), some (vI a3), some (vI a4), some (vI a5), some (vR a6), some (vI a7), some (vI a8), some (vJ z12), none, none, none] [vI z18] S F G Q
      refine go_i2l (show decode cX7_measure 77 = .ok (.i2l, 1) by decide +kernel) ?_
      refine go_lstore (show decode cX7_measure 78 = .ok (.lstore 11, 2) by decide +kernel) (by decide) ?_
      show Go d MX7_measure 80 [some (vR 34), some (vI a1), some (vI a2), some (vI a3), some (vI a4), some (vI a5), some (vR a6), some (vI a7), some (vI a8), some (vJ z12), none, some (vJ z18), none] [] S F G Q
      refine go_aload_n (show decode cX7_measure 80 = .ok (.aload_n 0, 1) by decide +kernel) (by rfl) ?_
      refine go_dup (show decode cX7_measure 81 = .ok (.dup, 1) by decide +kernel) ?_
      refine go_getJ (show decode cX7_measure 82 = .ok (.getfield 68, 3) by decide +kernel) fl_X7_68 rfl (shc_k hsh 34 (by decide) (by decide)) ?_
      refine go_lload (show decode cX7_measure 85 = .ok (.lload 9, 2) by decide +kernel) (by rfl) ?_
      refine go_lload (show decode cX7_measure 87 = .ok (.lload 11, 2) by decide +kernel) (by rfl) ?_
      obtain ⟨q20, h⟩ := h
      refine go_lmul (show decode cX7_measure 89 = .ok (.lmul, 1) by decide +kernel) q20 ?_
      obtain ⟨q21, h⟩ := h
      refine go_ladd (show decode cX7_measure 90 = .ok (.ladd, 1) by decide +kernel) q21 ?_
      refine go_putJ (show decode cX7_measure 91 = .ok (.putfield 68, 3) by decide +kernel) fl_X7_68 rfl (Or.inl rfl) (shc_k hsh 34 (by decide) (by decide)) ?_
      obtain ⟨F22, F22e⟩ : ∃ F22 : AF, F22 = fu F 34 2 ((F 34 2) + (z12 * z18)) := ⟨_, rfl⟩
      have h := h F22 F22e
      rw [← F22e]
      refine go_aload_n (show decode cX7_measure 94 = .ok (.aload_n 0, 1) by decide +kernel) (by rfl) ?_
      refine go_dup (show decode cX7_measure 95 = .ok (.dup, 1) by decide +kernel) ?_
      refine go_getJ (show decode cX7_measure 96 = .ok (.getfield 72, 3) by decide +kernel) fl_X7_72 rfl (shc_k hsh 34 (by decide) (by decide)) ?_
      refine go_lload (show decode cX7_measure 99 = .ok (.lload 11, 2) by decide +kernel) (by rfl) ?_
      obtain ⟨q23, h⟩ := h
      refine go_ladd (show decode cX7_measure 101 = .ok (.ladd, 1) by decide +kernel) q23 ?_
      refine go_putJ (show decode cX7_measure 102 = .ok (.putfield 72, 3) by decide +kernel) fl_X7_72 rfl (Or.inl rfl) (shc_k hsh 34 (by decide) (by decide)) ?_
      obtain ⟨F24, F24e⟩ : ∃ F24 : AF, F24 = fu F22 34 3 ((F22 34 3) + z18) := ⟨_, rfl⟩
      have h := h F24 F24e
      rw [← F24e]
      refine go_clr 11 ?_
      exact R_X7_measure_105 hsh hk6 h
def V_X7_measure_0 (d : Nat) (S : AS) (F : AF) (G : AG) (Q : AQ) (a1 : Int) (a2 : Int) (a3 : Int) (a4 : Int) (a5 : Int) : Prop :=
  (1 ≤ d) ∧
  ∃ z6 : Nat, Pu (d - 1) MX7_inner [vR 34, vI a2] S F G (some (vR z6)) ∧
  ∀ F8 : AF, F8 = fu F 34 2 0 →
  ∀ F9 : AF, F9 = fu F8 34 3 0 →
  (AtCuts S z6) ∧
  ∃ z15 : Int, Pu (d - 1) MX1_bandOf [vR z6, vI a5] S F9 G (some (vI z15)) ∧
  ∃ z21 : Int, Pu (d - 1) MX1_bandOf [vR z6, vI a4] S F9 G (some (vI z21)) ∧
  Go d MX7_measure 35 [some (vR 34), some (vI a1), some (vI a2), some (vI a3), some (vI a4), some (vI a5), some (vR z6), some (vI z15), some (vI z21), none, none, none, none] [] S F9 G Q
theorem R_X7_measure_0 {d : Nat} {S : AS} {F : AF} {G : AG} {Q : AQ} {a1 : Int} {a2 : Int} {a3 : Int} {a4 : Int} {a5 : Int} (hsh : ShC S) (h : V_X7_measure_0 d S F G Q a1 a2 a3 a4 a5) : Go d MX7_measure 0 [some (vR 34), some (vI a1), some (vI a2), some (vI a3), some (vI a4), some (vI a5), none, none, none, none, none, none, none] [] S F G Q := by
  unfold V_X7_measure_0 at h
  refine go_aload_n (show decode cX7_measure 0 = .ok (.aload_n 0, 1) by decide +kernel) (by rfl) ?_
  refine go_iload_n (show decode cX7_measure 1 = .ok (.iload_n 2, 1) by decide +kernel) (by rfl) ?_
  obtain ⟨q1, h⟩ := h
  obtain ⟨z6, p7, h⟩ := h
  refine go_callV (d2 := d - 1) (M2 := MX7_inner) (n := 1) (ci := 7) (av := [vI a2]) (st := []) (show decode cX7_measure 2 = .ok (.invokevirtual 64, 3) by decide +kernel) ml_X7_64 mt_X7_inner min_X7_inner mse_X7_inner (by decide) (shc_k hsh 34 (by decide) (by decide)) rfl (Nat.le_of_ble_eq_true rfl) (by omega) (ok_mono p7 (fun w2 S3 F4 G5 e9 => ?_))
  obtain ⟨e1, e2, e3, e4⟩ := e9
  subst e1
  replace e2 := e2.symm; subst e2
  replace e3 := e3.symm; subst e3
  replace e4 := e4.symm; subst e4
  show Go d MX7_measure 5 [some (vR 34), some (vI a1), some (vI a2), some (vI a3), some (vI a4), some (vI a5), none, none, none, none, none, none, none] [vR z6] S F G Q
  refine go_astore (show decode cX7_measure 5 = .ok (.astore 6, 2) by decide +kernel) (by decide) ?_
  show Go d MX7_measure 7 [some (vR 34), some (vI a1), some (vI a2), some (vI a3), some (vI a4), some (vI a5), some (vR z6), none, none, none, none, none, none] [] S F G Q
  refine go_aload_n (show decode cX7_measure 7 = .ok (.aload_n 0, 1) by decide +kernel) (by rfl) ?_
  refine go_lconst (n := 0) (show decode cX7_measure 8 = .ok (.lconst 0, 1) by decide +kernel) ?_
  show Go d MX7_measure 9 [some (vR 34), some (vI a1), some (vI a2), some (vI a3), some (vI a4), some (vI a5), some (vR z6), none, none, none, none, none, none] [vJ 0, vR 34] S F G Q
  refine go_putJ (show decode cX7_measure 9 = .ok (.putfield 68, 3) by decide +kernel) fl_X7_68 rfl (Or.inl rfl) (shc_k hsh 34 (by decide) (by decide)) ?_
  obtain ⟨F8, F8e⟩ : ∃ F8 : AF, F8 = fu F 34 2 0 := ⟨_, rfl⟩
  have h := h F8 F8e
  rw [← F8e]
  refine go_aload_n (show decode cX7_measure 12 = .ok (.aload_n 0, 1) by decide +kernel) (by rfl) ?_
  refine go_lconst (n := 0) (show decode cX7_measure 13 = .ok (.lconst 0, 1) by decide +kernel) ?_
  show Go d MX7_measure 14 [some (vR 34), some (vI a1), some (vI a2), some (vI a3), some (vI a4), some (vI a5), some (vR z6), none, none, none, none, none, none] [vJ 0, vR 34] S F8 G Q
  refine go_putJ (show decode cX7_measure 14 = .ok (.putfield 72, 3) by decide +kernel) fl_X7_72 rfl (Or.inl rfl) (shc_k hsh 34 (by decide) (by decide)) ?_
  obtain ⟨F9, F9e⟩ : ∃ F9 : AF, F9 = fu F8 34 3 0 := ⟨_, rfl⟩
  have h := h F9 F9e
  rw [← F9e]
  refine go_aload (show decode cX7_measure 17 = .ok (.aload 6, 2) by decide +kernel) (by rfl) ?_
  refine go_iload (show decode cX7_measure 19 = .ok (.iload 5, 2) by decide +kernel) (by rfl) ?_
  obtain ⟨q14, h⟩ := h
  obtain ⟨z15, p16, h⟩ := h
  refine go_callV (d2 := d - 1) (M2 := MX1_bandOf) (n := 1) (ci := 1) (av := [vI a5]) (st := []) (show decode cX7_measure 21 = .ok (.invokevirtual 75, 3) by decide +kernel) ml_X7_75 mt_X1_bandOf min_X1_bandOf mse_X1_bandOf (by decide) q14.1 rfl (Nat.le_of_ble_eq_true rfl) (by omega) (ok_mono p16 (fun w10 S11 F12 G13 e9 => ?_))
  obtain ⟨e1, e2, e3, e4⟩ := e9
  subst e1
  replace e2 := e2.symm; subst e2
  replace e3 := e3.symm; subst e3
  replace e4 := e4.symm; subst e4
  show Go d MX7_measure 24 [some (vR 34), some (vI a1), some (vI a2), some (vI a3), some (vI a4), some (vI a5), some (vR z6), none, none, none, none, none, none] [vI z15] S F9 G Q
  refine go_istore (show decode cX7_measure 24 = .ok (.istore 7, 2) by decide +kernel) (by decide) ?_
  show Go d MX7_measure 26 [some (vR 34), some (vI a1), some (vI a2), some (vI a3), some (vI a4), some (vI a5), some (vR z6), some (vI z15), none, none, none, none, none] [] S F9 G Q
  refine go_aload (show decode cX7_measure 26 = .ok (.aload 6, 2) by decide +kernel) (by rfl) ?_
  refine go_iload (show decode cX7_measure 28 = .ok (.iload 4, 2) by decide +kernel) (by rfl) ?_
  obtain ⟨z21, p22, h⟩ := h
  refine go_callV (d2 := d - 1) (M2 := MX1_bandOf) (n := 1) (ci := 1) (av := [vI a4]) (st := []) (show decode cX7_measure 30 = .ok (.invokevirtual 75, 3) by decide +kernel) ml_X7_75 mt_X1_bandOf min_X1_bandOf mse_X1_bandOf (by decide) q14.1 rfl (Nat.le_of_ble_eq_true rfl) (by omega) (ok_mono p22 (fun w17 S18 F19 G20 e9 => ?_))
  obtain ⟨e1, e2, e3, e4⟩ := e9
  subst e1
  replace e2 := e2.symm; subst e2
  replace e3 := e3.symm; subst e3
  replace e4 := e4.symm; subst e4
  show Go d MX7_measure 33 [some (vR 34), some (vI a1), some (vI a2), some (vI a3), some (vI a4), some (vI a5), some (vR z6), some (vI z15), none, none, none, none, none] [vI z21] S F9 G Q
  refine go_istore (show decode cX7_measure 33 = .ok (.istore 8, 2) by decide +kernel) (by decide) ?_
  show Go d MX7_measure 35 [some (vR 34), some (vI a1), some (vI a2), some (vI a3), some (vI a4), some (vI a5), some (vR z6), some (vI z15), some (vI z21), none, none, none, none] [] S F9 G Q
  exact h
def V_X7_inner_0 (d : Nat) (S : AS) (F : AF) (G : AG) (Q : AQ) (a1 : Int) : Prop :=
  ((¬ a1 = 0) →
    Q (some (vR 11)) S F G) ∧
  ((a1 = 0) →
    Q (some (vR 4)) S F G)
theorem R_X7_inner_0 {d : Nat} {S : AS} {F : AF} {G : AG} {Q : AQ} {a1 : Int} (hsh : ShC S) (h : V_X7_inner_0 d S F G Q a1) : Go d MX7_inner 0 [some (vR 34), some (vI a1)] [] S F G Q := by
  unfold V_X7_inner_0 at h
  refine go_iload_n (show decode cX7_inner 0 = .ok (.iload_n 1, 1) by decide +kernel) (by rfl) ?_
  obtain ⟨ht, hf⟩ := h
  refine go_ifne (tgt := 17) (show decode cX7_inner 1 = .ok (.ifCond .ne 16, 3) by decide +kernel) (by decide) (fun hc => ?_) (fun hc => ?_)
  · have h := ht hc
    refine go_aload_n (show decode cX7_inner 17 = .ok (.aload_n 0, 1) by decide +kernel) (by rfl) ?_
    refine go_getRc (show decode cX7_inner 18 = .ok (.getfield 12, 3) by decide +kernel) fl_X7_12 rfl (shc_k hsh 34 (by decide) (by decide)) (v := 2) (shc_r hsh 34 0 (by decide) (by decide) (by decide)) ?_
    refine go_getRc (show decode cX7_inner 21 = .ok (.getfield 51, 3) by decide +kernel) fl_X7_51 rfl (shc_k hsh 2 (by decide) (by decide)) (v := 10) (shc_r hsh 2 1 (by decide) (by decide) (by decide)) ?_
    refine go_getRc (show decode cX7_inner 24 = .ok (.getfield 55, 3) by decide +kernel) fl_X7_55 rfl (shc_k hsh 10 (by decide) (by decide)) (v := 11) (shc_r hsh 10 0 (by decide) (by decide) (by decide)) ?_
    exact go_aret (show decode cX7_inner 27 = .ok (.areturn, 1) by decide +kernel) rfl h
  · have h := hf hc
    refine go_aload_n (show decode cX7_inner 4 = .ok (.aload_n 0, 1) by decide +kernel) (by rfl) ?_
    refine go_getRc (show decode cX7_inner 5 = .ok (.getfield 12, 3) by decide +kernel) fl_X7_12 rfl (shc_k hsh 34 (by decide) (by decide)) (v := 2) (shc_r hsh 34 0 (by decide) (by decide) (by decide)) ?_
    refine go_getRc (show decode cX7_inner 8 = .ok (.getfield 61, 3) by decide +kernel) fl_X7_61 rfl (shc_k hsh 2 (by decide) (by decide)) (v := 3) (shc_r hsh 2 0 (by decide) (by decide) (by decide)) ?_
    refine go_getRc (show decode cX7_inner 11 = .ok (.getfield 55, 3) by decide +kernel) fl_X7_55 rfl (shc_k hsh 3 (by decide) (by decide)) (v := 4) (shc_r hsh 3 0 (by decide) (by decide) (by decide)) ?_
    refine go_goto (tgt := 27) (show decode cX7_inner 14 = .ok (.goto 13, 3) by decide +kernel) (by decide) ?_
    exact go_aret (show decode cX7_inner 27 = .ok (.areturn, 1) by decide +kernel) rfl h
def V_X7_field_0 (d : Nat) (S : AS) (F : AF) (G : AG) (Q : AQ) (a0 : Int) (a1 : Int) (a2 : Int) : Prop :=
  ((¬ a0 = 0) →
    (r32 (48 * a2)) ∧
    (r32 ((48 * a2) + a1)) ∧
    Q (some (vI ((48 * a2) + a1))) S F G) ∧
  ((a0 = 0) →
    (r32 (48 * a1)) ∧
    (r32 ((48 * a1) + a2)) ∧
    Q (some (vI ((48 * a1) + a2))) S F G)
theorem R_X7_field_0 {d : Nat} {S : AS} {F : AF} {G : AG} {Q : AQ} {a0 : Int} {a1 : Int} {a2 : Int} (hsh : ShC S) (h : V_X7_field_0 d S F G Q a0 a1 a2) : Go d MX7_field 0 [some (vI a0), some (vI a1), some (vI a2)] [] S F G Q := by
  unfold V_X7_field_0 at h
  refine go_iload_n (show decode cX7_field 0 = .ok (.iload_n 0, 1) by decide +kernel) (by rfl) ?_
  obtain ⟨ht, hf⟩ := h
  refine go_ifne (tgt := 13) (show decode cX7_field 1 = .ok (.ifCond .ne 12, 3) by decide +kernel) (by decide) (fun hc => ?_) (fun hc => ?_)
  · have h := ht hc
    refine go_bipush (show decode cX7_field 13 = .ok (.bipush 48, 2) by decide +kernel) (by decide) ?_
    refine go_iload_n (show decode cX7_field 15 = .ok (.iload_n 2, 1) by decide +kernel) (by rfl) ?_
    obtain ⟨q1, h⟩ := h
    refine go_imul (show decode cX7_field 16 = .ok (.imul, 1) by decide +kernel) q1 ?_
    refine go_iload_n (show decode cX7_field 17 = .ok (.iload_n 1, 1) by decide +kernel) (by rfl) ?_
    obtain ⟨q2, h⟩ := h
    refine go_iadd (show decode cX7_field 18 = .ok (.iadd, 1) by decide +kernel) q2 ?_
    exact go_iret (show decode cX7_field 19 = .ok (.ireturn, 1) by decide +kernel) rfl h
  · have h := hf hc
    refine go_bipush (show decode cX7_field 4 = .ok (.bipush 48, 2) by decide +kernel) (by decide) ?_
    refine go_iload_n (show decode cX7_field 6 = .ok (.iload_n 1, 1) by decide +kernel) (by rfl) ?_
    obtain ⟨q3, h⟩ := h
    refine go_imul (show decode cX7_field 7 = .ok (.imul, 1) by decide +kernel) q3 ?_
    refine go_iload_n (show decode cX7_field 8 = .ok (.iload_n 2, 1) by decide +kernel) (by rfl) ?_
    obtain ⟨q4, h⟩ := h
    refine go_iadd (show decode cX7_field 9 = .ok (.iadd, 1) by decide +kernel) q4 ?_
    refine go_goto (tgt := 19) (show decode cX7_field 10 = .ok (.goto 9, 3) by decide +kernel) (by decide) ?_
    exact go_iret (show decode cX7_field 19 = .ok (.ireturn, 1) by decide +kernel) rfl h
def V_X7_setOuter_0 (d : Nat) (S : AS) (F : AF) (G : AG) (Q : AQ) (a1 : Int) (a2 : Int) : Prop :=
  ((¬ a1 = 0) →
    ∀ F1 : AF, F1 = fu F 34 4 a2 →
    Q none S F1 G) ∧
  ((a1 = 0) →
    ∀ F2 : AF, F2 = fu F 34 5 a2 →
    Q none S F2 G)
theorem R_X7_setOuter_0 {d : Nat} {S : AS} {F : AF} {G : AG} {Q : AQ} {a1 : Int} {a2 : Int} (hsh : ShC S) (h : V_X7_setOuter_0 d S F G Q a1 a2) : Go d MX7_setOuter 0 [some (vR 34), some (vI a1), some (vI a2)] [] S F G Q := by
  unfold V_X7_setOuter_0 at h
  refine go_iload_n (show decode cX7_setOuter 0 = .ok (.iload_n 1, 1) by decide +kernel) (by rfl) ?_
  obtain ⟨ht, hf⟩ := h
  refine go_ifne (tgt := 12) (show decode cX7_setOuter 1 = .ok (.ifCond .ne 11, 3) by decide +kernel) (by decide) (fun hc => ?_) (fun hc => ?_)
  · have h := ht hc
    refine go_aload_n (show decode cX7_setOuter 12 = .ok (.aload_n 0, 1) by decide +kernel) (by rfl) ?_
    refine go_iload_n (show decode cX7_setOuter 13 = .ok (.iload_n 2, 1) by decide +kernel) (by rfl) ?_
    refine go_putI (show decode cX7_setOuter 14 = .ok (.putfield 144, 3) by decide +kernel) fl_X7_144 rfl (Or.inl rfl) (shc_k hsh 34 (by decide) (by decide)) ?_
    obtain ⟨F1, F1e⟩ : ∃ F1 : AF, F1 = fu F 34 4 a2 := ⟨_, rfl⟩
    have h := h F1 F1e
    rw [← F1e]
    exact go_vret (show decode cX7_setOuter 17 = .ok (.return_, 1) by decide +kernel) rfl h
  · have h := hf hc
    refine go_aload_n (show decode cX7_setOuter 4 = .ok (.aload_n 0, 1) by decide +kernel) (by rfl) ?_
    refine go_iload_n (show decode cX7_setOuter 5 = .ok (.iload_n 2, 1) by decide +kernel) (by rfl) ?_
    refine go_putI (show decode cX7_setOuter 6 = .ok (.putfield 141, 3) by decide +kernel) fl_X7_141 rfl (Or.inl rfl) (shc_k hsh 34 (by decide) (by decide)) ?_
    obtain ⟨F2, F2e⟩ : ∃ F2 : AF, F2 = fu F 34 5 a2 := ⟨_, rfl⟩
    have h := h F2 F2e
    rw [← F2e]
    refine go_goto (tgt := 17) (show decode cX7_setOuter 9 = .ok (.goto 8, 3) by decide +kernel) (by decide) ?_
    exact go_vret (show decode cX7_setOuter 17 = .ok (.return_, 1) by decide +kernel) rfl h
def V_X7_locateInLine_124 (d : Nat) (S : AS) (F : AF) (G : AG) (Q : AQ) (a1 : Int) (a2 : Int) (a3 : Int) (a4 : Int) (a6 : Int) (a7 : Nat) (a8 : Int) (a10 : Int) (a11 : Int) (a13 : Int) (a14 : Int) (s0 : Int) (s1 : Int) : Prop :=
  (r64 (s1 + s0)) ∧
  ∀ F2 : AF, F2 = fu F 34 7 (s1 + s0) →
  (r32 (a10 + 1)) ∧
  Go d MX7_locateInLine 20 [some (vR 34), some (vI a1), some (vI a2), some (vI a3), some (vJ a4), none, some (vI a6), some (vR a7), some (vJ a8), none, some (vI (a10 + 1)), none, none, none, none, none, none, none] [] S F2 G Q
theorem R_X7_locateInLine_124 {d : Nat} {S : AS} {F : AF} {G : AG} {Q : AQ} {a1 : Int} {a2 : Int} {a3 : Int} {a4 : Int} {a6 : Int} {a7 : Nat} {a8 : Int} {a10 : Int} {a11 : Int} {a13 : Int} {a14 : Int} {s0 : Int} {s1 : Int} (hsh : ShC S) (hk7 : AtCuts S a7) (h : V_X7_locateInLine_124 d S F G Q a1 a2 a3 a4 a6 a7 a8 a10 a11 a13 a14 s0 s1) : Go d MX7_locateInLine 124 [some (vR 34), some (vI a1), some (vI a2), some (vI a3), some (vJ a4), none, some (vI a6), some (vR a7), some (vJ a8), none, some (vI a10), some (vJ a11), none, some (vI a13), some (vJ a14), none, none, none] [vJ s0, vJ s1, vR 34] S F G Q := by
  unfold V_X7_locateInLine_124 at h
  obtain ⟨q1, h⟩ := h
  refine go_ladd (show decode cX7_locateInLine 124 = .ok (.ladd, 1) by decide +kernel) q1 ?_
  refine go_putJ (show decode cX7_locateInLine 125 = .ok (.putfield 115, 3) by decide +kernel) fl_X7_115 rfl (Or.inl rfl) (shc_k hsh 34 (by decide) (by decide)) ?_
  obtain ⟨F2, F2e⟩ : ∃ F2 : AF, F2 = fu F 34 7 (s1 + s0) := ⟨_, rfl⟩
  have h := h F2 F2e
  rw [← F2e]
  refine go_goto (tgt := 183) (show decode cX7_locateInLine 128 = .ok (.goto 55, 3) by decide +kernel) (by decide) ?_
  obtain ⟨q3, h⟩ := h
  refine go_iinc (show decode cX7_locateInLine 183 = .ok (.iinc 10 1, 3) by decide +kernel) (by rfl) q3 (by decide) ?_
  show Go d MX7_locateInLine 186 [some (vR 34), some (vI a1), some (vI a2), some (vI a3), some (vJ a4), none, some (vI a6), some (vR a7), some (vJ a8), none, some (vI (a10 + 1)), some (vJ a11), none, some (vI a13), some (vJ a14), none, none, none] [] S F2 G Q
  refine go_goto (tgt := 20) (show decode cX7_locateInLine 186 = .ok (.goto (-166), 3) by decide +kernel) (by decide) ?_
  refine go_clr 11 ?_
  refine go_clr 13 ?_
  refine go_clr 14 ?_
  exact h
def V_X7_locateInLine_96 (d : Nat) (S : AS) (F : AF) (G : AG) (Q : AQ) (a1 : Int) (a2 : Int) (a3 : Int) (a4 : Int) (a6 : Int) (a7 : Nat) (a8 : Int) (a10 : Int) (a11 : Int) (a13 : Int) (a14 : Int) : Prop :=
  (r64 (a11 * a14)) ∧
  (r64 (a8 - (a11 * a14))) ∧
  ∀ x3 : Int, x3 = a8 - (a11 * a14) →
  ((1 ≤ a11) →
    V_X7_locateInLine_124 d S F G Q a1 a2 a3 a4 a6 a7 x3 a10 a11 a13 a14 a14 (F 34 7)) ∧
  ((¬ 1 ≤ a11) →
    V_X7_locateInLine_124 d S F G Q a1 a2 a3 a4 a6 a7 x3 a10 a11 a13 a14 0 (F 34 7))
theorem R_X7_locateInLine_96 {d : Nat} {S : AS} {F : AF} {G : AG} {Q : AQ} {a1 : Int} {a2 : Int} {a3 : Int} {a4 : Int} {a6 : Int} {a7 : Nat} {a8 : Int} {a10 : Int} {a11 : Int} {a13 : Int} {a14 : Int} (hsh : ShC S) (hk7 : AtCuts S a7) (h : V_X7_locateInLine_96 d S F G Q a1 a2 a3 a4 a6 a7 a8 a10 a11 a13 a14) : Go d MX7_locateInLine 96 [some (vR 34), some (vI a1), some (vI a2), some (vI a3), some (vJ a4), none, some (vI a6), some (vR a7), some (vJ a8), none, some (vI a10), some (vJ a11), none, some (vI a13), some (vJ a14), none, none, none] [] S F G Q := by
  unfold V_X7_locateInLine_96 at h
  refine go_lload (show decode cX7_locateInLine 96 = .ok (.lload 8, 2) by decide +kernel) (by rfl) ?_
  refine go_lload (show decode cX7_locateInLine 98 = .ok (.lload 11, 2) by decide +kernel) (by rfl) ?_
  refine go_lload (show decode cX7_locateInLine 100 = .ok (.lload 14, 2) by decide +kernel) (by rfl) ?_
  obtain ⟨q1, h⟩ := h
  refine go_lmul (show decode cX7_locateInLine 102 = .ok (.lmul, 1) by decide +kernel) q1 ?_
  obtain ⟨q2, h⟩ := h
  refine go_lsub (show decode cX7_locateInLine 103 = .ok (.lsub, 1) by decide +kernel) q2 ?_
  obtain ⟨x3, x3e⟩ : ∃ x3 : Int, x3 = a8 - (a11 * a14) := ⟨_, rfl⟩
  have h := h x3 x3e
  rw [← x3e]
  refine go_lstore (show decode cX7_locateInLine 104 = .ok (.lstore 8, 2) by decide +kernel) (by decide) ?_
  show Go d MX7_locateInLine 106 [some (vR 34), some (vI a1), some (vI a2), some (vI a3), some (vJ a4), none, some (vI a6), some (vR a7), some (vJ x3), none, some (vI a10), some (vJ a11), none, some (vI a13), some (vJ a14), none, none, none] [] S F G Q
  refine go_aload_n (show decode cX7_locateInLine 106 = .ok (.aload_n 0, 1) by decide +kernel) (by rfl) ?_
  refine go_dup (show decode cX7_locateInLine 107 = .ok (.dup, 1) by decide +kernel) ?_
  refine go_getJ (show decode cX7_locateInLine 108 = .ok (.getfield 115, 3) by decide +kernel) fl_X7_115 rfl (shc_k hsh 34 (by decide) (by decide)) ?_
  refine go_lload (show decode cX7_locateInLine 111 = .ok (.lload 11, 2) by decide +kernel) (by rfl) ?_
  refine go_lconst (n := 1) (show decode cX7_locateInLine 113 = .ok (.lconst 1, 1) by decide +kernel) ?_
  show Go d MX7_locateInLine 114 [some (vR 34), some (vI a1), some (vI a2), some (vI a3), some (vJ a4), none, some (vI a6), some (vR a7), some (vJ x3), none, some (vI a10), some (vJ a11), none, some (vI a13), some (vJ a14), none, none, none] [vJ 1, vJ a11, vJ (F 34 7), vR 34] S F G Q
  obtain ⟨ht, hf⟩ := h
  refine go_jge (tgt := 122) (show decode cX7_locateInLine 114 = .ok (.lcmp, 1) by decide +kernel) (show decode cX7_locateInLine 115 = .ok (.ifCond .ge 7, 3) by decide +kernel) (by decide) (fun hc => ?_) (fun hc => ?_)
  · have h := ht hc
    refine go_lload (show decode cX7_locateInLine 122 = .ok (.lload 14, 2) by decide +kernel) (by rfl) ?_
    exact R_X7_locateInLine_124 hsh hk7 h
  · have h := hf hc
    refine go_lconst (n := 0) (show decode cX7_locateInLine 118 = .ok (.lconst 0, 1) by decide +kernel) ?_
    show Go d MX7_locateInLine 119 [some (vR 34), some (vI a1), some (vI a2), some (vI a3), some (vJ a4), none, some (vI a6), some (vR a7), some (vJ x3), none, some (vI a10), some (vJ a11), none, some (vI a13), some (vJ a14), none, none, none] [vJ 0, vJ (F 34 7), vR 34] S F G Q
    refine go_goto (tgt := 124) (show decode cX7_locateInLine 119 = .ok (.goto 5, 3) by decide +kernel) (by decide) ?_
    exact R_X7_locateInLine_124 hsh hk7 h
def V_X7_locateInLine_20 (d : Nat) (S : AS) (F : AF) (G : AG) (Q : AQ) (a1 : Int) (a2 : Int) (a3 : Int) (a4 : Int) (a6 : Int) (a7 : Nat) (a8 : Int) (a10 : Int) : Prop :=
  ((F a7 1 ≤ a10) →
    Q (some (vI 0)) S F G) ∧
  ((¬ F a7 1 ≤ a10) →
    (1 ≤ d) ∧
    ∃ z6 : Int, Pu (d - 1) MX7_field [vI a2, vI a3, vI a10] S F G (some (vI z6)) ∧
    ∃ z12 : Int, Pu (d - 1) MX2_unitsAt [vR 2, vI a1, vI z6] S F G (some (vJ z12)) ∧
    ((0 : Int) ≤ a10) ∧
    ((a10 : Int) < 105) ∧
    ∀ x16 : Int, x16 = max a6 (G (a7 + 1) a10) →
    (r32 (a10 + 1)) ∧
    ((0 : Int) ≤ a10 + 1) ∧
    ((a10 + 1 : Int) < 105) ∧
    (r32 ((G (a7 + 1) (a10 + 1)) - x16)) ∧
    ∀ x21 : Int, x21 = (G (a7 + 1) (a10 + 1)) - x16 →
    ((z12 < 1) →
      V_X7_locateInLine_96 d S F G Q a1 a2 a3 a4 a6 a7 a8 a10 z12 x16 x21) ∧
    ((¬ z12 < 1) →
      (r64 (z12 * x21)) ∧
      ((a8 ≤ z12 * x21) →
        (r64 (a8 - 1)) ∧
        (¬ z12 = 0) ∧
        (r64 (Int.tdiv (a8 - 1) z12)) ∧
        ∀ x26 : Int, x26 = Int.tdiv (a8 - 1) z12 →
        (r64 (x26 + 1)) ∧
        (r64 ((F 34 7) + (x26 + 1))) ∧
        ∀ F29 : AF, F29 = fu F 34 7 ((F 34 7) + (x26 + 1)) →
        (r64 (z12 * (x26 + 1))) ∧
        (r64 ((z12 * (x26 + 1)) - a8)) ∧
        ∀ F32 : AF, F32 = fu F29 34 6 ((z12 * (x26 + 1)) - a8) →
        (r32 (1 - a2)) ∧
        (r64 (x16 + x26)) ∧
        (r32 (x16 + x26)) ∧
        Ok (d - 1) MX7_setOuter [vR 34, vI (1 - a2), vI (x16 + x26)] S F32 G (fun w36 S37 F38 G39 =>
        S37 = S ∧
        w36 = none ∧
        Q (some (vI 1)) S F38 G39)) ∧
      ((¬ a8 ≤ z12 * x21) →
        V_X7_locateInLine_96 d S F G Q a1 a2 a3 a4 a6 a7 a8 a10 z12 x16 x21)))
theorem R_X7_locateInLine_20 {d : Nat} {S : AS} {F : AF} {G : AG} {Q : AQ} {a1 : Int} {a2 : Int} {a3 : Int} {a4 : Int} {a6 : Int} {a7 : Nat} {a8 : Int} {a10 : Int} (hsh : ShC S) (hk7 : AtCuts S a7) (h : V_X7_locateInLine_20 d S F G Q a1 a2 a3 a4 a6 a7 a8 a10) : Go d MX7_locateInLine 20 [some (vR 34), some (vI a1), some (vI a2), some (vI a3), some (vJ a4), none, some (vI a6), some (vR a7), some (vJ a8), none, some (vI a10), none, none, none, none, none, none, none] [] S F G Q := by
  unfold V_X7_locateInLine_20 at h
  refine go_iload (show decode cX7_locateInLine 20 = .ok (.iload 10, 2) by decide +kernel) (by rfl) ?_
  refine go_aload (show decode cX7_locateInLine 22 = .ok (.aload 7, 2) by decide +kernel) (by rfl) ?_
  refine go_getI (show decode cX7_locateInLine 24 = .ok (.getfield 135, 3) by decide +kernel) fl_X7_135 (Or.inl rfl) hk7.1 ?_
  obtain ⟨ht, hf⟩ := h
  refine go_icmpge (tgt := 189) (show decode cX7_locateInLine 27 = .ok (.if_icmp .ge 162, 3) by decide +kernel) (by decide) (fun hc => ?_) (fun hc => ?_)
  · have h := ht hc
    refine go_iconst (show decode cX7_locateInLine 189 = .ok (.iconst 0, 1) by decide +kernel) (by decide) ?_
    exact go_zret (show decode cX7_locateInLine 190 = .ok (.ireturn, 1) by decide +kernel) rfl (by decide) h
  · have h := hf hc
    refine go_aload_n (show decode cX7_locateInLine 30 = .ok (.aload_n 0, 1) by decide +kernel) (by rfl) ?_
    refine go_getRc (show decode cX7_locateInLine 31 = .ok (.getfield 12, 3) by decide +kernel) fl_X7_12 rfl (shc_k hsh 34 (by decide) (by decide)) (v := 2) (shc_r hsh 34 0 (by decide) (by decide) (by decide)) ?_
    refine go_iload_n (show decode cX7_locateInLine 34 = .ok (.iload_n 1, 1) by decide +kernel) (by rfl) ?_
    refine go_iload_n (show decode cX7_locateInLine 35 = .ok (.iload_n 2, 1) by decide +kernel) (by rfl) ?_
    refine go_iload_n (show decode cX7_locateInLine 36 = .ok (.iload_n 3, 1) by decide +kernel) (by rfl) ?_
    refine go_iload (show decode cX7_locateInLine 37 = .ok (.iload 10, 2) by decide +kernel) (by rfl) ?_
    obtain ⟨q1, h⟩ := h
    obtain ⟨z6, p7, h⟩ := h
    refine go_callS (d2 := d - 1) (M2 := MX7_field) (n := 3) (av := [vI a2, vI a3, vI a10]) (st := [vI a1, vR 2]) (show decode cX7_locateInLine 39 = .ok (.invokestatic 81, 3) by decide +kernel) ml_X7_81 mt_X7_field mst_X7_field rfl (Nat.le_of_ble_eq_true rfl) (by omega) (ok_mono p7 (fun w2 S3 F4 G5 e9 => ?_))
    obtain ⟨e1, e2, e3, e4⟩ := e9
    subst e1
    replace e2 := e2.symm; subst e2
    replace e3 := e3.symm; subst e3
    replace e4 := e4.symm; subst e4
    show Go d MX7_locateInLine 42 [some (vR 34), some (vI a1), some (vI a2), some (vI a3), some (vJ a4), none, some (vI a6), some (vR a7), some (vJ a8), none, some (vI a10), none, none, none, none, none, none, none] [vI z6, vI a1, vR 2] S F G Q
    obtain ⟨z12, p13, h⟩ := h
    refine go_callV (d2 := d - 1) (M2 := MX2_unitsAt) (n := 2) (ci := 2) (av := [vI a1, vI z6]) (st := []) (show decode cX7_locateInLine 42 = .ok (.invokevirtual 85, 3) by decide +kernel) ml_X7_85 mt_X2_unitsAt min_X2_unitsAt mse_X2_unitsAt (by decide) (shc_k hsh 2 (by decide) (by decide)) rfl (Nat.le_of_ble_eq_true rfl) (by omega) (ok_mono p13 (fun w8 S9 F10 G11 e9 => ?_))
    obtain ⟨e1, e2, e3, e4⟩ := e9
    subst e1
    replace e2 := e2.symm; subst e2
    replace e3 := e3.symm; subst e3
    replace e4 := e4.symm; subst e4
    show Go d MX7_locateInLine 45 [some (vR 34), some (vI a1), some (vI a2), some (vI a3), some (vJ a4), none, some (vI a6), some (vR a7), some (vJ a8), none, some (vI a10), none, none, none, none, none, none, none] [vJ z12] S F G Q
    refine go_lstore (show decode cX7_locateInLine 45 = .ok (.lstore 11, 2) by decide +kernel) (by decide) ?_
    show Go d MX7_locateInLine 47 [some (vR 34), some (vI a1), some (vI a2), some (vI a3), some (vJ a4), none, some (vI a6), some (vR a7), some (vJ a8), none, some (vI a10), some (vJ z12), none, none, none, none, none, none] [] S F G Q
    refine go_iload (show decode cX7_locateInLine 47 = .ok (.iload 6, 2) by decide +kernel) (by rfl) ?_
    refine go_aload (show decode cX7_locateInLine 49 = .ok (.aload 7, 2) by decide +kernel) (by rfl) ?_
    refine go_getRc (show decode cX7_locateInLine 51 = .ok (.getfield 118, 3) by decide +kernel) fl_X7_118 rfl hk7.1 (v := (a7 + 1)) hk7.2.1 ?_
    refine go_iload (show decode cX7_locateInLine 54 = .ok (.iload 10, 2) by decide +kernel) (by rfl) ?_
    obtain ⟨q14, h⟩ := h
    obtain ⟨q15, h⟩ := h
    refine go_iaload (show decode cX7_locateInLine 56 = .ok (.iaload, 1) by decide +kernel) hk7.2.2.1 q14 (lt_n (m := 105) q15 hk7.2.2.2) ?_
    refine go_maxIm (show decode cX7_locateInLine 57 = .ok (.invokestatic 121, 3) by decide +kernel) ml_X7_121 mh_max_s mh_i mh_max_c (Nat.le_of_ble_eq_true rfl) q1 ?_
    obtain ⟨x16, x16e⟩ : ∃ x16 : Int, x16 = max a6 (G (a7 + 1) a10) := ⟨_, rfl⟩
    have h := h x16 x16e
    rw [← x16e]
    refine go_istore (show decode cX7_locateInLine 60 = .ok (.istore 13, 2) by decide +kernel) (by decide) ?_
    show Go d MX7_locateInLine 62 [some (vR 34), some (vI a1), some (vI a2), some (vI a3), some (vJ a4), none, some (vI a6), some (vR a7), some (vJ a8), none, some (vI a10), some (vJ z12), none, some (vI x16), none, none, none, none] [] S F G Q
    refine go_aload (show decode cX7_locateInLine 62 = .ok (.aload 7, 2) by decide +kernel) (by rfl) ?_
    refine go_getRc (show decode cX7_locateInLine 64 = .ok (.getfield 118, 3) by decide +kernel) fl_X7_118 rfl hk7.1 (v := (a7 + 1)) hk7.2.1 ?_
    refine go_iload (show decode cX7_locateInLine 67 = .ok (.iload 10, 2) by decide +kernel) (by rfl) ?_
    refine go_iconst (show decode cX7_locateInLine 69 = .ok (.iconst 1, 1) by decide +kernel) (by decide) ?_
    obtain ⟨q17, h⟩ := h
    refine go_iadd (show decode cX7_locateInLine 70 = .ok (.iadd, 1) by decide +kernel) q17 ?_
    obtain ⟨q18, h⟩ := h
    obtain ⟨q19, h⟩ := h
    refine go_iaload (show decode cX7_locateInLine 71 = .ok (.iaload, 1) by decide +kernel) hk7.2.2.1 q18 (lt_n (m := 105) q19 hk7.2.2.2) ?_
    refine go_iload (show decode cX7_locateInLine 72 = .ok (.iload 13, 2) by decide +kernel) (by rfl) ?_
    obtain ⟨q20, h⟩ := h
    refine go_isub (show decode cX7_locateInLine 74 = .ok (.isub, 1) by decide +kernel) q20 ?_
    refine go_i2l (show decode cX7_locateInLine 75 = .ok (.i2l, 1) by decide +kernel) ?_
    obtain ⟨x21, x21e⟩ : ∃ x21 : Int, x21 = (G (a7 + 1) (a10 + 1)) - x16 := ⟨_, rfl⟩
    have h := h x21 x21e
    rw [← x21e]
    refine go_lstore (show decode cX7_locateInLine 76 = .ok (.lstore 14, 2) by decide +kernel) (by decide) ?_
    show Go d MX7_locateInLine 78 [some (vR 34), some (vI a1), some (vI a2), some (vI a3), some (vJ a4), none, some (vI a6), some (vR a7), some (vJ a8), none, some (vI a10), some (vJ z12), none, some (vI x16), some (vJ x21), none, none, none] [] S F G Q
    refine go_lload (show decode cX7_locateInLine 78 = .ok (.lload 11, 2) by decide +kernel) (by rfl) ?_
    refine go_lconst (n := 1) (show decode cX7_locateInLine 80 = .ok (.lconst 1, 1) by decide +kernel) ?_
    show Go d MX7_locateInLine 81 [some (vR 34), some (vI a1), some (vI a2), some (vI a3), some (vJ a4), none, some (vI a6), some (vR a7), some (vJ a8), none, some (vI a10), some (vJ z12), none, some (vI x16), some (vJ x21), none, none, none] [vJ 1, vJ z12] S F G Q
    obtain ⟨ht, hf⟩ := h
    refine go_jlt (tgt := 96) (show decode cX7_locateInLine 81 = .ok (.lcmp, 1) by decide +kernel) (show decode cX7_locateInLine 82 = .ok (.ifCond .lt 14, 3) by decide +kernel) (by decide) (fun hc => ?_) (fun hc => ?_)
    · have h := ht hc
      exact R_X7_locateInLine_96 hsh hk7 h
    · have h := hf hc
      refine go_lload (show decode cX7_locateInLine 85 = .ok (.lload 8, 2) by decide +kernel) (by rfl) ?_
      refine go_lload (show decode cX7_locateInLine 87 = .ok (.lload 11, 2) by decide +kernel) (by rfl) ?_
      refine go_lload (show decode cX7_locateInLine 89 = .ok (.lload 14, 2) by decide +kernel) (by rfl) ?_
      obtain ⟨q22, h⟩ := h
      refine go_lmul (show decode cX7_locateInLine 91 = .ok (.lmul, 1) by decide +kernel) q22 ?_
      obtain ⟨ht, hf⟩ := h
      refine go_jle (tgt := 131) (show decode cX7_locateInLine 92 = .ok (.lcmp, 1) by decide +kernel) (show decode cX7_locateInLine 93 = .ok (.ifCond .le 38, 3) by decide +kernel) (by decide) (fun hc => ?_) (fun hc => ?_)
      · have h := ht hc
        refine go_lload (show decode cX7_locateInLine 131 = .ok (.lload 8, 2) by decide +kernel) (by rfl) ?_
        refine go_lconst (n := 1) (show decode cX7_locateInLine 133 = .ok (.lconst 1, 1) by decide +kernel) ?_
        show Go d MX7_locateInLine 134 [some (vR 34), some (vI a1), some (vI a2), some (vI a3), some (vJ a4), none, some (vI a6), some (vR a7), some (vJ a8), none, some (vI a10), some (vJ z12), none, some (vI x16), some (vJ x21), none, none, none] [vJ 1, vJ a8] S F G Q
        obtain ⟨q23, h⟩ := h
        refine go_lsub (show decode cX7_locateInLine 134 = .ok (.lsub, 1) by decide +kernel) q23 ?_
        refine go_lload (show decode cX7_locateInLine 135 = .ok (.lload 11, 2) by decide +kernel) (by rfl) ?_
        obtain ⟨q24, h⟩ := h
        obtain ⟨q25, h⟩ := h
        refine go_ldiv (show decode cX7_locateInLine 137 = .ok (.ldiv, 1) by decide +kernel) q24 q25 ?_
        obtain ⟨x26, x26e⟩ : ∃ x26 : Int, x26 = Int.tdiv (a8 - 1) z12 := ⟨_, rfl⟩
        have h := h x26 x26e
        rw [← x26e]
        refine go_lstore (show decode cX7_locateInLine 138 = .ok (.lstore 16, 2) by decide +kernel) (by decide) ?_
        show Go d MX7_locateInLine 140 [some (vR 34), some (vI a1), some (vI a2), some (vI a3), some (vJ a4), none, some (vI a6), some (vR a7), some (vJ a8), none, some (vI a10), some (vJ z12), none, some (vI x16), some (vJ x21), none, some (vJ x26), none] [] S F G Q
        refine go_aload_n (show decode cX7_locateInLine 140 = .ok (.aload_n 0, 1) by decide +kernel) (by rfl) ?_
        refine go_dup (show decode cX7_locateInLine 141 = .ok (.dup, 1) by decide +kernel) ?_
        refine go_getJ (show decode cX7_locateInLine 142 = .ok (.getfield 115, 3) by decide +kernel) fl_X7_115 rfl (shc_k hsh 34 (by decide) (by decide)) ?_
        refine go_lload (show decode cX7_locateInLine 145 = .ok (.lload 16, 2) by decide +kernel) (by rfl) ?_
        refine go_lconst (n := 1) (show decode cX7_locateInLine 147 = .ok (.lconst 1, 1) by decide +kernel) ?_
        show Go d MX7_locateInLine 148 [some (vR 34), some (vI a1), some (vI a2), some (vI a3), some (vJ a4), none, some (vI a6), some (vR a7), some (vJ a8), none, some (vI a10), some (vJ z12), none, some (vI x16), some (vJ x21), none, some (vJ x26), none] [vJ 1, vJ x26, vJ (F 34 7), vR 34] S F G Q
        obtain ⟨q27, h⟩ := h
        refine go_ladd (show decode cX7_locateInLine 148 = .ok (.ladd, 1) by decide +kernel) q27 ?_
        obtain ⟨q28, h⟩ := h
        refine go_ladd (show decode cX7_locateInLine 149 = .ok (.ladd, 1) by decide +kernel) q28 ?_
        refine go_putJ (show decode cX7_locateInLine 150 = .ok (.putfield 115, 3) by decide +kernel) fl_X7_115 rfl (Or.inl rfl) (shc_k hsh 34 (by decide) (by decide)) ?_
        obtain ⟨F29, F29e⟩ : ∃ F29 : AF, F29 = fu F 34 7 ((F 34 7) + (x26 + 1)) := ⟨_, rfl⟩
        have h := h F29 F29e
        rw [← F29e]
        refine go_aload_n (show decode cX7_locateInLine 153 = .ok (.aload_n 0, 1) by decide +kernel) (by rfl) ?_
        refine go_lload (show decode cX7_locateInLine 154 = .ok (.lload 11, 2) by decide +kernel) (by rfl) ?_
        refine go_lload (show decode cX7_locateInLine 156 = .ok (.lload 16, 2) by decide +kernel) (by rfl) ?_
        refine go_lconst (n := 1) (show decode cX7_locateInLine 158 = .ok (.lconst 1, 1) by decide +kernel) ?_
        show Go d MX7_locateInLine 159 [some (vR 34), some (vI a1), some (vI a2), some (vI a3), some (vJ a4), none, some (vI a6), some (vR a7), some (vJ a8), none, some (vI a10), some (vJ z12), none, some (vI x16), some (vJ x21), none, some (vJ x26), none] [vJ 1, vJ x26, vJ z12, vR 34] S F29 G Q
        refine go_ladd (show decode cX7_locateInLine 159 = .ok (.ladd, 1) by decide +kernel) q27 ?_
        obtain ⟨q30, h⟩ := h
        refine go_lmul (show decode cX7_locateInLine 160 = .ok (.lmul, 1) by decide +kernel) q30 ?_
        refine go_lload (show decode cX7_locateInLine 161 = .ok (.lload 8, 2) by decide +kernel) (by rfl) ?_
        obtain ⟨q31, h⟩ := h
        refine go_lsub (show decode cX7_locateInLine 163 = .ok (.lsub, 1) by decide +kernel) q31 ?_
        refine go_putJ (show decode cX7_locateInLine 164 = .ok (.putfield 138, 3) by decide +kernel) fl_X7_138 rfl (Or.inl rfl) (shc_k hsh 34 (by decide) (by decide)) ?_
        obtain ⟨F32, F32e⟩ : ∃ F32 : AF, F32 = fu F29 34 6 ((z12 * (x26 + 1)) - a8) := ⟨_, rfl⟩
        have h := h F32 F32e
        rw [← F32e]
        refine go_aload_n (show decode cX7_locateInLine 167 = .ok (.aload_n 0, 1) by decide +kernel) (by rfl) ?_
        refine go_iconst (show decode cX7_locateInLine 168 = .ok (.iconst 1, 1) by decide +kernel) (by decide) ?_
        refine go_iload_n (show decode cX7_locateInLine 169 = .ok (.iload_n 2, 1) by decide +kernel) (by rfl) ?_
        obtain ⟨q33, h⟩ := h
        refine go_isub (show decode cX7_locateInLine 170 = .ok (.isub, 1) by decide +kernel) q33 ?_
        refine go_iload (show decode cX7_locateInLine 171 = .ok (.iload 13, 2) by decide +kernel) (by rfl) ?_
        refine go_i2l (show decode cX7_locateInLine 173 = .ok (.i2l, 1) by decide +kernel) ?_
        refine go_lload (show decode cX7_locateInLine 174 = .ok (.lload 16, 2) by decide +kernel) (by rfl) ?_
        obtain ⟨q34, h⟩ := h
        refine go_ladd (show decode cX7_locateInLine 176 = .ok (.ladd, 1) by decide +kernel) q34 ?_
        obtain ⟨q35, h⟩ := h
        refine go_l2i (show decode cX7_locateInLine 177 = .ok (.l2i, 1) by decide +kernel) q35 ?_
        refine go_callV (d2 := d - 1) (M2 := MX7_setOuter) (n := 2) (ci := 7) (av := [vI (1 - a2), vI (x16 + x26)]) (st := []) (show decode cX7_locateInLine 178 = .ok (.invokevirtual 127, 3) by decide +kernel) ml_X7_127 mt_X7_setOuter min_X7_setOuter mse_X7_setOuter (by decide) (shc_k hsh 34 (by decide) (by decide)) rfl (Nat.le_of_ble_eq_true rfl) (by omega) (ok_mono h (fun w36 S37 F38 G39 h => ?_))
        obtain ⟨e8, h⟩ := h
        replace e8 := e8.symm; subst e8
        obtain ⟨e9, h⟩ := h
        subst e9
        show Go d MX7_locateInLine 181 [some (vR 34), some (vI a1), some (vI a2), some (vI a3), some (vJ a4), none, some (vI a6), some (vR a7), some (vJ a8), none, some (vI a10), some (vJ z12), none, some (vI x16), some (vJ x21), none, some (vJ x26), none] [] S F38 G39 Q
        refine go_iconst (show decode cX7_locateInLine 181 = .ok (.iconst 1, 1) by decide +kernel) (by decide) ?_
        exact go_zret (show decode cX7_locateInLine 182 = .ok (.ireturn, 1) by decide +kernel) rfl (by decide) h
      · have h := hf hc
        exact R_X7_locateInLine_96 hsh hk7 h
def V_X7_locateInLine_0 (d : Nat) (S : AS) (F : AF) (G : AG) (Q : AQ) (a1 : Int) (a2 : Int) (a3 : Int) (a4 : Int) (a6 : Int) : Prop :=
  (1 ≤ d) ∧
  ∃ z6 : Nat, Pu (d - 1) MX7_inner [vR 34, vI a2] S F G (some (vR z6)) ∧
  (AtCuts S z6) ∧
  ∃ z13 : Int, Pu (d - 1) MX1_bandOf [vR z6, vI a6] S F G (some (vI z13)) ∧
  Go d MX7_locateInLine 20 [some (vR 34), some (vI a1), some (vI a2), some (vI a3), some (vJ a4), none, some (vI a6), some (vR z6), some (vJ a4), none, some (vI z13), none, none, none, none, none, none, none] [] S F G Q
theorem R_X7_locateInLine_0 {d : Nat} {S : AS} {F : AF} {G : AG} {Q : AQ} {a1 : Int} {a2 : Int} {a3 : Int} {a4 : Int} {a6 : Int} (hsh : ShC S) (h : V_X7_locateInLine_0 d S F G Q a1 a2 a3 a4 a6) : Go d MX7_locateInLine 0 [some (vR 34), some (vI a1), some (vI a2), some (vI a3), some (vJ a4), none, some (vI a6), none, none, none, none, none, none, none, none, none, none, none] [] S F G Q := by
  unfold V_X7_locateInLine_0 at h
  refine go_aload_n (show decode cX7_locateInLine 0 = .ok (.aload_n 0, 1) by decide +kernel) (by rfl) ?_
  refine go_iload_n (show decode cX7_locateInLine 1 = .ok (.iload_n 2, 1) by decide +kernel) (by rfl) ?_
  obtain ⟨q1, h⟩ := h
  obtain ⟨z6, p7, h⟩ := h
  refine go_callV (d2 := d - 1) (M2 := MX7_inner) (n := 1) (ci := 7) (av := [vI a2]) (st := []) (show decode cX7_locateInLine 2 = .ok (.invokevirtual 64, 3) by decide +kernel) ml_X7_64 mt_X7_inner min_X7_inner mse_X7_inner (by decide) (shc_k hsh 34 (by decide) (by decide)) rfl (Nat.le_of_ble_eq_true rfl) (by omega) (ok_mono p7 (fun w2 S3 F4 G5 e9 => ?_))
  obtain ⟨e1, e2, e3, e4⟩ := e9
  subst e1
  replace e2 := e2.symm; subst e2
  replace e3 := e3.symm; subst e3
  replace e4 := e4.symm; subst e4
  show Go d MX7_locateInLine 5 [some (vR 34), some (vI a1), some (vI a2), some (vI a3), some (vJ a4), none, some (vI a6), none, none, none, none, none, none, none, none, none, none, none] [vR z6] S F G Q
  refine go_astore (show decode cX7_locateInLine 5 = .ok (.astore 7, 2) by decide +kernel) (by decide) ?_
  show Go d MX7_locateInLine 7 [some (vR 34), some (vI a1), some (vI a2), some (vI a3), some (vJ a4), none, some (vI a6), some (vR z6), none, none, none, none, none, none, none, none, none, none] [] S F G Q
  refine go_lload (show decode cX7_locateInLine 7 = .ok (.lload 4, 2) by decide +kernel) (by rfl) ?_
  refine go_lstore (show decode cX7_locateInLine 9 = .ok (.lstore 8, 2) by decide +kernel) (by decide) ?_
  show Go d MX7_locateInLine 11 [some (vR 34), some (vI a1), some (vI a2), some (vI a3), some (vJ a4), none, some (vI a6), some (vR z6), some (vJ a4), none, none, none, none, none, none, none, none, none] [] S F G Q
  refine go_aload (show decode cX7_locateInLine 11 = .ok (.aload 7, 2) by decide +kernel) (by rfl) ?_
  refine go_iload (show decode cX7_locateInLine 13 = .ok (.iload 6, 2) by decide +kernel) (by rfl) ?_
  obtain ⟨q12, h⟩ := h
  obtain ⟨z13, p14, h⟩ := h
  refine go_callV (d2 := d - 1) (M2 := MX1_bandOf) (n := 1) (ci := 1) (av := [vI a6]) (st := []) (show decode cX7_locateInLine 15 = .ok (.invokevirtual 75, 3) by decide +kernel) ml_X7_75 mt_X1_bandOf min_X1_bandOf mse_X1_bandOf (by decide) q12.1 rfl (Nat.le_of_ble_eq_true rfl) (by omega) (ok_mono p14 (fun w8 S9 F10 G11 e9 => ?_))
  obtain ⟨e1, e2, e3, e4⟩ := e9
  subst e1
  replace e2 := e2.symm; subst e2
  replace e3 := e3.symm; subst e3
  replace e4 := e4.symm; subst e4
  show Go d MX7_locateInLine 18 [some (vR 34), some (vI a1), some (vI a2), some (vI a3), some (vJ a4), none, some (vI a6), some (vR z6), some (vJ a4), none, none, none, none, none, none, none, none, none] [vI z13] S F G Q
  refine go_istore (show decode cX7_locateInLine 18 = .ok (.istore 10, 2) by decide +kernel) (by decide) ?_
  show Go d MX7_locateInLine 20 [some (vR 34), some (vI a1), some (vI a2), some (vI a3), some (vJ a4), none, some (vI a6), some (vR z6), some (vJ a4), none, some (vI z13), none, none, none, none, none, none, none] [] S F G Q
  exact h
def V_X7_findHole_107 (d : Nat) (S : AS) (F : AF) (G : AG) (Q : AQ) (a1 : Nat) (a2 : Nat) (a3 : Int) (a4 : Int) : Prop :=
  (r32 (a4 + 1)) ∧
  Go d MX7_findHole 63 [some (vR 34), some (vR a1), some (vR a2), some (vI a3), some (vI (a4 + 1))] [] S F G Q
theorem R_X7_findHole_107 {d : Nat} {S : AS} {F : AF} {G : AG} {Q : AQ} {a1 : Nat} {a2 : Nat} {a3 : Int} {a4 : Int} (hsh : ShC S) (hk1 : AtCuts S a1) (hk2 : AtCuts S a2) (h : V_X7_findHole_107 d S F G Q a1 a2 a3 a4) : Go d MX7_findHole 107 [some (vR 34), some (vR a1), some (vR a2), some (vI a3), some (vI a4)] [] S F G Q := by
  unfold V_X7_findHole_107 at h
  obtain ⟨q1, h⟩ := h
  refine go_iinc (show decode cX7_findHole 107 = .ok (.iinc 4 1, 3) by decide +kernel) (by rfl) q1 (by decide) ?_
  show Go d MX7_findHole 110 [some (vR 34), some (vR a1), some (vR a2), some (vI a3), some (vI (a4 + 1))] [] S F G Q
  refine go_goto (tgt := 63) (show decode cX7_findHole 110 = .ok (.goto (-47), 3) by decide +kernel) (by decide) ?_
  exact h
def V_X7_findHole_63 (d : Nat) (S : AS) (F : AF) (G : AG) (Q : AQ) (a1 : Nat) (a2 : Nat) (a3 : Int) (a4 : Int) : Prop :=
  ((F a1 1 ≤ a4) →
    (r32 (a3 + 1)) ∧
    ((0 : Int) ≤ a3 + 1) ∧
    ((a3 + 1 : Int) < 105) ∧
    (r32 ((G (a2 + 1) (a3 + 1)) - 1)) ∧
    (1 ≤ d) ∧
    Ok (d - 1) MX7_takeHolesAbove [vR 34, vI ((G (a2 + 1) (a3 + 1)) - 1)] S F G (fun w6 S7 F8 G9 =>
    S7 = S ∧
    w6 = none ∧
    Go d MX7_findHole 52 [some (vR 34), some (vR a1), some (vR a2), some (vI (a3 + 1)), none] [] S F8 G9 Q)) ∧
  ((¬ F a1 1 ≤ a4) →
    (r32 (48 * a3)) ∧
    (r32 ((48 * a3) + a4)) ∧
    (1 ≤ d) ∧
    ∃ z17 : Int, Pu (d - 1) MX2_unitsAt [vR 2, vI (-1), vI ((48 * a3) + a4)] S F G (some (vJ z17)) ∧
    ((z17 ≤ 0) →
      V_X7_findHole_107 d S F G Q a1 a2 a3 a4) ∧
    ((¬ z17 ≤ 0) →
      (r32 (a3 + 1)) ∧
      ((0 : Int) ≤ a3 + 1) ∧
      ((a3 + 1 : Int) < 105) ∧
      ((0 : Int) ≤ a4) ∧
      ((a4 : Int) < 48) ∧
      ∀ G24 : AG, G24 = gu G 36 a4 (G (a2 + 1) (a3 + 1)) →
      V_X7_findHole_107 d S F G24 Q a1 a2 a3 a4))
theorem R_X7_findHole_63 {d : Nat} {S : AS} {F : AF} {G : AG} {Q : AQ} {a1 : Nat} {a2 : Nat} {a3 : Int} {a4 : Int} (hsh : ShC S) (hk1 : AtCuts S a1) (hk2 : AtCuts S a2) (h : V_X7_findHole_63 d S F G Q a1 a2 a3 a4) : Go d MX7_findHole 63 [some (vR 34), some (vR a1), some (vR a2), some (vI a3), some (vI a4)] [] S F G Q := by
  unfold V_X7_findHole_63 at h
  refine go_iload (show decode cX7_findHole 63 = .ok (.iload 4, 2) by decide +kernel) (by rfl) ?_
  refine go_aload_n (show decode cX7_findHole 65 = .ok (.aload_n 1, 1) by decide +kernel) (by rfl) ?_
  refine go_getI (show decode cX7_findHole 66 = .ok (.getfield 135, 3) by decide +kernel) fl_X7_135 (Or.inl rfl) hk1.1 ?_
  obtain ⟨ht, hf⟩ := h
  refine go_icmpge (tgt := 113) (show decode cX7_findHole 69 = .ok (.if_icmp .ge 44, 3) by decide +kernel) (by decide) (fun hc => ?_) (fun hc => ?_)
  · have h := ht hc
    refine go_aload_n (show decode cX7_findHole 113 = .ok (.aload_n 0, 1) by decide +kernel) (by rfl) ?_
    refine go_aload_n (show decode cX7_findHole 114 = .ok (.aload_n 2, 1) by decide +kernel) (by rfl) ?_
    refine go_getRc (show decode cX7_findHole 115 = .ok (.getfield 118, 3) by decide +kernel) fl_X7_118 rfl hk2.1 (v := (a2 + 1)) hk2.2.1 ?_
    refine go_iload_n (show decode cX7_findHole 118 = .ok (.iload_n 3, 1) by decide +kernel) (by rfl) ?_
    refine go_iconst (show decode cX7_findHole 119 = .ok (.iconst 1, 1) by decide +kernel) (by decide) ?_
    obtain ⟨q1, h⟩ := h
    refine go_iadd (show decode cX7_findHole 120 = .ok (.iadd, 1) by decide +kernel) q1 ?_
    obtain ⟨q2, h⟩ := h
    obtain ⟨q3, h⟩ := h
    refine go_iaload (show decode cX7_findHole 121 = .ok (.iaload, 1) by decide +kernel) hk2.2.2.1 q2 (lt_n (m := 105) q3 hk2.2.2.2) ?_
    refine go_iconst (show decode cX7_findHole 122 = .ok (.iconst 1, 1) by decide +kernel) (by decide) ?_
    obtain ⟨q4, h⟩ := h
    refine go_isub (show decode cX7_findHole 123 = .ok (.isub, 1) by decide +kernel) q4 ?_
    obtain ⟨q5, h⟩ := h
    refine go_callV (d2 := d - 1) (M2 := MX7_takeHolesAbove) (n := 1) (ci := 7) (av := [vI ((G (a2 + 1) (a3 + 1)) - 1)]) (st := []) (show decode cX7_findHole 124 = .ok (.invokevirtual 188, 3) by decide +kernel) ml_X7_188 mt_X7_takeHolesAbove min_X7_takeHolesAbove mse_X7_takeHolesAbove (by decide) (shc_k hsh 34 (by decide) (by decide)) rfl (Nat.le_of_ble_eq_true rfl) (by omega) (ok_mono h (fun w6 S7 F8 G9 h => ?_))
    obtain ⟨e8, h⟩ := h
    replace e8 := e8.symm; subst e8
    obtain ⟨e9, h⟩ := h
    subst e9
    show Go d MX7_findHole 127 [some (vR 34), some (vR a1), some (vR a2), some (vI a3), some (vI a4)] [] S F8 G9 Q
    refine go_iinc (show decode cX7_findHole 127 = .ok (.iinc 3 1, 3) by decide +kernel) (by rfl) q1 (by decide) ?_
    show Go d MX7_findHole 130 [some (vR 34), some (vR a1), some (vR a2), some (vI (a3 + 1)), some (vI a4)] [] S F8 G9 Q
    refine go_goto (tgt := 52) (show decode cX7_findHole 130 = .ok (.goto (-78), 3) by decide +kernel) (by decide) ?_
    refine go_clr 4 ?_
    exact h
  · have h := hf hc
    refine go_aload_n (show decode cX7_findHole 72 = .ok (.aload_n 0, 1) by decide +kernel) (by rfl) ?_
    refine go_getRc (show decode cX7_findHole 73 = .ok (.getfield 12, 3) by decide +kernel) fl_X7_12 rfl (shc_k hsh 34 (by decide) (by decide)) (v := 2) (shc_r hsh 34 0 (by decide) (by decide) (by decide)) ?_
    refine go_iconst (show decode cX7_findHole 76 = .ok (.iconst (-1), 1) by decide +kernel) (by decide) ?_
    refine go_bipush (show decode cX7_findHole 77 = .ok (.bipush 48, 2) by decide +kernel) (by decide) ?_
    refine go_iload_n (show decode cX7_findHole 79 = .ok (.iload_n 3, 1) by decide +kernel) (by rfl) ?_
    obtain ⟨q10, h⟩ := h
    refine go_imul (show decode cX7_findHole 80 = .ok (.imul, 1) by decide +kernel) q10 ?_
    refine go_iload (show decode cX7_findHole 81 = .ok (.iload 4, 2) by decide +kernel) (by rfl) ?_
    obtain ⟨q11, h⟩ := h
    refine go_iadd (show decode cX7_findHole 83 = .ok (.iadd, 1) by decide +kernel) q11 ?_
    obtain ⟨q12, h⟩ := h
    obtain ⟨z17, p18, h⟩ := h
    refine go_callV (d2 := d - 1) (M2 := MX2_unitsAt) (n := 2) (ci := 2) (av := [vI (-1), vI ((48 * a3) + a4)]) (st := []) (show decode cX7_findHole 84 = .ok (.invokevirtual 85, 3) by decide +kernel) ml_X7_85 mt_X2_unitsAt min_X2_unitsAt mse_X2_unitsAt (by decide) (shc_k hsh 2 (by decide) (by decide)) rfl (Nat.le_of_ble_eq_true rfl) (by omega) (ok_mono p18 (fun w13 S14 F15 G16 e9 => ?_))
    obtain ⟨e1, e2, e3, e4⟩ := e9
    subst e1
    replace e2 := e2.symm; subst e2
    replace e3 := e3.symm; subst e3
    replace e4 := e4.symm; subst e4
    show Go d MX7_findHole 87 [some (vR 34), some (vR a1), some (vR a2), some (vI a3), some (vI a4)] [vJ z17] S F G Q
    refine go_lconst (n := 0) (show decode cX7_findHole 87 = .ok (.lconst 0, 1) by decide +kernel) ?_
    show Go d MX7_findHole 88 [some (vR 34), some (vR a1), some (vR a2), some (vI a3), some (vI a4)] [vJ 0, vJ z17] S F G Q
    obtain ⟨ht, hf⟩ := h
    refine go_jle (tgt := 107) (show decode cX7_findHole 88 = .ok (.lcmp, 1) by decide +kernel) (show decode cX7_findHole 89 = .ok (.ifCond .le 18, 3) by decide +kernel) (by decide) (fun hc => ?_) (fun hc => ?_)
    · have h := ht hc
      exact R_X7_findHole_107 hsh hk1 hk2 h
    · have h := hf hc
      refine go_aload_n (show decode cX7_findHole 92 = .ok (.aload_n 0, 1) by decide +kernel) (by rfl) ?_
      refine go_getRc (show decode cX7_findHole 93 = .ok (.getfield 25, 3) by decide +kernel) fl_X7_25 rfl (shc_k hsh 34 (by decide) (by decide)) (v := 36) (shc_r hsh 34 9 (by decide) (by decide) (by decide)) ?_
      refine go_iload (show decode cX7_findHole 96 = .ok (.iload 4, 2) by decide +kernel) (by rfl) ?_
      refine go_aload_n (show decode cX7_findHole 98 = .ok (.aload_n 2, 1) by decide +kernel) (by rfl) ?_
      refine go_getRc (show decode cX7_findHole 99 = .ok (.getfield 118, 3) by decide +kernel) fl_X7_118 rfl hk2.1 (v := (a2 + 1)) hk2.2.1 ?_
      refine go_iload_n (show decode cX7_findHole 102 = .ok (.iload_n 3, 1) by decide +kernel) (by rfl) ?_
      refine go_iconst (show decode cX7_findHole 103 = .ok (.iconst 1, 1) by decide +kernel) (by decide) ?_
      obtain ⟨q19, h⟩ := h
      refine go_iadd (show decode cX7_findHole 104 = .ok (.iadd, 1) by decide +kernel) q19 ?_
      obtain ⟨q20, h⟩ := h
      obtain ⟨q21, h⟩ := h
      refine go_iaload (show decode cX7_findHole 105 = .ok (.iaload, 1) by decide +kernel) hk2.2.2.1 q20 (lt_n (m := 105) q21 hk2.2.2.2) ?_
      obtain ⟨q22, h⟩ := h
      obtain ⟨q23, h⟩ := h
      refine go_iastore (show decode cX7_findHole 106 = .ok (.iastore, 1) by decide +kernel) (shc_k hsh 36 (by decide) (by decide)) q22 (lt_n (m := 48) q23 (shc_n hsh 36 (by decide) (by decide)))  ?_
      obtain ⟨G24, G24e⟩ : ∃ G24 : AG, G24 = gu G 36 a4 (G (a2 + 1) (a3 + 1)) := ⟨_, rfl⟩
      have h := h G24 G24e
      rw [← G24e]
      exact R_X7_findHole_107 hsh hk1 hk2 h
def V_X7_findHole_52 (d : Nat) (S : AS) (F : AF) (G : AG) (Q : AQ) (a1 : Nat) (a2 : Nat) (a3 : Int) : Prop :=
  ((F a2 1 ≤ a3) →
    ((F 34 8 ≤ 0) →
      Q (some (vI 0)) S F G) ∧
    ((¬ F 34 8 ≤ 0) →
      Q (some (vI 1)) S F G)) ∧
  ((¬ F a2 1 ≤ a3) →
    Go d MX7_findHole 63 [some (vR 34), some (vR a1), some (vR a2), some (vI a3), some (vI 0)] [] S F G Q)
theorem R_X7_findHole_52 {d : Nat} {S : AS} {F : AF} {G : AG} {Q : AQ} {a1 : Nat} {a2 : Nat} {a3 : Int} (hsh : ShC S) (hk1 : AtCuts S a1) (hk2 : AtCuts S a2) (h : V_X7_findHole_52 d S F G Q a1 a2 a3) : Go d MX7_findHole 52 [some (vR 34), some (vR a1), some (vR a2), some (vI a3), none] [] S F G Q := by
  unfold V_X7_findHole_52 at h
  refine go_iload_n (show decode cX7_findHole 52 = .ok (.iload_n 3, 1) by decide +kernel) (by rfl) ?_
  refine go_aload_n (show decode cX7_findHole 53 = .ok (.aload_n 2, 1) by decide +kernel) (by rfl) ?_
  refine go_getI (show decode cX7_findHole 54 = .ok (.getfield 135, 3) by decide +kernel) fl_X7_135 (Or.inl rfl) hk2.1 ?_
  obtain ⟨ht, hf⟩ := h
  refine go_icmpge (tgt := 133) (show decode cX7_findHole 57 = .ok (.if_icmp .ge 76, 3) by decide +kernel) (by decide) (fun hc => ?_) (fun hc => ?_)
  · have h := ht hc
    refine go_aload_n (show decode cX7_findHole 133 = .ok (.aload_n 0, 1) by decide +kernel) (by rfl) ?_
    refine go_getJ (show decode cX7_findHole 134 = .ok (.getfield 170, 3) by decide +kernel) fl_X7_170 rfl (shc_k hsh 34 (by decide) (by decide)) ?_
    refine go_lconst (n := 0) (show decode cX7_findHole 137 = .ok (.lconst 0, 1) by decide +kernel) ?_
    show Go d MX7_findHole 138 [some (vR 34), some (vR a1), some (vR a2), some (vI a3), none] [vJ 0, vJ (F 34 8)] S F G Q
    obtain ⟨ht, hf⟩ := h
    refine go_jle (tgt := 146) (show decode cX7_findHole 138 = .ok (.lcmp, 1) by decide +kernel) (show decode cX7_findHole 139 = .ok (.ifCond .le 7, 3) by decide +kernel) (by decide) (fun hc => ?_) (fun hc => ?_)
    · have h := ht hc
      refine go_iconst (show decode cX7_findHole 146 = .ok (.iconst 0, 1) by decide +kernel) (by decide) ?_
      exact go_zret (show decode cX7_findHole 147 = .ok (.ireturn, 1) by decide +kernel) rfl (by decide) h
    · have h := hf hc
      refine go_iconst (show decode cX7_findHole 142 = .ok (.iconst 1, 1) by decide +kernel) (by decide) ?_
      refine go_goto (tgt := 147) (show decode cX7_findHole 143 = .ok (.goto 4, 3) by decide +kernel) (by decide) ?_
      exact go_zret (show decode cX7_findHole 147 = .ok (.ireturn, 1) by decide +kernel) rfl (by decide) h
  · have h := hf hc
    refine go_iconst (show decode cX7_findHole 60 = .ok (.iconst 0, 1) by decide +kernel) (by decide) ?_
    refine go_istore (show decode cX7_findHole 61 = .ok (.istore 4, 2) by decide +kernel) (by decide) ?_
    show Go d MX7_findHole 63 [some (vR 34), some (vR a1), some (vR a2), some (vI a3), some (vI 0)] [] S F G Q
    exact h
def V_X7_findHole_29 (d : Nat) (S : AS) (F : AF) (G : AG) (Q : AQ) (a1 : Nat) (a2 : Nat) (a3 : Int) : Prop :=
  ((F a1 1 ≤ a3) →
    Go d MX7_findHole 52 [some (vR 34), some (vR a1), some (vR a2), some (vI 0), none] [] S F G Q) ∧
  ((¬ F a1 1 ≤ a3) →
    ((0 : Int) ≤ a3) ∧
    ((a3 : Int) < 48) ∧
    ∀ G3 : AG, G3 = gu G 36 a3 0 →
    (r32 (a3 + 1)) ∧
    Go d MX7_findHole 29 [some (vR 34), some (vR a1), some (vR a2), some (vI (a3 + 1)), none] [] S F G3 Q)
theorem R_X7_findHole_29 {d : Nat} {S : AS} {F : AF} {G : AG} {Q : AQ} {a1 : Nat} {a2 : Nat} {a3 : Int} (hsh : ShC S) (hk1 : AtCuts S a1) (hk2 : AtCuts S a2) (h : V_X7_findHole_29 d S F G Q a1 a2 a3) : Go d MX7_findHole 29 [some (vR 34), some (vR a1), some (vR a2), some (vI a3), none] [] S F G Q := by
  unfold V_X7_findHole_29 at h
  refine go_iload_n (show decode cX7_findHole 29 = .ok (.iload_n 3, 1) by decide +kernel) (by rfl) ?_
  refine go_aload_n (show decode cX7_findHole 30 = .ok (.aload_n 1, 1) by decide +kernel) (by rfl) ?_
  refine go_getI (show decode cX7_findHole 31 = .ok (.getfield 135, 3) by decide +kernel) fl_X7_135 (Or.inl rfl) hk1.1 ?_
  obtain ⟨ht, hf⟩ := h
  refine go_icmpge (tgt := 50) (show decode cX7_findHole 34 = .ok (.if_icmp .ge 16, 3) by decide +kernel) (by decide) (fun hc => ?_) (fun hc => ?_)
  · have h := ht hc
    refine go_iconst (show decode cX7_findHole 50 = .ok (.iconst 0, 1) by decide +kernel) (by decide) ?_
    refine go_istore_n (show decode cX7_findHole 51 = .ok (.istore_n 3, 1) by decide +kernel) (by decide) ?_
    show Go d MX7_findHole 52 [some (vR 34), some (vR a1), some (vR a2), some (vI 0), none] [] S F G Q
    exact h
  · have h := hf hc
    refine go_aload_n (show decode cX7_findHole 37 = .ok (.aload_n 0, 1) by decide +kernel) (by rfl) ?_
    refine go_getRc (show decode cX7_findHole 38 = .ok (.getfield 25, 3) by decide +kernel) fl_X7_25 rfl (shc_k hsh 34 (by decide) (by decide)) (v := 36) (shc_r hsh 34 9 (by decide) (by decide) (by decide)) ?_
    refine go_iload_n (show decode cX7_findHole 41 = .ok (.iload_n 3, 1) by decide +kernel) (by rfl) ?_
    refine go_iconst (show decode cX7_findHole 42 = .ok (.iconst 0, 1) by decide +kernel) (by decide) ?_
    obtain ⟨q1, h⟩ := h
    obtain ⟨q2, h⟩ := h
    refine go_iastore (show decode cX7_findHole 43 = .ok (.iastore, 1) by decide +kernel) (shc_k hsh 36 (by decide) (by decide)) q1 (lt_n (m := 48) q2 (shc_n hsh 36 (by decide) (by decide)))  ?_
    obtain ⟨G3, G3e⟩ : ∃ G3 : AG, G3 = gu G 36 a3 0 := ⟨_, rfl⟩
    have h := h G3 G3e
    rw [← G3e]
    obtain ⟨q4, h⟩ := h
    refine go_iinc (show decode cX7_findHole 44 = .ok (.iinc 3 1, 3) by decide +kernel) (by rfl) q4 (by decide) ?_
    show Go d MX7_findHole 47 [some (vR 34), some (vR a1), some (vR a2), some (vI (a3 + 1)), none] [] S F G3 Q
    refine go_goto (tgt := 29) (show decode cX7_findHole 47 = .ok (.goto (-18), 3) by decide +kernel) (by decide) ?_
    exact h
def V_X7_findHole_0 (d : Nat) (S : AS) (F : AF) (G : AG) (Q : AQ)  : Prop :=
  ∀ F1 : AF, F1 = fu F 34 8 0 →
  Go d MX7_findHole 29 [some (vR 34), some (vR 4), some (vR 11), some (vI 0), none] [] S F1 G Q
theorem R_X7_findHole_0 {d : Nat} {S : AS} {F : AF} {G : AG} {Q : AQ}  (hsh : ShC S) (h : V_X7_findHole_0 d S F G Q ) : Go d MX7_findHole 0 [some (vR 34), none, none, none, none] [] S F G Q := by
  unfold V_X7_findHole_0 at h
  refine go_aload_n (show decode cX7_findHole 0 = .ok (.aload_n 0, 1) by decide +kernel) (by rfl) ?_
  refine go_getRc (show decode cX7_findHole 1 = .ok (.getfield 12, 3) by decide +kernel) fl_X7_12 rfl (shc_k hsh 34 (by decide) (by decide)) (v := 2) (shc_r hsh 34 0 (by decide) (by decide) (by decide)) ?_
  refine go_getRc (show decode cX7_findHole 4 = .ok (.getfield 61, 3) by decide +kernel) fl_X7_61 rfl (shc_k hsh 2 (by decide) (by decide)) (v := 3) (shc_r hsh 2 0 (by decide) (by decide) (by decide)) ?_
  refine go_getRc (show decode cX7_findHole 7 = .ok (.getfield 55, 3) by decide +kernel) fl_X7_55 rfl (shc_k hsh 3 (by decide) (by decide)) (v := 4) (shc_r hsh 3 0 (by decide) (by decide) (by decide)) ?_
  refine go_astore_n (show decode cX7_findHole 10 = .ok (.astore_n 1, 1) by decide +kernel) (by decide) ?_
  show Go d MX7_findHole 11 [some (vR 34), some (vR 4), none, none, none] [] S F G Q
  refine go_aload_n (show decode cX7_findHole 11 = .ok (.aload_n 0, 1) by decide +kernel) (by rfl) ?_
  refine go_getRc (show decode cX7_findHole 12 = .ok (.getfield 12, 3) by decide +kernel) fl_X7_12 rfl (shc_k hsh 34 (by decide) (by decide)) (v := 2) (shc_r hsh 34 0 (by decide) (by decide) (by decide)) ?_
  refine go_getRc (show decode cX7_findHole 15 = .ok (.getfield 51, 3) by decide +kernel) fl_X7_51 rfl (shc_k hsh 2 (by decide) (by decide)) (v := 10) (shc_r hsh 2 1 (by decide) (by decide) (by decide)) ?_
  refine go_getRc (show decode cX7_findHole 18 = .ok (.getfield 55, 3) by decide +kernel) fl_X7_55 rfl (shc_k hsh 10 (by decide) (by decide)) (v := 11) (shc_r hsh 10 0 (by decide) (by decide) (by decide)) ?_
  refine go_astore_n (show decode cX7_findHole 21 = .ok (.astore_n 2, 1) by decide +kernel) (by decide) ?_
  show Go d MX7_findHole 22 [some (vR 34), some (vR 4), some (vR 11), none, none] [] S F G Q
  refine go_aload_n (show decode cX7_findHole 22 = .ok (.aload_n 0, 1) by decide +kernel) (by rfl) ?_
  refine go_lconst (n := 0) (show decode cX7_findHole 23 = .ok (.lconst 0, 1) by decide +kernel) ?_
  show Go d MX7_findHole 24 [some (vR 34), some (vR 4), some (vR 11), none, none] [vJ 0, vR 34] S F G Q
  refine go_putJ (show decode cX7_findHole 24 = .ok (.putfield 170, 3) by decide +kernel) fl_X7_170 rfl (Or.inl rfl) (shc_k hsh 34 (by decide) (by decide)) ?_
  obtain ⟨F1, F1e⟩ : ∃ F1 : AF, F1 = fu F 34 8 0 := ⟨_, rfl⟩
  have h := h F1 F1e
  rw [← F1e]
  refine go_iconst (show decode cX7_findHole 27 = .ok (.iconst 0, 1) by decide +kernel) (by decide) ?_
  refine go_istore_n (show decode cX7_findHole 28 = .ok (.istore_n 3, 1) by decide +kernel) (by decide) ?_
  show Go d MX7_findHole 29 [some (vR 34), some (vR 4), some (vR 11), some (vI 0), none] [] S F1 G Q
  exact h
def V_X7_takeHolesAbove_174 (d : Nat) (S : AS) (F : AF) (G : AG) (Q : AQ) (a1 : Int) (a2 : Nat) (a3 : Int) (a4 : Int) (a5 : Int) (a6 : Int) (a7 : Int) : Prop :=
  (r32 (a4 + 1)) ∧
  Go d MX7_takeHolesAbove 16 [some (vR 34), some (vI a1), some (vR a2), some (vI a3), some (vI (a4 + 1)), none, none, none] [] S F G Q
theorem R_X7_takeHolesAbove_174 {d : Nat} {S : AS} {F : AF} {G : AG} {Q : AQ} {a1 : Int} {a2 : Nat} {a3 : Int} {a4 : Int} {a5 : Int} {a6 : Int} {a7 : Int} (hsh : ShC S) (hk2 : AtCuts S a2) (h : V_X7_takeHolesAbove_174 d S F G Q a1 a2 a3 a4 a5 a6 a7) : Go d MX7_takeHolesAbove 174 [some (vR 34), some (vI a1), some (vR a2), some (vI a3), some (vI a4), some (vI a5), some (vI a6), some (vI a7)] [] S F G Q := by
  unfold V_X7_takeHolesAbove_174 at h
  obtain ⟨q1, h⟩ := h
  refine go_iinc (show decode cX7_takeHolesAbove 174 = .ok (.iinc 4 1, 3) by decide +kernel) (by rfl) q1 (by decide) ?_
  show Go d MX7_takeHolesAbove 177 [some (vR 34), some (vI a1), some (vR a2), some (vI a3), some (vI (a4 + 1)), some (vI a5), some (vI a6), some (vI a7)] [] S F G Q
  refine go_goto (tgt := 16) (show decode cX7_takeHolesAbove 177 = .ok (.goto (-161), 3) by decide +kernel) (by decide) ?_
  refine go_clr 5 ?_
  refine go_clr 6 ?_
  refine go_clr 7 ?_
  exact h
def V_X7_takeHolesAbove_133 (d : Nat) (S : AS) (F : AF) (G : AG) (Q : AQ) (a1 : Int) (a2 : Nat) (a3 : Int) (a4 : Int) (a5 : Int) (a6 : Int) (s0 : Int) : Prop :=
  ((a1 < a5) →
    V_X7_takeHolesAbove_174 d S F G Q a1 a2 a3 a4 a5 a6 s0) ∧
  ((¬ a1 < a5) →
    ((¬ s0 = 0) →
      V_X7_takeHolesAbove_174 d S F G Q a1 a2 a3 a4 a5 a6 s0) ∧
    ((s0 = 0) →
      ((48 ≤ a3) →
        V_X7_takeHolesAbove_174 d S F G Q a1 a2 a3 a4 a5 a6 s0) ∧
      ((¬ 48 ≤ a3) →
        ((0 : Int) ≤ a3) ∧
        ((a3 : Int) < 48) ∧
        ∀ G3 : AG, G3 = gu G 37 a3 a6 →
        ∀ G4 : AG, G4 = gu G3 38 a3 a5 →
        (r32 (a3 + 1)) ∧
        V_X7_takeHolesAbove_174 d S F G4 Q a1 a2 (a3 + 1) a4 a5 a6 s0)))
theorem R_X7_takeHolesAbove_133 {d : Nat} {S : AS} {F : AF} {G : AG} {Q : AQ} {a1 : Int} {a2 : Nat} {a3 : Int} {a4 : Int} {a5 : Int} {a6 : Int} {s0 : Int} (hsh : ShC S) (hk2 : AtCuts S a2) (h : V_X7_takeHolesAbove_133 d S F G Q a1 a2 a3 a4 a5 a6 s0) : Go d MX7_takeHolesAbove 133 [some (vR 34), some (vI a1), some (vR a2), some (vI a3), some (vI a4), some (vI a5), some (vI a6), none] [vI s0] S F G Q := by
  unfold V_X7_takeHolesAbove_133 at h
  refine go_istore (show decode cX7_takeHolesAbove 133 = .ok (.istore 7, 2) by decide +kernel) (by decide) ?_
  show Go d MX7_takeHolesAbove 135 [some (vR 34), some (vI a1), some (vR a2), some (vI a3), some (vI a4), some (vI a5), some (vI a6), some (vI s0)] [] S F G Q
  refine go_iload (show decode cX7_takeHolesAbove 135 = .ok (.iload 5, 2) by decide +kernel) (by rfl) ?_
  refine go_iload_n (show decode cX7_takeHolesAbove 137 = .ok (.iload_n 1, 1) by decide +kernel) (by rfl) ?_
  obtain ⟨ht, hf⟩ := h
  refine go_icmpgt (tgt := 174) (show decode cX7_takeHolesAbove 138 = .ok (.if_icmp .gt 36, 3) by decide +kernel) (by decide) (fun hc => ?_) (fun hc => ?_)
  · have h := ht hc
    exact R_X7_takeHolesAbove_174 hsh hk2 h
  · have h := hf hc
    refine go_iload (show decode cX7_takeHolesAbove 141 = .ok (.iload 7, 2) by decide +kernel) (by rfl) ?_
    obtain ⟨ht, hf⟩ := h
    refine go_ifne (tgt := 174) (show decode cX7_takeHolesAbove 143 = .ok (.ifCond .ne 31, 3) by decide +kernel) (by decide) (fun hc => ?_) (fun hc => ?_)
    · have h := ht hc
      exact R_X7_takeHolesAbove_174 hsh hk2 h
    · have h := hf hc
      refine go_iload_n (show decode cX7_takeHolesAbove 146 = .ok (.iload_n 3, 1) by decide +kernel) (by rfl) ?_
      refine go_aload_n (show decode cX7_takeHolesAbove 147 = .ok (.aload_n 0, 1) by decide +kernel) (by rfl) ?_
      refine go_getRc (show decode cX7_takeHolesAbove 148 = .ok (.getfield 32, 3) by decide +kernel) fl_X7_32 rfl (shc_k hsh 34 (by decide) (by decide)) (v := 38) (shc_r hsh 34 11 (by decide) (by decide) (by decide)) ?_
      refine go_alenc (show decode cX7_takeHolesAbove 151 = .ok (.arraylength, 1) by decide +kernel) (by have h9 : sK S 38 = 20 := (shc_k hsh 38 (by decide) (by decide)); omega) (z := 48) (by rw [(shc_n hsh 38 (by decide) (by decide))]; rfl) ?_
      obtain ⟨ht, hf⟩ := h
      refine go_icmpge (tgt := 174) (show decode cX7_takeHolesAbove 152 = .ok (.if_icmp .ge 22, 3) by decide +kernel) (by decide) (fun hc => ?_) (fun hc => ?_)
      · have h := ht hc
        exact R_X7_takeHolesAbove_174 hsh hk2 h
      · have h := hf hc
        refine go_aload_n (show decode cX7_takeHolesAbove 155 = .ok (.aload_n 0, 1) by decide +kernel) (by rfl) ?_
        refine go_getRc (show decode cX7_takeHolesAbove 156 = .ok (.getfield 29, 3) by decide +kernel) fl_X7_29 rfl (shc_k hsh 34 (by decide) (by decide)) (v := 37) (shc_r hsh 34 10 (by decide) (by decide) (by decide)) ?_
        refine go_iload_n (show decode cX7_takeHolesAbove 159 = .ok (.iload_n 3, 1) by decide +kernel) (by rfl) ?_
        refine go_iload (show decode cX7_takeHolesAbove 160 = .ok (.iload 6, 2) by decide +kernel) (by rfl) ?_
        obtain ⟨q1, h⟩ := h
        obtain ⟨q2, h⟩ := h
        refine go_iastore (show decode cX7_takeHolesAbove 162 = .ok (.iastore, 1) by decide +kernel) (shc_k hsh 37 (by decide) (by decide)) q1 (lt_n (m := 48) q2 (shc_n hsh 37 (by decide) (by decide)))  ?_
        obtain ⟨G3, G3e⟩ : ∃ G3 : AG, G3 = gu G 37 a3 a6 := ⟨_, rfl⟩
        have h := h G3 G3e
        rw [← G3e]
        refine go_aload_n (show decode cX7_takeHolesAbove 163 = .ok (.aload_n 0, 1) by decide +kernel) (by rfl) ?_
        refine go_getRc (show decode cX7_takeHolesAbove 164 = .ok (.getfield 32, 3) by decide +kernel) fl_X7_32 rfl (shc_k hsh 34 (by decide) (by decide)) (v := 38) (shc_r hsh 34 11 (by decide) (by decide) (by decide)) ?_
        refine go_iload_n (show decode cX7_takeHolesAbove 167 = .ok (.iload_n 3, 1) by decide +kernel) (by rfl) ?_
        refine go_iload (show decode cX7_takeHolesAbove 168 = .ok (.iload 5, 2) by decide +kernel) (by rfl) ?_
        refine go_iastore (show decode cX7_takeHolesAbove 170 = .ok (.iastore, 1) by decide +kernel) (shc_k hsh 38 (by decide) (by decide)) q1 (lt_n (m := 48) q2 (shc_n hsh 38 (by decide) (by decide)))  ?_
        obtain ⟨G4, G4e⟩ : ∃ G4 : AG, G4 = gu G3 38 a3 a5 := ⟨_, rfl⟩
        have h := h G4 G4e
        rw [← G4e]
        obtain ⟨q5, h⟩ := h
        refine go_iinc (show decode cX7_takeHolesAbove 171 = .ok (.iinc 3 1, 3) by decide +kernel) (by rfl) q5 (by decide) ?_
        show Go d MX7_takeHolesAbove 174 [some (vR 34), some (vI a1), some (vR a2), some (vI (a3 + 1)), some (vI a4), some (vI a5), some (vI a6), some (vI s0)] [] S F G4 Q
        exact R_X7_takeHolesAbove_174 hsh hk2 h
def V_X7_takeHolesAbove_132 (d : Nat) (S : AS) (F : AF) (G : AG) (Q : AQ) (a1 : Int) (a2 : Nat) (a3 : Int) (a4 : Int) (a5 : Int) (a6 : Int) : Prop :=
  V_X7_takeHolesAbove_133 d S F G Q a1 a2 a3 a4 a5 a6 0
theorem R_X7_takeHolesAbove_132 {d : Nat} {S : AS} {F : AF} {G : AG} {Q : AQ} {a1 : Int} {a2 : Nat} {a3 : Int} {a4 : Int} {a5 : Int} {a6 : Int} (hsh : ShC S) (hk2 : AtCuts S a2) (h : V_X7_takeHolesAbove_132 d S F G Q a1 a2 a3 a4 a5 a6) : Go d MX7_takeHolesAbove 132 [some (vR 34), some (vI a1), some (vR a2), some (vI a3), some (vI a4), some (vI a5), some (vI a6), none] [] S F G Q := by
  unfold V_X7_takeHolesAbove_132 at h
  refine go_iconst (show decode cX7_takeHolesAbove 132 = .ok (.iconst 0, 1) by decide +kernel) (by decide) ?_
  exact R_X7_takeHolesAbove_133 hsh hk2 h
def V_X7_takeHolesAbove_111 (d : Nat) (S : AS) (F : AF) (G : AG) (Q : AQ) (a1 : Int) (a2 : Nat) (a3 : Int) (a4 : Int) (a5 : Int) (a6 : Int) : Prop :=
  ((a3 ≤ 0) →
    V_X7_takeHolesAbove_132 d S F G Q a1 a2 a3 a4 a5 a6) ∧
  ((¬ a3 ≤ 0) →
    (r32 (a3 - 1)) ∧
    ((0 : Int) ≤ a3 - 1) ∧
    ((a3 - 1 : Int) < 48) ∧
    ((¬ G 38 (a3 - 1) = a5) →
      V_X7_takeHolesAbove_132 d S F G Q a1 a2 a3 a4 a5 a6) ∧
    ((G 38 (a3 - 1) = a5) →
      V_X7_takeHolesAbove_133 d S F G Q a1 a2 a3 a4 a5 a6 1))
theorem R_X7_takeHolesAbove_111 {d : Nat} {S : AS} {F : AF} {G : AG} {Q : AQ} {a1 : Int} {a2 : Nat} {a3 : Int} {a4 : Int} {a5 : Int} {a6 : Int} (hsh : ShC S) (hk2 : AtCuts S a2) (h : V_X7_takeHolesAbove_111 d S F G Q a1 a2 a3 a4 a5 a6) : Go d MX7_takeHolesAbove 111 [some (vR 34), some (vI a1), some (vR a2), some (vI a3), some (vI a4), some (vI a5), some (vI a6), none] [] S F G Q := by
  unfold V_X7_takeHolesAbove_111 at h
  refine go_iload_n (show decode cX7_takeHolesAbove 111 = .ok (.iload_n 3, 1) by decide +kernel) (by rfl) ?_
  obtain ⟨ht, hf⟩ := h
  refine go_ifle (tgt := 132) (show decode cX7_takeHolesAbove 112 = .ok (.ifCond .le 20, 3) by decide +kernel) (by decide) (fun hc => ?_) (fun hc => ?_)
  · have h := ht hc
    exact R_X7_takeHolesAbove_132 hsh hk2 h
  · have h := hf hc
    refine go_aload_n (show decode cX7_takeHolesAbove 115 = .ok (.aload_n 0, 1) by decide +kernel) (by rfl) ?_
    refine go_getRc (show decode cX7_takeHolesAbove 116 = .ok (.getfield 32, 3) by decide +kernel) fl_X7_32 rfl (shc_k hsh 34 (by decide) (by decide)) (v := 38) (shc_r hsh 34 11 (by decide) (by decide) (by decide)) ?_
    refine go_iload_n (show decode cX7_takeHolesAbove 119 = .ok (.iload_n 3, 1) by decide +kernel) (by rfl) ?_
    refine go_iconst (show decode cX7_takeHolesAbove 120 = .ok (.iconst 1, 1) by decide +kernel) (by decide) ?_
    obtain ⟨q1, h⟩ := h
    refine go_isub (show decode cX7_takeHolesAbove 121 = .ok (.isub, 1) by decide +kernel) q1 ?_
    obtain ⟨q2, h⟩ := h
    obtain ⟨q3, h⟩ := h
    refine go_iaload (show decode cX7_takeHolesAbove 122 = .ok (.iaload, 1) by decide +kernel) (shc_k hsh 38 (by decide) (by decide)) q2 (lt_n (m := 48) q3 (shc_n hsh 38 (by decide) (by decide))) ?_
    refine go_iload (show decode cX7_takeHolesAbove 123 = .ok (.iload 5, 2) by decide +kernel) (by rfl) ?_
    obtain ⟨ht, hf⟩ := h
    refine go_icmpne (tgt := 132) (show decode cX7_takeHolesAbove 125 = .ok (.if_icmp .ne 7, 3) by decide +kernel) (by decide) (fun hc => ?_) (fun hc => ?_)
    · have h := ht hc
      exact R_X7_takeHolesAbove_132 hsh hk2 h
    · have h := hf hc
      refine go_iconst (show decode cX7_takeHolesAbove 128 = .ok (.iconst 1, 1) by decide +kernel) (by decide) ?_
      refine go_goto (tgt := 133) (show decode cX7_takeHolesAbove 129 = .ok (.goto 4, 3) by decide +kernel) (by decide) ?_
      exact R_X7_takeHolesAbove_133 hsh hk2 h
def V_X7_takeHolesAbove_58 (d : Nat) (S : AS) (F : AF) (G : AG) (Q : AQ) (a1 : Int) (a2 : Nat) (a3 : Int) (a4 : Int) (a5 : Int) (a6 : Int) : Prop :=
  ((a3 ≤ 0) →
    V_X7_takeHolesAbove_111 d S F G Q a1 a2 a3 a4 a5 a6) ∧
  ((¬ a3 ≤ 0) →
    (r32 (a3 - 1)) ∧
    ((0 : Int) ≤ a3 - 1) ∧
    ((a3 - 1 : Int) < 48) ∧
    ((a5 ≤ G 38 (a3 - 1)) →
      V_X7_takeHolesAbove_111 d S F G Q a1 a2 a3 a4 a5 a6) ∧
    ((¬ a5 ≤ G 38 (a3 - 1)) →
      (r32 (a3 + (-1))) ∧
      ((0 : Int) ≤ a3 + (-1)) ∧
      ((a3 + (-1) : Int) < 48) ∧
      ∀ x7 : Int, x7 = G 37 (a3 + (-1)) →
      ((0 : Int) ≤ a4) ∧
      ((a4 : Int) < 105) ∧
      (r32 ((G (a2 + 1) a4) - 1)) ∧
      (1 ≤ d) ∧
      Ok (d - 1) MX7_takeHole [vR 34, vI x7, vI (G 38 (a3 + (-1))), vI ((G (a2 + 1) a4) - 1), vI a1] S F G (fun w12 S13 F14 G15 =>
      S13 = S ∧
      w12 = none ∧
      Go d MX7_takeHolesAbove 58 [some (vR 34), some (vI a1), some (vR a2), some (vI (a3 + (-1))), some (vI a4), some (vI a5), some (vI x7), none] [] S F14 G15 Q)))
theorem R_X7_takeHolesAbove_58 {d : Nat} {S : AS} {F : AF} {G : AG} {Q : AQ} {a1 : Int} {a2 : Nat} {a3 : Int} {a4 : Int} {a5 : Int} {a6 : Int} (hsh : ShC S) (hk2 : AtCuts S a2) (h : V_X7_takeHolesAbove_58 d S F G Q a1 a2 a3 a4 a5 a6) : Go d MX7_takeHolesAbove 58 [some (vR 34), some (vI a1), some (vR a2), some (vI a3), some (vI a4), some (vI a5), some (vI a6), none] [] S F G Q := by
  unfold V_X7_takeHolesAbove_58 at h
  refine go_iload_n (show decode cX7_takeHolesAbove 58 = .ok (.iload_n 3, 1) by decide +kernel) (by rfl) ?_
  obtain ⟨ht, hf⟩ := h
  refine go_ifle (tgt := 111) (show decode cX7_takeHolesAbove 59 = .ok (.ifCond .le 52, 3) by decide +kernel) (by decide) (fun hc => ?_) (fun hc => ?_)
  · have h := ht hc
    exact R_X7_takeHolesAbove_111 hsh hk2 h
  · have h := hf hc
    refine go_aload_n (show decode cX7_takeHolesAbove 62 = .ok (.aload_n 0, 1) by decide +kernel) (by rfl) ?_
    refine go_getRc (show decode cX7_takeHolesAbove 63 = .ok (.getfield 32, 3) by decide +kernel) fl_X7_32 rfl (shc_k hsh 34 (by decide) (by decide)) (v := 38) (shc_r hsh 34 11 (by decide) (by decide) (by decide)) ?_
    refine go_iload_n (show decode cX7_takeHolesAbove 66 = .ok (.iload_n 3, 1) by decide +kernel) (by rfl) ?_
    refine go_iconst (show decode cX7_takeHolesAbove 67 = .ok (.iconst 1, 1) by decide +kernel) (by decide) ?_
    obtain ⟨q1, h⟩ := h
    refine go_isub (show decode cX7_takeHolesAbove 68 = .ok (.isub, 1) by decide +kernel) q1 ?_
    obtain ⟨q2, h⟩ := h
    obtain ⟨q3, h⟩ := h
    refine go_iaload (show decode cX7_takeHolesAbove 69 = .ok (.iaload, 1) by decide +kernel) (shc_k hsh 38 (by decide) (by decide)) q2 (lt_n (m := 48) q3 (shc_n hsh 38 (by decide) (by decide))) ?_
    refine go_iload (show decode cX7_takeHolesAbove 70 = .ok (.iload 5, 2) by decide +kernel) (by rfl) ?_
    obtain ⟨ht, hf⟩ := h
    refine go_icmpge (tgt := 111) (show decode cX7_takeHolesAbove 72 = .ok (.if_icmp .ge 39, 3) by decide +kernel) (by decide) (fun hc => ?_) (fun hc => ?_)
    · have h := ht hc
      exact R_X7_takeHolesAbove_111 hsh hk2 h
    · have h := hf hc
      obtain ⟨q4, h⟩ := h
      refine go_iinc (show decode cX7_takeHolesAbove 75 = .ok (.iinc 3 (-1), 3) by decide +kernel) (by rfl) q4 (by decide) ?_
      show Go d MX7_takeHolesAbove 78 [some (vR 34), some (vI a1), some (vR a2), some (vI (a3 + (-1))), some (vI a4), some (vI a5), some (vI a6), none] [] S F G Q
      refine go_aload_n (show decode cX7_takeHolesAbove 78 = .ok (.aload_n 0, 1) by decide +kernel) (by rfl) ?_
      refine go_getRc (show decode cX7_takeHolesAbove 79 = .ok (.getfield 29, 3) by decide +kernel) fl_X7_29 rfl (shc_k hsh 34 (by decide) (by decide)) (v := 37) (shc_r hsh 34 10 (by decide) (by decide) (by decide)) ?_
      refine go_iload_n (show decode cX7_takeHolesAbove 82 = .ok (.iload_n 3, 1) by decide +kernel) (by rfl) ?_
      obtain ⟨q5, h⟩ := h
      obtain ⟨q6, h⟩ := h
      refine go_iaload (show decode cX7_takeHolesAbove 83 = .ok (.iaload, 1) by decide +kernel) (shc_k hsh 37 (by decide) (by decide)) q5 (lt_n (m := 48) q6 (shc_n hsh 37 (by decide) (by decide))) ?_
      obtain ⟨x7, x7e⟩ : ∃ x7 : Int, x7 = G 37 (a3 + (-1)) := ⟨_, rfl⟩
      have h := h x7 x7e
      rw [← x7e]
      refine go_istore (show decode cX7_takeHolesAbove 84 = .ok (.istore 6, 2) by decide +kernel) (by decide) ?_
      show Go d MX7_takeHolesAbove 86 [some (vR 34), some (vI a1), some (vR a2), some (vI (a3 + (-1))), some (vI a4), some (vI a5), some (vI x7), none] [] S F G Q
      refine go_aload_n (show decode cX7_takeHolesAbove 86 = .ok (.aload_n 0, 1) by decide +kernel) (by rfl) ?_
      refine go_iload (show decode cX7_takeHolesAbove 87 = .ok (.iload 6, 2) by decide +kernel) (by rfl) ?_
      refine go_aload_n (show decode cX7_takeHolesAbove 89 = .ok (.aload_n 0, 1) by decide +kernel) (by rfl) ?_
      refine go_getRc (show decode cX7_takeHolesAbove 90 = .ok (.getfield 32, 3) by decide +kernel) fl_X7_32 rfl (shc_k hsh 34 (by decide) (by decide)) (v := 38) (shc_r hsh 34 11 (by decide) (by decide) (by decide)) ?_
      refine go_iload_n (show decode cX7_takeHolesAbove 93 = .ok (.iload_n 3, 1) by decide +kernel) (by rfl) ?_
      refine go_iaload (show decode cX7_takeHolesAbove 94 = .ok (.iaload, 1) by decide +kernel) (shc_k hsh 38 (by decide) (by decide)) q5 (lt_n (m := 48) q6 (shc_n hsh 38 (by decide) (by decide))) ?_
      refine go_aload_n (show decode cX7_takeHolesAbove 95 = .ok (.aload_n 2, 1) by decide +kernel) (by rfl) ?_
      refine go_getRc (show decode cX7_takeHolesAbove 96 = .ok (.getfield 118, 3) by decide +kernel) fl_X7_118 rfl hk2.1 (v := (a2 + 1)) hk2.2.1 ?_
      refine go_iload (show decode cX7_takeHolesAbove 99 = .ok (.iload 4, 2) by decide +kernel) (by rfl) ?_
      obtain ⟨q8, h⟩ := h
      obtain ⟨q9, h⟩ := h
      refine go_iaload (show decode cX7_takeHolesAbove 101 = .ok (.iaload, 1) by decide +kernel) hk2.2.2.1 q8 (lt_n (m := 105) q9 hk2.2.2.2) ?_
      refine go_iconst (show decode cX7_takeHolesAbove 102 = .ok (.iconst 1, 1) by decide +kernel) (by decide) ?_
      obtain ⟨q10, h⟩ := h
      refine go_isub (show decode cX7_takeHolesAbove 103 = .ok (.isub, 1) by decide +kernel) q10 ?_
      refine go_iload_n (show decode cX7_takeHolesAbove 104 = .ok (.iload_n 1, 1) by decide +kernel) (by rfl) ?_
      obtain ⟨q11, h⟩ := h
      refine go_callV (d2 := d - 1) (M2 := MX7_takeHole) (n := 4) (ci := 7) (av := [vI x7, vI (G 38 (a3 + (-1))), vI ((G (a2 + 1) a4) - 1), vI a1]) (st := []) (show decode cX7_takeHolesAbove 105 = .ok (.invokevirtual 191, 3) by decide +kernel) ml_X7_191 mt_X7_takeHole min_X7_takeHole mse_X7_takeHole (by decide) (shc_k hsh 34 (by decide) (by decide)) rfl (Nat.le_of_ble_eq_true rfl) (by omega) (ok_mono h (fun w12 S13 F14 G15 h => ?_))
      obtain ⟨e8, h⟩ := h
      replace e8 := e8.symm; subst e8
      obtain ⟨e9, h⟩ := h
      subst e9
      show Go d MX7_takeHolesAbove 108 [some (vR 34), some (vI a1), some (vR a2), some (vI (a3 + (-1))), some (vI a4), some (vI a5), some (vI x7), none] [] S F14 G15 Q
      refine go_goto (tgt := 58) (show decode cX7_takeHolesAbove 108 = .ok (.goto (-50), 3) by decide +kernel) (by decide) ?_
      exact h
def V_X7_takeHolesAbove_47 (d : Nat) (S : AS) (F : AF) (G : AG) (Q : AQ) (a1 : Int) (a2 : Nat) (a3 : Int) (a4 : Int) (s0 : Int) : Prop :=
  ((0 : Int) ≤ a4) ∧
  ((a4 : Int) < 105) ∧
  ∀ x3 : Int, x3 = G (a2 + 1) a4 →
  Go d MX7_takeHolesAbove 58 [some (vR 34), some (vI a1), some (vR a2), some (vI a3), some (vI a4), some (vI s0), some (vI x3), none] [] S F G Q
theorem R_X7_takeHolesAbove_47 {d : Nat} {S : AS} {F : AF} {G : AG} {Q : AQ} {a1 : Int} {a2 : Nat} {a3 : Int} {a4 : Int} {s0 : Int} (hsh : ShC S) (hk2 : AtCuts S a2) (h : V_X7_takeHolesAbove_47 d S F G Q a1 a2 a3 a4 s0) : Go d MX7_takeHolesAbove 47 [some (vR 34), some (vI a1), some (vR a2), some (vI a3), some (vI a4), none, none, none] [vI s0] S F G Q := by
  unfold V_X7_takeHolesAbove_47 at h
  refine go_istore (show decode cX7_takeHolesAbove 47 = .ok (.istore 5, 2) by decide +kernel) (by decide) ?_
  show Go d MX7_takeHolesAbove 49 [some (vR 34), some (vI a1), some (vR a2), some (vI a3), some (vI a4), some (vI s0), none, none] [] S F G Q
  refine go_aload_n (show decode cX7_takeHolesAbove 49 = .ok (.aload_n 2, 1) by decide +kernel) (by rfl) ?_
  refine go_getRc (show decode cX7_takeHolesAbove 50 = .ok (.getfield 118, 3) by decide +kernel) fl_X7_118 rfl hk2.1 (v := (a2 + 1)) hk2.2.1 ?_
  refine go_iload (show decode cX7_takeHolesAbove 53 = .ok (.iload 4, 2) by decide +kernel) (by rfl) ?_
  obtain ⟨q1, h⟩ := h
  obtain ⟨q2, h⟩ := h
  refine go_iaload (show decode cX7_takeHolesAbove 55 = .ok (.iaload, 1) by decide +kernel) hk2.2.2.1 q1 (lt_n (m := 105) q2 hk2.2.2.2) ?_
  obtain ⟨x3, x3e⟩ : ∃ x3 : Int, x3 = G (a2 + 1) a4 := ⟨_, rfl⟩
  have h := h x3 x3e
  rw [← x3e]
  refine go_istore (show decode cX7_takeHolesAbove 56 = .ok (.istore 6, 2) by decide +kernel) (by decide) ?_
  show Go d MX7_takeHolesAbove 58 [some (vR 34), some (vI a1), some (vR a2), some (vI a3), some (vI a4), some (vI s0), some (vI x3), none] [] S F G Q
  exact h
def V_X7_takeHolesAbove_16 (d : Nat) (S : AS) (F : AF) (G : AG) (Q : AQ) (a1 : Int) (a2 : Nat) (a3 : Int) (a4 : Int) : Prop :=
  ((F a2 1 < a4) →
    Q none S F G) ∧
  ((¬ F a2 1 < a4) →
    ((F a2 1 ≤ a4) →
      (r32 (a1 + 1)) ∧
      V_X7_takeHolesAbove_47 d S F G Q a1 a2 a3 a4 (a1 + 1)) ∧
    ((¬ F a2 1 ≤ a4) →
      ((0 : Int) ≤ a4) ∧
      ((a4 : Int) < 48) ∧
      V_X7_takeHolesAbove_47 d S F G Q a1 a2 a3 a4 (G 36 a4)))
theorem R_X7_takeHolesAbove_16 {d : Nat} {S : AS} {F : AF} {G : AG} {Q : AQ} {a1 : Int} {a2 : Nat} {a3 : Int} {a4 : Int} (hsh : ShC S) (hk2 : AtCuts S a2) (h : V_X7_takeHolesAbove_16 d S F G Q a1 a2 a3 a4) : Go d MX7_takeHolesAbove 16 [some (vR 34), some (vI a1), some (vR a2), some (vI a3), some (vI a4), none, none, none] [] S F G Q := by
  unfold V_X7_takeHolesAbove_16 at h
  refine go_iload (show decode cX7_takeHolesAbove 16 = .ok (.iload 4, 2) by decide +kernel) (by rfl) ?_
  refine go_aload_n (show decode cX7_takeHolesAbove 18 = .ok (.aload_n 2, 1) by decide +kernel) (by rfl) ?_
  refine go_getI (show decode cX7_takeHolesAbove 19 = .ok (.getfield 135, 3) by decide +kernel) fl_X7_135 (Or.inl rfl) hk2.1 ?_
  obtain ⟨ht, hf⟩ := h
  refine go_icmpgt (tgt := 180) (show decode cX7_takeHolesAbove 22 = .ok (.if_icmp .gt 158, 3) by decide +kernel) (by decide) (fun hc => ?_) (fun hc => ?_)
  · have h := ht hc
    exact go_vret (show decode cX7_takeHolesAbove 180 = .ok (.return_, 1) by decide +kernel) rfl h
  · have h := hf hc
    refine go_iload (show decode cX7_takeHolesAbove 25 = .ok (.iload 4, 2) by decide +kernel) (by rfl) ?_
    refine go_aload_n (show decode cX7_takeHolesAbove 27 = .ok (.aload_n 2, 1) by decide +kernel) (by rfl) ?_
    refine go_getI (show decode cX7_takeHolesAbove 28 = .ok (.getfield 135, 3) by decide +kernel) fl_X7_135 (Or.inl rfl) hk2.1 ?_
    obtain ⟨ht, hf⟩ := h
    refine go_icmpge (tgt := 44) (show decode cX7_takeHolesAbove 31 = .ok (.if_icmp .ge 13, 3) by decide +kernel) (by decide) (fun hc => ?_) (fun hc => ?_)
    · have h := ht hc
      refine go_iload_n (show decode cX7_takeHolesAbove 44 = .ok (.iload_n 1, 1) by decide +kernel) (by rfl) ?_
      refine go_iconst (show decode cX7_takeHolesAbove 45 = .ok (.iconst 1, 1) by decide +kernel) (by decide) ?_
      obtain ⟨q1, h⟩ := h
      refine go_iadd (show decode cX7_takeHolesAbove 46 = .ok (.iadd, 1) by decide +kernel) q1 ?_
      exact R_X7_takeHolesAbove_47 hsh hk2 h
    · have h := hf hc
      refine go_aload_n (show decode cX7_takeHolesAbove 34 = .ok (.aload_n 0, 1) by decide +kernel) (by rfl) ?_
      refine go_getRc (show decode cX7_takeHolesAbove 35 = .ok (.getfield 25, 3) by decide +kernel) fl_X7_25 rfl (shc_k hsh 34 (by decide) (by decide)) (v := 36) (shc_r hsh 34 9 (by decide) (by decide) (by decide)) ?_
      refine go_iload (show decode cX7_takeHolesAbove 38 = .ok (.iload 4, 2) by decide +kernel) (by rfl) ?_
      obtain ⟨q2, h⟩ := h
      obtain ⟨q3, h⟩ := h
      refine go_iaload (show decode cX7_takeHolesAbove 40 = .ok (.iaload, 1) by decide +kernel) (shc_k hsh 36 (by decide) (by decide)) q2 (lt_n (m := 48) q3 (shc_n hsh 36 (by decide) (by decide))) ?_
      refine go_goto (tgt := 47) (show decode cX7_takeHolesAbove 41 = .ok (.goto 6, 3) by decide +kernel) (by decide) ?_
      exact R_X7_takeHolesAbove_47 hsh hk2 h
def V_X7_takeHolesAbove_0 (d : Nat) (S : AS) (F : AF) (G : AG) (Q : AQ) (a1 : Int) : Prop :=
  Go d MX7_takeHolesAbove 16 [some (vR 34), some (vI a1), some (vR 4), some (vI 0), some (vI 0), none, none, none] [] S F G Q
theorem R_X7_takeHolesAbove_0 {d : Nat} {S : AS} {F : AF} {G : AG} {Q : AQ} {a1 : Int} (hsh : ShC S) (h : V_X7_takeHolesAbove_0 d S F G Q a1) : Go d MX7_takeHolesAbove 0 [some (vR 34), some (vI a1), none, none, none, none, none, none] [] S F G Q := by
  unfold V_X7_takeHolesAbove_0 at h
  refine go_aload_n (show decode cX7_takeHolesAbove 0 = .ok (.aload_n 0, 1) by decide +kernel) (by rfl) ?_
  refine go_getRc (show decode cX7_takeHolesAbove 1 = .ok (.getfield 12, 3) by decide +kernel) fl_X7_12 rfl (shc_k hsh 34 (by decide) (by decide)) (v := 2) (shc_r hsh 34 0 (by decide) (by decide) (by decide)) ?_
  refine go_getRc (show decode cX7_takeHolesAbove 4 = .ok (.getfield 61, 3) by decide +kernel) fl_X7_61 rfl (shc_k hsh 2 (by decide) (by decide)) (v := 3) (shc_r hsh 2 0 (by decide) (by decide) (by decide)) ?_
  refine go_getRc (show decode cX7_takeHolesAbove 7 = .ok (.getfield 55, 3) by decide +kernel) fl_X7_55 rfl (shc_k hsh 3 (by decide) (by decide)) (v := 4) (shc_r hsh 3 0 (by decide) (by decide) (by decide)) ?_
  refine go_astore_n (show decode cX7_takeHolesAbove 10 = .ok (.astore_n 2, 1) by decide +kernel) (by decide) ?_
  show Go d MX7_takeHolesAbove 11 [some (vR 34), some (vI a1), some (vR 4), none, none, none, none, none] [] S F G Q
  refine go_iconst (show decode cX7_takeHolesAbove 11 = .ok (.iconst 0, 1) by decide +kernel) (by decide) ?_
  refine go_istore_n (show decode cX7_takeHolesAbove 12 = .ok (.istore_n 3, 1) by decide +kernel) (by decide) ?_
  show Go d MX7_takeHolesAbove 13 [some (vR 34), some (vI a1), some (vR 4), some (vI 0), none, none, none, none] [] S F G Q
  refine go_iconst (show decode cX7_takeHolesAbove 13 = .ok (.iconst 0, 1) by decide +kernel) (by decide) ?_
  refine go_istore (show decode cX7_takeHolesAbove 14 = .ok (.istore 4, 2) by decide +kernel) (by decide) ?_
  show Go d MX7_takeHolesAbove 16 [some (vR 34), some (vI a1), some (vR 4), some (vI 0), some (vI 0), none, none, none] [] S F G Q
  exact h
def V_X7_takeHole_47 (d : Nat) (S : AS) (F : AF) (G : AG) (Q : AQ) (a1 : Int) (a2 : Int) (a3 : Int) (a4 : Int) (a5 : Int) : Prop :=
  ∀ F1 : AF, F1 = fu F 34 8 a5 →
  (1 ≤ d) ∧
  Ok (d - 1) MX3_set [vR 35, vI a1, vI a2, vI a3, vI a4] S F1 G (fun w3 S4 F5 G6 =>
  S4 = S ∧
  w3 = none ∧
  Q none S F5 G6)
theorem R_X7_takeHole_47 {d : Nat} {S : AS} {F : AF} {G : AG} {Q : AQ} {a1 : Int} {a2 : Int} {a3 : Int} {a4 : Int} {a5 : Int} (hsh : ShC S) (h : V_X7_takeHole_47 d S F G Q a1 a2 a3 a4 a5) : Go d MX7_takeHole 47 [some (vR 34), some (vI a1), some (vI a2), some (vI a3), some (vI a4), some (vJ a5), none] [] S F G Q := by
  unfold V_X7_takeHole_47 at h
  refine go_aload_n (show decode cX7_takeHole 47 = .ok (.aload_n 0, 1) by decide +kernel) (by rfl) ?_
  refine go_lload (show decode cX7_takeHole 48 = .ok (.lload 5, 2) by decide +kernel) (by rfl) ?_
  refine go_putJ (show decode cX7_takeHole 50 = .ok (.putfield 170, 3) by decide +kernel) fl_X7_170 rfl (Or.inl rfl) (shc_k hsh 34 (by decide) (by decide)) ?_
  obtain ⟨F1, F1e⟩ : ∃ F1 : AF, F1 = fu F 34 8 a5 := ⟨_, rfl⟩
  have h := h F1 F1e
  rw [← F1e]
  refine go_aload_n (show decode cX7_takeHole 53 = .ok (.aload_n 0, 1) by decide +kernel) (by rfl) ?_
  refine go_getRc (show decode cX7_takeHole 54 = .ok (.getfield 21, 3) by decide +kernel) fl_X7_21 rfl (shc_k hsh 34 (by decide) (by decide)) (v := 35) (shc_r hsh 34 1 (by decide) (by decide) (by decide)) ?_
  refine go_iload_n (show decode cX7_takeHole 57 = .ok (.iload_n 1, 1) by decide +kernel) (by rfl) ?_
  refine go_iload_n (show decode cX7_takeHole 58 = .ok (.iload_n 2, 1) by decide +kernel) (by rfl) ?_
  refine go_iload_n (show decode cX7_takeHole 59 = .ok (.iload_n 3, 1) by decide +kernel) (by rfl) ?_
  refine go_iload (show decode cX7_takeHole 60 = .ok (.iload 4, 2) by decide +kernel) (by rfl) ?_
  obtain ⟨q2, h⟩ := h
  refine go_callV (d2 := d - 1) (M2 := MX3_set) (n := 4) (ci := 3) (av := [vI a1, vI a2, vI a3, vI a4]) (st := []) (show decode cX7_takeHole 62 = .ok (.invokevirtual 199, 3) by decide +kernel) ml_X7_199 mt_X3_set min_X3_set mse_X3_set (by decide) (shc_k hsh 35 (by decide) (by decide)) rfl (Nat.le_of_ble_eq_true rfl) (by omega) (ok_mono h (fun w3 S4 F5 G6 h => ?_))
  obtain ⟨e8, h⟩ := h
  replace e8 := e8.symm; subst e8
  obtain ⟨e9, h⟩ := h
  subst e9
  show Go d MX7_takeHole 65 [some (vR 34), some (vI a1), some (vI a2), some (vI a3), some (vI a4), some (vJ a5), none] [] S F5 G6 Q
  exact go_vret (show decode cX7_takeHole 65 = .ok (.return_, 1) by decide +kernel) rfl h
def V_X7_takeHole_0 (d : Nat) (S : AS) (F : AF) (G : AG) (Q : AQ) (a1 : Int) (a2 : Int) (a3 : Int) (a4 : Int) : Prop :=
  (r32 (a3 - a1)) ∧
  (r32 ((a3 - a1) + 1)) ∧
  (r32 (a4 - a2)) ∧
  (r32 ((a4 - a2) + 1)) ∧
  (r64 (((a3 - a1) + 1) * ((a4 - a2) + 1))) ∧
  ∀ x6 : Int, x6 = ((a3 - a1) + 1) * ((a4 - a2) + 1) →
  ((F 34 8 < x6) →
    V_X7_takeHole_47 d S F G Q a1 a2 a3 a4 x6) ∧
  ((¬ F 34 8 < x6) →
    ((¬ x6 = F 34 8) →
      Q none S F G) ∧
    ((x6 = F 34 8) →
      (1 ≤ d) ∧
      ∃ z12 : Int, Pu (d - 1) MX7_isAheadOfHole [vR 34, vI a1, vI a2, vI a4] S F G (some (vI z12)) ∧
      ((z12 = 0) →
        Q none S F G) ∧
      ((¬ z12 = 0) →
        V_X7_takeHole_47 d S F G Q a1 a2 a3 a4 x6)))
theorem R_X7_takeHole_0 {d : Nat} {S : AS} {F : AF} {G : AG} {Q : AQ} {a1 : Int} {a2 : Int} {a3 : Int} {a4 : Int} (hsh : ShC S) (h : V_X7_takeHole_0 d S F G Q a1 a2 a3 a4) : Go d MX7_takeHole 0 [some (vR 34), some (vI a1), some (vI a2), some (vI a3), some (vI a4), none, none] [] S F G Q := by
  unfold V_X7_takeHole_0 at h
  refine go_iload_n (show decode cX7_takeHole 0 = .ok (.iload_n 3, 1) by decide +kernel) (by rfl) ?_
  refine go_iload_n (show decode cX7_takeHole 1 = .ok (.iload_n 1, 1) by decide +kernel) (by rfl) ?_
  obtain ⟨q1, h⟩ := h
  refine go_isub (show decode cX7_takeHole 2 = .ok (.isub, 1) by decide +kernel) q1 ?_
  refine go_iconst (show decode cX7_takeHole 3 = .ok (.iconst 1, 1) by decide +kernel) (by decide) ?_
  obtain ⟨q2, h⟩ := h
  refine go_iadd (show decode cX7_takeHole 4 = .ok (.iadd, 1) by decide +kernel) q2 ?_
  refine go_i2l (show decode cX7_takeHole 5 = .ok (.i2l, 1) by decide +kernel) ?_
  refine go_iload (show decode cX7_takeHole 6 = .ok (.iload 4, 2) by decide +kernel) (by rfl) ?_
  refine go_iload_n (show decode cX7_takeHole 8 = .ok (.iload_n 2, 1) by decide +kernel) (by rfl) ?_
  obtain ⟨q3, h⟩ := h
  refine go_isub (show decode cX7_takeHole 9 = .ok (.isub, 1) by decide +kernel) q3 ?_
  refine go_iconst (show decode cX7_takeHole 10 = .ok (.iconst 1, 1) by decide +kernel) (by decide) ?_
  obtain ⟨q4, h⟩ := h
  refine go_iadd (show decode cX7_takeHole 11 = .ok (.iadd, 1) by decide +kernel) q4 ?_
  refine go_i2l (show decode cX7_takeHole 12 = .ok (.i2l, 1) by decide +kernel) ?_
  obtain ⟨q5, h⟩ := h
  refine go_lmul (show decode cX7_takeHole 13 = .ok (.lmul, 1) by decide +kernel) q5 ?_
  obtain ⟨x6, x6e⟩ : ∃ x6 : Int, x6 = ((a3 - a1) + 1) * ((a4 - a2) + 1) := ⟨_, rfl⟩
  have h := h x6 x6e
  rw [← x6e]
  refine go_lstore (show decode cX7_takeHole 14 = .ok (.lstore 5, 2) by decide +kernel) (by decide) ?_
  show Go d MX7_takeHole 16 [some (vR 34), some (vI a1), some (vI a2), some (vI a3), some (vI a4), some (vJ x6), none] [] S F G Q
  refine go_lload (show decode cX7_takeHole 16 = .ok (.lload 5, 2) by decide +kernel) (by rfl) ?_
  refine go_aload_n (show decode cX7_takeHole 18 = .ok (.aload_n 0, 1) by decide +kernel) (by rfl) ?_
  refine go_getJ (show decode cX7_takeHole 19 = .ok (.getfield 170, 3) by decide +kernel) fl_X7_170 rfl (shc_k hsh 34 (by decide) (by decide)) ?_
  obtain ⟨ht, hf⟩ := h
  refine go_jgt (tgt := 47) (show decode cX7_takeHole 22 = .ok (.lcmp, 1) by decide +kernel) (show decode cX7_takeHole 23 = .ok (.ifCond .gt 24, 3) by decide +kernel) (by decide) (fun hc => ?_) (fun hc => ?_)
  · have h := ht hc
    exact R_X7_takeHole_47 hsh h
  · have h := hf hc
    refine go_lload (show decode cX7_takeHole 26 = .ok (.lload 5, 2) by decide +kernel) (by rfl) ?_
    refine go_aload_n (show decode cX7_takeHole 28 = .ok (.aload_n 0, 1) by decide +kernel) (by rfl) ?_
    refine go_getJ (show decode cX7_takeHole 29 = .ok (.getfield 170, 3) by decide +kernel) fl_X7_170 rfl (shc_k hsh 34 (by decide) (by decide)) ?_
    obtain ⟨ht, hf⟩ := h
    refine go_jne (tgt := 65) (show decode cX7_takeHole 32 = .ok (.lcmp, 1) by decide +kernel) (show decode cX7_takeHole 33 = .ok (.ifCond .ne 32, 3) by decide +kernel) (by decide) (fun hc => ?_) (fun hc => ?_)
    · have h := ht hc
      exact go_vret (show decode cX7_takeHole 65 = .ok (.return_, 1) by decide +kernel) rfl h
    · have h := hf hc
      refine go_aload_n (show decode cX7_takeHole 36 = .ok (.aload_n 0, 1) by decide +kernel) (by rfl) ?_
      refine go_iload_n (show decode cX7_takeHole 37 = .ok (.iload_n 1, 1) by decide +kernel) (by rfl) ?_
      refine go_iload_n (show decode cX7_takeHole 38 = .ok (.iload_n 2, 1) by decide +kernel) (by rfl) ?_
      refine go_iload (show decode cX7_takeHole 39 = .ok (.iload 4, 2) by decide +kernel) (by rfl) ?_
      obtain ⟨q7, h⟩ := h
      obtain ⟨z12, p13, h⟩ := h
      refine go_callV (d2 := d - 1) (M2 := MX7_isAheadOfHole) (n := 3) (ci := 7) (av := [vI a1, vI a2, vI a4]) (st := []) (show decode cX7_takeHole 41 = .ok (.invokevirtual 195, 3) by decide +kernel) ml_X7_195 mt_X7_isAheadOfHole min_X7_isAheadOfHole mse_X7_isAheadOfHole (by decide) (shc_k hsh 34 (by decide) (by decide)) rfl (Nat.le_of_ble_eq_true rfl) (by omega) (ok_mono p13 (fun w8 S9 F10 G11 e9 => ?_))
      obtain ⟨e1, e2, e3, e4⟩ := e9
      subst e1
      replace e2 := e2.symm; subst e2
      replace e3 := e3.symm; subst e3
      replace e4 := e4.symm; subst e4
      show Go d MX7_takeHole 44 [some (vR 34), some (vI a1), some (vI a2), some (vI a3), some (vI a4), some (vJ x6), none] [vI z12] S F G Q
      obtain ⟨ht, hf⟩ := h
      refine go_ifeq (tgt := 65) (show decode cX7_takeHole 44 = .ok (.ifCond .eq 21, 3) by decide +kernel) (by decide) (fun hc => ?_) (fun hc => ?_)
      · have h := ht hc
        exact go_vret (show decode cX7_takeHole 65 = .ok (.return_, 1) by decide +kernel) rfl h
      · have h := hf hc
        exact R_X7_takeHole_47 hsh h
def V_X7_isAheadOfHole_0 (d : Nat) (S : AS) (F : AF) (G : AG) (Q : AQ) (a1 : Int) (a2 : Int) (a3 : Int) : Prop :=
  ((a2 = F 35 1) →
    ((a1 = F 35 0) →
      ((F 35 3 ≤ a3) →
        Q (some (vI 0)) S F G) ∧
      ((¬ F 35 3 ≤ a3) →
        Q (some (vI 1)) S F G)) ∧
    ((¬ a1 = F 35 0) →
      ((F 35 0 ≤ a1) →
        Q (some (vI 0)) S F G) ∧
      ((¬ F 35 0 ≤ a1) →
        Q (some (vI 1)) S F G))) ∧
  ((¬ a2 = F 35 1) →
    ((F 35 1 ≤ a2) →
      Q (some (vI 0)) S F G) ∧
    ((¬ F 35 1 ≤ a2) →
      Q (some (vI 1)) S F G))
theorem R_X7_isAheadOfHole_0 {d : Nat} {S : AS} {F : AF} {G : AG} {Q : AQ} {a1 : Int} {a2 : Int} {a3 : Int} (hsh : ShC S) (h : V_X7_isAheadOfHole_0 d S F G Q a1 a2 a3) : Go d MX7_isAheadOfHole 0 [some (vR 34), some (vI a1), some (vI a2), some (vI a3)] [] S F G Q := by
  unfold V_X7_isAheadOfHole_0 at h
  refine go_iload_n (show decode cX7_isAheadOfHole 0 = .ok (.iload_n 2, 1) by decide +kernel) (by rfl) ?_
  refine go_aload_n (show decode cX7_isAheadOfHole 1 = .ok (.aload_n 0, 1) by decide +kernel) (by rfl) ?_
  refine go_getRc (show decode cX7_isAheadOfHole 2 = .ok (.getfield 21, 3) by decide +kernel) fl_X7_21 rfl (shc_k hsh 34 (by decide) (by decide)) (v := 35) (shc_r hsh 34 1 (by decide) (by decide) (by decide)) ?_
  refine go_getI (show decode cX7_isAheadOfHole 5 = .ok (.getfield 100, 3) by decide +kernel) fl_X7_100 (Or.inl rfl) (shc_k hsh 35 (by decide) (by decide)) ?_
  obtain ⟨ht, hf⟩ := h
  refine go_icmpeq (tgt := 28) (show decode cX7_isAheadOfHole 8 = .ok (.if_icmp .eq 20, 3) by decide +kernel) (by decide) (fun hc => ?_) (fun hc => ?_)
  · have h := ht hc
    refine go_iload_n (show decode cX7_isAheadOfHole 28 = .ok (.iload_n 1, 1) by decide +kernel) (by rfl) ?_
    refine go_aload_n (show decode cX7_isAheadOfHole 29 = .ok (.aload_n 0, 1) by decide +kernel) (by rfl) ?_
    refine go_getRc (show decode cX7_isAheadOfHole 30 = .ok (.getfield 21, 3) by decide +kernel) fl_X7_21 rfl (shc_k hsh 34 (by decide) (by decide)) (v := 35) (shc_r hsh 34 1 (by decide) (by decide) (by decide)) ?_
    refine go_getI (show decode cX7_isAheadOfHole 33 = .ok (.getfield 103, 3) by decide +kernel) fl_X7_103 (Or.inl rfl) (shc_k hsh 35 (by decide) (by decide)) ?_
    obtain ⟨ht, hf⟩ := h
    refine go_icmpeq (tgt := 58) (show decode cX7_isAheadOfHole 36 = .ok (.if_icmp .eq 22, 3) by decide +kernel) (by decide) (fun hc => ?_) (fun hc => ?_)
    · have h := ht hc
      refine go_iload_n (show decode cX7_isAheadOfHole 58 = .ok (.iload_n 3, 1) by decide +kernel) (by rfl) ?_
      refine go_aload_n (show decode cX7_isAheadOfHole 59 = .ok (.aload_n 0, 1) by decide +kernel) (by rfl) ?_
      refine go_getRc (show decode cX7_isAheadOfHole 60 = .ok (.getfield 21, 3) by decide +kernel) fl_X7_21 rfl (shc_k hsh 34 (by decide) (by decide)) (v := 35) (shc_r hsh 34 1 (by decide) (by decide) (by decide)) ?_
      refine go_getI (show decode cX7_isAheadOfHole 63 = .ok (.getfield 106, 3) by decide +kernel) fl_X7_106 (Or.inl rfl) (shc_k hsh 35 (by decide) (by decide)) ?_
      obtain ⟨ht, hf⟩ := h
      refine go_icmpge (tgt := 73) (show decode cX7_isAheadOfHole 66 = .ok (.if_icmp .ge 7, 3) by decide +kernel) (by decide) (fun hc => ?_) (fun hc => ?_)
      · have h := ht hc
        refine go_iconst (show decode cX7_isAheadOfHole 73 = .ok (.iconst 0, 1) by decide +kernel) (by decide) ?_
        exact go_zret (show decode cX7_isAheadOfHole 74 = .ok (.ireturn, 1) by decide +kernel) rfl (by decide) h
      · have h := hf hc
        refine go_iconst (show decode cX7_isAheadOfHole 69 = .ok (.iconst 1, 1) by decide +kernel) (by decide) ?_
        refine go_goto (tgt := 74) (show decode cX7_isAheadOfHole 70 = .ok (.goto 4, 3) by decide +kernel) (by decide) ?_
        exact go_zret (show decode cX7_isAheadOfHole 74 = .ok (.ireturn, 1) by decide +kernel) rfl (by decide) h
    · have h := hf hc
      refine go_iload_n (show decode cX7_isAheadOfHole 39 = .ok (.iload_n 1, 1) by decide +kernel) (by rfl) ?_
      refine go_aload_n (show decode cX7_isAheadOfHole 40 = .ok (.aload_n 0, 1) by decide +kernel) (by rfl) ?_
      refine go_getRc (show decode cX7_isAheadOfHole 41 = .ok (.getfield 21, 3) by decide +kernel) fl_X7_21 rfl (shc_k hsh 34 (by decide) (by decide)) (v := 35) (shc_r hsh 34 1 (by decide) (by decide) (by decide)) ?_
      refine go_getI (show decode cX7_isAheadOfHole 44 = .ok (.getfield 103, 3) by decide +kernel) fl_X7_103 (Or.inl rfl) (shc_k hsh 35 (by decide) (by decide)) ?_
      obtain ⟨ht, hf⟩ := h
      refine go_icmpge (tgt := 54) (show decode cX7_isAheadOfHole 47 = .ok (.if_icmp .ge 7, 3) by decide +kernel) (by decide) (fun hc => ?_) (fun hc => ?_)
      · have h := ht hc
        refine go_iconst (show decode cX7_isAheadOfHole 54 = .ok (.iconst 0, 1) by decide +kernel) (by decide) ?_
        refine go_goto (tgt := 74) (show decode cX7_isAheadOfHole 55 = .ok (.goto 19, 3) by decide +kernel) (by decide) ?_
        exact go_zret (show decode cX7_isAheadOfHole 74 = .ok (.ireturn, 1) by decide +kernel) rfl (by decide) h
      · have h := hf hc
        refine go_iconst (show decode cX7_isAheadOfHole 50 = .ok (.iconst 1, 1) by decide +kernel) (by decide) ?_
        refine go_goto (tgt := 74) (show decode cX7_isAheadOfHole 51 = .ok (.goto 23, 3) by decide +kernel) (by decide) ?_
        exact go_zret (show decode cX7_isAheadOfHole 74 = .ok (.ireturn, 1) by decide +kernel) rfl (by decide) h
  · have h := hf hc
    refine go_iload_n (show decode cX7_isAheadOfHole 11 = .ok (.iload_n 2, 1) by decide +kernel) (by rfl) ?_
    refine go_aload_n (show decode cX7_isAheadOfHole 12 = .ok (.aload_n 0, 1) by decide +kernel) (by rfl) ?_
    refine go_getRc (show decode cX7_isAheadOfHole 13 = .ok (.getfield 21, 3) by decide +kernel) fl_X7_21 rfl (shc_k hsh 34 (by decide) (by decide)) (v := 35) (shc_r hsh 34 1 (by decide) (by decide) (by decide)) ?_
    refine go_getI (show decode cX7_isAheadOfHole 16 = .ok (.getfield 100, 3) by decide +kernel) fl_X7_100 (Or.inl rfl) (shc_k hsh 35 (by decide) (by decide)) ?_
    obtain ⟨ht, hf⟩ := h
    refine go_icmpge (tgt := 26) (show decode cX7_isAheadOfHole 19 = .ok (.if_icmp .ge 7, 3) by decide +kernel) (by decide) (fun hc => ?_) (fun hc => ?_)
    · have h := ht hc
      refine go_iconst (show decode cX7_isAheadOfHole 26 = .ok (.iconst 0, 1) by decide +kernel) (by decide) ?_
      exact go_zret (show decode cX7_isAheadOfHole 27 = .ok (.ireturn, 1) by decide +kernel) rfl (by decide) h
    · have h := hf hc
      refine go_iconst (show decode cX7_isAheadOfHole 22 = .ok (.iconst 1, 1) by decide +kernel) (by decide) ?_
      refine go_goto (tgt := 27) (show decode cX7_isAheadOfHole 23 = .ok (.goto 4, 3) by decide +kernel) (by decide) ?_
      exact go_zret (show decode cX7_isAheadOfHole 27 = .ok (.ireturn, 1) by decide +kernel) rfl (by decide) h
def V_X7_middle_90 (d : Nat) (S : AS) (F : AF) (G : AG) (Q : AQ) (a1 : Int) (a2 : Int) (a3 : Int) (a5 : Nat) (a6 : Int) (a8 : Int) (a9 : Int) : Prop :=
  (r64 (a6 - a9)) ∧
  ∀ x2 : Int, x2 = a6 - a9 →
  (r32 (a8 + 1)) ∧
  Go d MX7_middle 19 [some (vR 34), some (vI a1), some (vI a2), some (vJ a3), none, some (vR a5), some (vJ x2), none, some (vI (a8 + 1)), none, none] [] S F G Q
theorem R_X7_middle_90 {d : Nat} {S : AS} {F : AF} {G : AG} {Q : AQ} {a1 : Int} {a2 : Int} {a3 : Int} {a5 : Nat} {a6 : Int} {a8 : Int} {a9 : Int} (hsh : ShC S) (hk5 : AtCuts S a5) (h : V_X7_middle_90 d S F G Q a1 a2 a3 a5 a6 a8 a9) : Go d MX7_middle 90 [some (vR 34), some (vI a1), some (vI a2), some (vJ a3), none, some (vR a5), some (vJ a6), none, some (vI a8), some (vJ a9), none] [] S F G Q := by
  unfold V_X7_middle_90 at h
  refine go_lload (show decode cX7_middle 90 = .ok (.lload 6, 2) by decide +kernel) (by rfl) ?_
  refine go_lload (show decode cX7_middle 92 = .ok (.lload 9, 2) by decide +kernel) (by rfl) ?_
  obtain ⟨q1, h⟩ := h
  refine go_lsub (show decode cX7_middle 94 = .ok (.lsub, 1) by decide +kernel) q1 ?_
  obtain ⟨x2, x2e⟩ : ∃ x2 : Int, x2 = a6 - a9 := ⟨_, rfl⟩
  have h := h x2 x2e
  rw [← x2e]
  refine go_lstore (show decode cX7_middle 95 = .ok (.lstore 6, 2) by decide +kernel) (by decide) ?_
  show Go d MX7_middle 97 [some (vR 34), some (vI a1), some (vI a2), some (vJ a3), none, some (vR a5), some (vJ x2), none, some (vI a8), some (vJ a9), none] [] S F G Q
  obtain ⟨q3, h⟩ := h
  refine go_iinc (show decode cX7_middle 97 = .ok (.iinc 8 1, 3) by decide +kernel) (by rfl) q3 (by decide) ?_
  show Go d MX7_middle 100 [some (vR 34), some (vI a1), some (vI a2), some (vJ a3), none, some (vR a5), some (vJ x2), none, some (vI (a8 + 1)), some (vJ a9), none] [] S F G Q
  refine go_goto (tgt := 19) (show decode cX7_middle 100 = .ok (.goto (-81), 3) by decide +kernel) (by decide) ?_
  refine go_clr 9 ?_
  exact h
def V_X7_middle_19 (d : Nat) (S : AS) (F : AF) (G : AG) (Q : AQ) (a1 : Int) (a2 : Int) (a3 : Int) (a5 : Nat) (a6 : Int) (a8 : Int) : Prop :=
  ((F a5 1 ≤ a8) →
    Q (some (vI 0)) S F G) ∧
  ((¬ F a5 1 ≤ a8) →
    (1 ≤ d) ∧
    Ok (d - 1) MX7_measureWhole [vR 34, vI a1, vI a2, vI a8] S F G (fun w2 S3 F4 G5 =>
    S3 = S ∧
    w2 = none ∧
    ∃ z10 : Int, Pu (d - 1) MX1_widthOf [vR a5, vI a8] S F4 G5 (some (vI z10)) ∧
    (r64 ((F4 34 2) * z10)) ∧
    ∀ x13 : Int, x13 = (F4 34 2) * z10 →
    ((F4 34 2 ≤ 0) →
      V_X7_middle_90 d S F4 G5 Q a1 a2 a3 a5 a6 a8 x13) ∧
    ((¬ F4 34 2 ≤ 0) →
      ((x13 < a6) →
        V_X7_middle_90 d S F4 G5 Q a1 a2 a3 a5 a6 a8 x13) ∧
      ((¬ x13 < a6) →
        ((0 : Int) ≤ a8) ∧
        ((a8 : Int) < 105) ∧
        (r64 (a6 - 1)) ∧
        (¬ (F4 34 2) = 0) ∧
        (r64 (Int.tdiv (a6 - 1) (F4 34 2))) ∧
        (r64 ((G5 (a5 + 1) a8) + (Int.tdiv (a6 - 1) (F4 34 2)))) ∧
        (r32 ((G5 (a5 + 1) a8) + (Int.tdiv (a6 - 1) (F4 34 2)))) ∧
        Q (some (vI ((G5 (a5 + 1) a8) + (Int.tdiv (a6 - 1) (F4 34 2))))) S F4 G5))))
theorem R_X7_middle_19 {d : Nat} {S : AS} {F : AF} {G : AG} {Q : AQ} {a1 : Int} {a2 : Int} {a3 : Int} {a5 : Nat} {a6 : Int} {a8 : Int} (hsh : ShC S) (hk5 : AtCuts S a5) (h : V_X7_middle_19 d S F G Q a1 a2 a3 a5 a6 a8) : Go d MX7_middle 19 [some (vR 34), some (vI a1), some (vI a2), some (vJ a3), none, some (vR a5), some (vJ a6), none, some (vI a8), none, none] [] S F G Q := by
  unfold V_X7_middle_19 at h
  refine go_iload (show decode cX7_middle 19 = .ok (.iload 8, 2) by decide +kernel) (by rfl) ?_
  refine go_aload (show decode cX7_middle 21 = .ok (.aload 5, 2) by decide +kernel) (by rfl) ?_
  refine go_getI (show decode cX7_middle 23 = .ok (.getfield 135, 3) by decide +kernel) fl_X7_135 (Or.inl rfl) hk5.1 ?_
  obtain ⟨ht, hf⟩ := h
  refine go_icmpge (tgt := 103) (show decode cX7_middle 26 = .ok (.if_icmp .ge 77, 3) by decide +kernel) (by decide) (fun hc => ?_) (fun hc => ?_)
  · have h := ht hc
    refine go_iconst (show decode cX7_middle 103 = .ok (.iconst 0, 1) by decide +kernel) (by decide) ?_
    exact go_iret (show decode cX7_middle 104 = .ok (.ireturn, 1) by decide +kernel) rfl h
  · have h := hf hc
    refine go_aload_n (show decode cX7_middle 29 = .ok (.aload_n 0, 1) by decide +kernel) (by rfl) ?_
    refine go_iload_n (show decode cX7_middle 30 = .ok (.iload_n 1, 1) by decide +kernel) (by rfl) ?_
    refine go_iload_n (show decode cX7_middle 31 = .ok (.iload_n 2, 1) by decide +kernel) (by rfl) ?_
    refine go_iload (show decode cX7_middle 32 = .ok (.iload 8, 2) by decide +kernel) (by rfl) ?_
    obtain ⟨q1, h⟩ := h
    refine go_callV (d2 := d - 1) (M2 := MX7_measureWhole) (n := 3) (ci := 7) (av := [vI a1, vI a2, vI a8]) (st := []) (show decode cX7_middle 34 = .ok (.invokevirtual 149, 3) by decide +kernel) ml_X7_149 mt_X7_measureWhole min_X7_measureWhole mse_X7_measureWhole (by decide) (shc_k hsh 34 (by decide) (by decide)) rfl (Nat.le_of_ble_eq_true rfl) (by omega) (ok_mono h (fun w2 S3 F4 G5 h => ?_))
    obtain ⟨e8, h⟩ := h
    replace e8 := e8.symm; subst e8
    obtain ⟨e9, h⟩ := h
    subst e9
    show Go d MX7_middle 37 [some (vR 34), some (vI a1), some (vI a2), some (vJ a3), none, some (vR a5), some (vJ a6), none, some (vI a8), none, none] [] S F4 G5 Q
    refine go_aload_n (show decode cX7_middle 37 = .ok (.aload_n 0, 1) by decide +kernel) (by rfl) ?_
    refine go_getJ (show decode cX7_middle 38 = .ok (.getfield 68, 3) by decide +kernel) fl_X7_68 rfl (shc_k hsh 34 (by decide) (by decide)) ?_
    refine go_aload (show decode cX7_middle 41 = .ok (.aload 5, 2) by decide +kernel) (by rfl) ?_
    refine go_iload (show decode cX7_middle 43 = .ok (.iload 8, 2) by decide +kernel) (by rfl) ?_
    obtain ⟨z10, p11, h⟩ := h
    refine go_callV (d2 := d - 1) (M2 := MX1_widthOf) (n := 1) (ci := 1) (av := [vI a8]) (st := [vJ (F4 34 2)]) (show decode cX7_middle 45 = .ok (.invokevirtual 153, 3) by decide +kernel) ml_X7_153 mt_X1_widthOf min_X1_widthOf mse_X1_widthOf (by decide) hk5.1 rfl (Nat.le_of_ble_eq_true rfl) (by omega) (ok_mono p11 (fun w6 S7 F8 G9 e9 => ?_))
    obtain ⟨e1, e2, e3, e4⟩ := e9
    subst e1
    replace e2 := e2.symm; subst e2
    replace e3 := e3.symm; subst e3
    replace e4 := e4.symm; subst e4
    show Go d MX7_middle 48 [some (vR 34), some (vI a1), some (vI a2), some (vJ a3), none, some (vR a5), some (vJ a6), none, some (vI a8), none, none] [vI z10, vJ (F4 34 2)] S F4 G5 Q
    refine go_i2l (show decode cX7_middle 48 = .ok (.i2l, 1) by decide +kernel) ?_
    obtain ⟨q12, h⟩ := h
    refine go_lmul (show decode cX7_middle 49 = .ok (.lmul, 1) by decide +kernel) q12 ?_
    obtain ⟨x13, x13e⟩ : ∃ x13 : Int, x13 = (F4 34 2) * z10 := ⟨_, rfl⟩
    have h := h x13 x13e
    rw [← x13e]
    refine go_lstore (show decode cX7_middle 50 = .ok (.lstore 9, 2) by decide +kernel) (by decide) ?_
    show Go d MX7_middle 52 [some (vR 34), some (vI a1), some (vI a2), some (vJ a3), none, some (vR a5), some (vJ a6), none, some (vI a8), some (vJ x13), none] [] S F4 G5 Q
    refine go_aload_n (show decode cX7_middle 52 = .ok (.aload_n 0, 1) by decide +kernel) (by rfl) ?_
    refine go_getJ (show decode cX7_middle 53 = .ok (.getfield 68, 3) by decide +kernel) fl_X7_68 rfl (shc_k hsh 34 (by decide) (by decide)) ?_
    refine go_lconst (n := 0) (show decode cX7_middle 56 = .ok (.lconst 0, 1) by decide +kernel) ?_
    show Go d MX7_middle 57 [some (vR 34), some (vI a1), some (vI a2), some (vJ a3), none, some (vR a5), some (vJ a6), none, some (vI a8), some (vJ x13), none] [vJ 0, vJ (F4 34 2)] S F4 G5 Q
    obtain ⟨ht, hf⟩ := h
    refine go_jle (tgt := 90) (show decode cX7_middle 57 = .ok (.lcmp, 1) by decide +kernel) (show decode cX7_middle 58 = .ok (.ifCond .le 32, 3) by decide +kernel) (by decide) (fun hc => ?_) (fun hc => ?_)
    · have h := ht hc
      exact R_X7_middle_90 hsh hk5 h
    · have h := hf hc
      refine go_lload (show decode cX7_middle 61 = .ok (.lload 6, 2) by decide +kernel) (by rfl) ?_
      refine go_lload (show decode cX7_middle 63 = .ok (.lload 9, 2) by decide +kernel) (by rfl) ?_
      obtain ⟨ht, hf⟩ := h
      refine go_jgt (tgt := 90) (show decode cX7_middle 65 = .ok (.lcmp, 1) by decide +kernel) (show decode cX7_middle 66 = .ok (.ifCond .gt 24, 3) by decide +kernel) (by decide) (fun hc => ?_) (fun hc => ?_)
      · have h := ht hc
        exact R_X7_middle_90 hsh hk5 h
      · have h := hf hc
        refine go_aload (show decode cX7_middle 69 = .ok (.aload 5, 2) by decide +kernel) (by rfl) ?_
        refine go_getRc (show decode cX7_middle 71 = .ok (.getfield 118, 3) by decide +kernel) fl_X7_118 rfl hk5.1 (v := (a5 + 1)) hk5.2.1 ?_
        refine go_iload (show decode cX7_middle 74 = .ok (.iload 8, 2) by decide +kernel) (by rfl) ?_
        obtain ⟨q14, h⟩ := h
        obtain ⟨q15, h⟩ := h
        refine go_iaload (show decode cX7_middle 76 = .ok (.iaload, 1) by decide +kernel) hk5.2.2.1 q14 (lt_n (m := 105) q15 hk5.2.2.2) ?_
        refine go_i2l (show decode cX7_middle 77 = .ok (.i2l, 1) by decide +kernel) ?_
        refine go_lload (show decode cX7_middle 78 = .ok (.lload 6, 2) by decide +kernel) (by rfl) ?_
        refine go_lconst (n := 1) (show decode cX7_middle 80 = .ok (.lconst 1, 1) by decide +kernel) ?_
        show Go d MX7_middle 81 [some (vR 34), some (vI a1), some (vI a2), some (vJ a3), none, some (vR a5), some (vJ a6), none, some (vI a8), some (vJ x13), none] [vJ 1, vJ a6, vJ (G5 (a5 + 1) a8)] S F4 G5 Q
        obtain ⟨q16, h⟩ := h
        refine go_lsub (show decode cX7_middle 81 = .ok (.lsub, 1) by decide +kernel) q16 ?_
        refine go_aload_n (show decode cX7_middle 82 = .ok (.aload_n 0, 1) by decide +kernel) (by rfl) ?_
        refine go_getJ (show decode cX7_middle 83 = .ok (.getfield 68, 3) by decide +kernel) fl_X7_68 rfl (shc_k hsh 34 (by decide) (by decide)) ?_
        obtain ⟨q17, h⟩ := h
        obtain ⟨q18, h⟩ := h
        refine go_ldiv (show decode cX7_middle 86 = .ok (.ldiv, 1) by decide +kernel) q17 q18 ?_
        obtain ⟨q19, h⟩ := h
        refine go_ladd (show decode cX7_middle 87 = .ok (.ladd, 1) by decide +kernel) q19 ?_
        obtain ⟨q20, h⟩ := h
        refine go_l2i (show decode cX7_middle 88 = .ok (.l2i, 1) by decide +kernel) q20 ?_
        exact go_iret (show decode cX7_middle 89 = .ok (.ireturn, 1) by decide +kernel) rfl h
def V_X7_middle_0 (d : Nat) (S : AS) (F : AF) (G : AG) (Q : AQ) (a1 : Int) (a2 : Int) (a3 : Int) : Prop :=
  (1 ≤ d) ∧
  ∃ z6 : Nat, Pu (d - 1) MX7_outer [vR 34, vI a2] S F G (some (vR z6)) ∧
  (r64 (Int.tdiv a3 2)) ∧
  (r64 (a3 - (Int.tdiv a3 2))) ∧
  ∀ x10 : Int, x10 = a3 - (Int.tdiv a3 2) →
  Go d MX7_middle 19 [some (vR 34), some (vI a1), some (vI a2), some (vJ a3), none, some (vR z6), some (vJ x10), none, some (vI 0), none, none] [] S F G Q
theorem R_X7_middle_0 {d : Nat} {S : AS} {F : AF} {G : AG} {Q : AQ} {a1 : Int} {a2 : Int} {a3 : Int} (hsh : ShC S) (h : V_X7_middle_0 d S F G Q a1 a2 a3) : Go d MX7_middle 0 [some (vR 34), some (vI a1), some (vI a2), some (vJ a3), none, none, none, none, none, none, none] [] S F G Q := by
  unfold V_X7_middle_0 at h
  refine go_aload_n (show decode cX7_middle 0 = .ok (.aload_n 0, 1) by decide +kernel) (by rfl) ?_
  refine go_iload_n (show decode cX7_middle 1 = .ok (.iload_n 2, 1) by decide +kernel) (by rfl) ?_
  obtain ⟨q1, h⟩ := h
  obtain ⟨z6, p7, h⟩ := h
  refine go_callV (d2 := d - 1) (M2 := MX7_outer) (n := 1) (ci := 7) (av := [vI a2]) (st := []) (show decode cX7_middle 2 = .ok (.invokevirtual 112, 3) by decide +kernel) ml_X7_112 mt_X7_outer min_X7_outer mse_X7_outer (by decide) (shc_k hsh 34 (by decide) (by decide)) rfl (Nat.le_of_ble_eq_true rfl) (by omega) (ok_mono p7 (fun w2 S3 F4 G5 e9 => ?_))
  obtain ⟨e1, e2, e3, e4⟩ := e9
  subst e1
  replace e2 := e2.symm; subst e2
  replace e3 := e3.symm; subst e3
  replace e4 := e4.symm; subst e4
  show Go d MX7_middle 5 [some (vR 34), some (vI a1), some (vI a2), some (vJ a3), none, none, none, none, none, none, none] [vR z6] S F G Q
  refine go_astore (show decode cX7_middle 5 = .ok (.astore 5, 2) by decide +kernel) (by decide) ?_
  show Go d MX7_middle 7 [some (vR 34), some (vI a1), some (vI a2), some (vJ a3), none, some (vR z6), none, none, none, none, none] [] S F G Q
  refine go_lload_n (show decode cX7_middle 7 = .ok (.lload_n 3, 1) by decide +kernel) (by rfl) ?_
  refine go_lload_n (show decode cX7_middle 8 = .ok (.lload_n 3, 1) by decide +kernel) (by rfl) ?_
  refine go_ldc2 (show decode cX7_middle 9 = .ok (.ldc2_w 147, 3) by decide +kernel) lc_X7_147 (by decide) ?_
  obtain ⟨q8, h⟩ := h
  refine go_ldiv (show decode cX7_middle 12 = .ok (.ldiv, 1) by decide +kernel) (by decide) q8 ?_
  obtain ⟨q9, h⟩ := h
  refine go_lsub (show decode cX7_middle 13 = .ok (.lsub, 1) by decide +kernel) q9 ?_
  obtain ⟨x10, x10e⟩ : ∃ x10 : Int, x10 = a3 - (Int.tdiv a3 2) := ⟨_, rfl⟩
  have h := h x10 x10e
  rw [← x10e]
  refine go_lstore (show decode cX7_middle 14 = .ok (.lstore 6, 2) by decide +kernel) (by decide) ?_
  show Go d MX7_middle 16 [some (vR 34), some (vI a1), some (vI a2), some (vJ a3), none, some (vR z6), some (vJ x10), none, none, none, none] [] S F G Q
  refine go_iconst (show decode cX7_middle 16 = .ok (.iconst 0, 1) by decide +kernel) (by decide) ?_
  refine go_istore (show decode cX7_middle 17 = .ok (.istore 8, 2) by decide +kernel) (by decide) ?_
  show Go d MX7_middle 19 [some (vR 34), some (vI a1), some (vI a2), some (vJ a3), none, some (vR z6), some (vJ x10), none, some (vI 0), none, none] [] S F G Q
  exact h
def V_X7_measureWhole_0 (d : Nat) (S : AS) (F : AF) (G : AG) (Q : AQ) (a1 : Int) (a2 : Int) (a3 : Int) : Prop :=
  (1 ≤ d) ∧
  ∃ z6 : Nat, Pu (d - 1) MX7_inner [vR 34, vI a2] S F G (some (vR z6)) ∧
  (AtCuts S z6) ∧
  (r32 ((F z6 2) - 1)) ∧
  Ok (d - 1) MX7_measure [vR 34, vI a1, vI a2, vI a3, vI 0, vI ((F z6 2) - 1)] S F G (fun w10 S11 F12 G13 =>
  S11 = S ∧
  w10 = none ∧
  Q none S F12 G13)
theorem R_X7_measureWhole_0 {d : Nat} {S : AS} {F : AF} {G : AG} {Q : AQ} {a1 : Int} {a2 : Int} {a3 : Int} (hsh : ShC S) (h : V_X7_measureWhole_0 d S F G Q a1 a2 a3) : Go d MX7_measureWhole 0 [some (vR 34), some (vI a1), some (vI a2), some (vI a3)] [] S F G Q := by
  unfold V_X7_measureWhole_0 at h
  refine go_aload_n (show decode cX7_measureWhole 0 = .ok (.aload_n 0, 1) by decide +kernel) (by rfl) ?_
  refine go_iload_n (show decode cX7_measureWhole 1 = .ok (.iload_n 1, 1) by decide +kernel) (by rfl) ?_
  refine go_iload_n (show decode cX7_measureWhole 2 = .ok (.iload_n 2, 1) by decide +kernel) (by rfl) ?_
  refine go_iload_n (show decode cX7_measureWhole 3 = .ok (.iload_n 3, 1) by decide +kernel) (by rfl) ?_
  refine go_iconst (show decode cX7_measureWhole 4 = .ok (.iconst 0, 1) by decide +kernel) (by decide) ?_
  refine go_aload_n (show decode cX7_measureWhole 5 = .ok (.aload_n 0, 1) by decide +kernel) (by rfl) ?_
  refine go_iload_n (show decode cX7_measureWhole 6 = .ok (.iload_n 2, 1) by decide +kernel) (by rfl) ?_
  obtain ⟨q1, h⟩ := h
  obtain ⟨z6, p7, h⟩ := h
  refine go_callV (d2 := d - 1) (M2 := MX7_inner) (n := 1) (ci := 7) (av := [vI a2]) (st := [vI 0, vI a3, vI a2, vI a1, vR 34]) (show decode cX7_measureWhole 7 = .ok (.invokevirtual 64, 3) by decide +kernel) ml_X7_64 mt_X7_inner min_X7_inner mse_X7_inner (by decide) (shc_k hsh 34 (by decide) (by decide)) rfl (Nat.le_of_ble_eq_true rfl) (by omega) (ok_mono p7 (fun w2 S3 F4 G5 e9 => ?_))
  obtain ⟨e1, e2, e3, e4⟩ := e9
  subst e1
  replace e2 := e2.symm; subst e2
  replace e3 := e3.symm; subst e3
  replace e4 := e4.symm; subst e4
  show Go d MX7_measureWhole 10 [some (vR 34), some (vI a1), some (vI a2), some (vI a3)] [vR z6, vI 0, vI a3, vI a2, vI a1, vR 34] S F G Q
  obtain ⟨q8, h⟩ := h
  refine go_getI (show decode cX7_measureWhole 10 = .ok (.getfield 92, 3) by decide +kernel) fl_X7_92 (Or.inl rfl) q8.1 ?_
  refine go_iconst (show decode cX7_measureWhole 13 = .ok (.iconst 1, 1) by decide +kernel) (by decide) ?_
  obtain ⟨q9, h⟩ := h
  refine go_isub (show decode cX7_measureWhole 14 = .ok (.isub, 1) by decide +kernel) q9 ?_
  refine go_callV (d2 := d - 1) (M2 := MX7_measure) (n := 5) (ci := 7) (av := [vI a1, vI a2, vI a3, vI 0, vI ((F z6 2) - 1)]) (st := []) (show decode cX7_measureWhole 15 = .ok (.invokevirtual 96, 3) by decide +kernel) ml_X7_96 mt_X7_measure min_X7_measure mse_X7_measure (by decide) (shc_k hsh 34 (by decide) (by decide)) rfl (Nat.le_of_ble_eq_true rfl) (by omega) (ok_mono h (fun w10 S11 F12 G13 h => ?_))
  obtain ⟨e8, h⟩ := h
  replace e8 := e8.symm; subst e8
  obtain ⟨e9, h⟩ := h
  subst e9
  show Go d MX7_measureWhole 18 [some (vR 34), some (vI a1), some (vI a2), some (vI a3)] [] S F12 G13 Q
  exact go_vret (show decode cX7_measureWhole 18 = .ok (.return_, 1) by decide +kernel) rfl h
