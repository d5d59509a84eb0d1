def V_X10_find_84 (d : Nat) (S : AS) (F : AF) (G : AG) (Q : AQ) (a1 : Int) (a2 : Int) (a3 : Int) (s0 : Int) : Prop :=
  (1 ≤ d) ∧
  ∃ z6 : Int, Pu (d - 1) MX10_number [vR 53, vI (F 53 21), vI (F 53 22)] S F G (some (vJ z6)) ∧
  Q (some (vJ z6)) S F G
theorem R_X10_find_84 {d : Nat} {S : AS} {F : AF} {G : AG} {Q : AQ} {a1 : Int} {a2 : Int} {a3 : Int} {s0 : Int} (hsm : ShM S) (h : V_X10_find_84 d S F G Q a1 a2 a3 s0) : Go d MX10_find 84 [some (vR 53), some (vI a1), some (vI a2), some (vJ a3), none, none] [vI s0] S F G Q := by
  unfold V_X10_find_84 at h
  refine go_istore (show decode cX10_find 84 = .ok (.istore 5, 2) by decide +kernel) (by decide) ?_
  show Go d MX10_find 86 [some (vR 53), some (vI a1), some (vI a2), some (vJ a3), none, some (vI s0)] [] S F G Q
  refine go_aload_n (show decode cX10_find 86 = .ok (.aload_n 0, 1) by decide +kernel) (by rfl) ?_
  refine go_aload_n (show decode cX10_find 87 = .ok (.aload_n 0, 1) by decide +kernel) (by rfl) ?_
  refine go_getI (show decode cX10_find 88 = .ok (.getfield 224, 3) by decide +kernel) fl_X10_224 (Or.inl rfl) (shm_k hsm 53 (by decide) (by decide)) ?_
  refine go_aload_n (show decode cX10_find 91 = .ok (.aload_n 0, 1) by decide +kernel) (by rfl) ?_
  refine go_getI (show decode cX10_find 92 = .ok (.getfield 221, 3) by decide +kernel) fl_X10_221 (Or.inl rfl) (shm_k hsm 53 (by decide) (by decide)) ?_
  obtain ⟨q1, h⟩ := h
  obtain ⟨z6, p7, h⟩ := h
  refine go_callV (d2 := d - 1) (M2 := MX10_number) (n := 2) (ci := 10) (av := [vI (F 53 21), vI (F 53 22)]) (st := []) (show decode cX10_find 95 = .ok (.invokevirtual 268, 3) by decide +kernel) ml_X10_268 mt_X10_number min_X10_number mse_X10_number (by decide) (shm_k hsm 53 (by decide) (by decide)) rfl (Nat.le_of_ble_eq_true rfl) (by omega) (ok_mono p7 (fun w2 S3 F4 G5 e9 => ?_))
  obtain ⟨e1, e2, e3, e4⟩ := e9
  subst e1
  replace e2 := e2.symm; subst e2
  replace e3 := e3.symm; subst e3
  replace e4 := e4.symm; subst e4
  show Go d MX10_find 98 [some (vR 53), some (vI a1), some (vI a2), some (vJ a3), none, some (vI s0)] [vJ z6] S F G Q
  exact go_lret (show decode cX10_find 98 = .ok (.lreturn, 1) by decide +kernel) rfl h
def V_X10_find_0 (d : Nat) (S : AS) (F : AF) (G : AG) (Q : AQ) (a1 : Int) (a2 : Int) (a3 : Int) : Prop :=
  ∀ F1 : AF, F1 = fu F 53 0 0 →
  (1 ≤ d) ∧
  ∃ z7 : Int, Pu (d - 1) MX10_isGood [vI a1] S F1 G (some (vI z7)) ∧
  ((z7 = 0) →
    Q (some (vJ (-2))) S F1 G) ∧
  ((¬ z7 = 0) →
    ∃ z13 : Int, Pu (d - 1) MX10_isIn [vJ a2, vJ 0, vJ 1] S F1 G (some (vI z13)) ∧
    ((¬ z13 = 0) →
      ((1 ≤ a3) →
        ((0 : Int) ≤ a1) ∧
        ((a1 : Int) < 3) ∧
        ((a3 ≤ G 59 a1) →
          ((¬ a2 = 0) →
            Ok (d - 1) MX10_findsDown [vR 53, vI a1, vJ a3] S F1 G (fun w17 S18 F19 G20 =>
            S18 = S ∧
            ∃ z21 : Int, w17 = some (vI z21) ∧
            V_X10_find_84 d S F19 G20 Q a1 a2 a3 z21)) ∧
          ((a2 = 0) →
            (r32 ((F1 53 1) - 1)) ∧
            (r32 ((F1 53 2) - 1)) ∧
            Ok (d - 1) MX10_finds [vR 53, vI a1, vI 0, vI 0, vI ((F1 53 1) - 1), vI ((F1 53 2) - 1), vJ a3] S F1 G (fun w24 S25 F26 G27 =>
            S25 = S ∧
            ∃ z28 : Int, w24 = some (vI z28) ∧
            V_X10_find_84 d S F26 G27 Q a1 a2 a3 z28))) ∧
        ((¬ a3 ≤ G 59 a1) →
          Q (some (vJ (-1))) S F1 G)) ∧
      ((¬ 1 ≤ a3) →
        Q (some (vJ (-3))) S F1 G)) ∧
    ((z13 = 0) →
      Q (some (vJ (-2))) S F1 G))
theorem R_X10_find_0 {d : Nat} {S : AS} {F : AF} {G : AG} {Q : AQ} {a1 : Int} {a2 : Int} {a3 : Int} (hsm : ShM S) (h : V_X10_find_0 d S F G Q a1 a2 a3) : Go d MX10_find 0 [some (vR 53), some (vI a1), some (vI a2), some (vJ a3), none, none] [] S F G Q := by
  unfold V_X10_find_0 at h
  refine go_aload_n (show decode cX10_find 0 = .ok (.aload_n 0, 1) by decide +kernel) (by rfl) ?_
  refine go_iconst (show decode cX10_find 1 = .ok (.iconst 0, 1) by decide +kernel) (by decide) ?_
  refine go_putI (show decode cX10_find 2 = .ok (.putfield 1, 3) by decide +kernel) fl_X10_1 rfl (Or.inl rfl) (shm_k hsm 53 (by decide) (by decide)) ?_
  obtain ⟨F1, F1e⟩ : ∃ F1 : AF, F1 = fu F 53 0 0 := ⟨_, rfl⟩
  have h := h F1 F1e
  rw [← F1e]
  refine go_iload_n (show decode cX10_find 5 = .ok (.iload_n 1, 1) by decide +kernel) (by rfl) ?_
  obtain ⟨q2, h⟩ := h
  obtain ⟨z7, p8, h⟩ := h
  refine go_callS (d2 := d - 1) (M2 := MX10_isGood) (n := 1) (av := [vI a1]) (st := []) (show decode cX10_find 6 = .ok (.invokestatic 167, 3) by decide +kernel) ml_X10_167 mt_X10_isGood mst_X10_isGood rfl (Nat.le_of_ble_eq_true rfl) (by omega) (ok_mono p8 (fun w3 S4 F5 G6 e9 => ?_))
  obtain ⟨e1, e2, e3, e4⟩ := e9
  subst e1
  replace e2 := e2.symm; subst e2
  replace e3 := e3.symm; subst e3
  replace e4 := e4.symm; subst e4
  show Go d MX10_find 9 [some (vR 53), some (vI a1), some (vI a2), some (vJ a3), none, none] [vI z7] S F1 G Q
  obtain ⟨ht, hf⟩ := h
  refine go_ifeq (tgt := 22) (show decode cX10_find 9 = .ok (.ifCond .eq 13, 3) by decide +kernel) (by decide) (fun hc => ?_) (fun hc => ?_)
  · have h := ht hc
    refine go_ldc2 (show decode cX10_find 22 = .ok (.ldc2_w 174, 3) by decide +kernel) lc_X10_174 (by decide) ?_
    exact go_lret (show decode cX10_find 25 = .ok (.lreturn, 1) by decide +kernel) rfl h
  · have h := hf hc
    refine go_iload_n (show decode cX10_find 12 = .ok (.iload_n 2, 1) by decide +kernel) (by rfl) ?_
    refine go_i2l (show decode cX10_find 13 = .ok (.i2l, 1) by decide +kernel) ?_
    refine go_lconst (n := 0) (show decode cX10_find 14 = .ok (.lconst 0, 1) by decide +kernel) ?_
    show Go d MX10_find 15 [some (vR 53), some (vI a1), some (vI a2), some (vJ a3), none, none] [vJ 0, vJ a2] S F1 G Q
    refine go_lconst (n := 1) (show decode cX10_find 15 = .ok (.lconst 1, 1) by decide +kernel) ?_
    show Go d MX10_find 16 [some (vR 53), some (vI a1), some (vI a2), some (vJ a3), none, none] [vJ 1, vJ 0, vJ a2] S F1 G Q
    obtain ⟨z13, p14, h⟩ := h
    refine go_callS (d2 := d - 1) (M2 := MX10_isIn) (n := 3) (av := [vJ a2, vJ 0, vJ 1]) (st := []) (show decode cX10_find 16 = .ok (.invokestatic 116, 3) by decide +kernel) ml_X10_116 mt_X10_isIn mst_X10_isIn rfl (Nat.le_of_ble_eq_true rfl) (by omega) (ok_mono p14 (fun w9 S10 F11 G12 e9 => ?_))
    obtain ⟨e1, e2, e3, e4⟩ := e9
    subst e1
    replace e2 := e2.symm; subst e2
    replace e3 := e3.symm; subst e3
    replace e4 := e4.symm; subst e4
    show Go d MX10_find 19 [some (vR 53), some (vI a1), some (vI a2), some (vJ a3), none, none] [vI z13] S F1 G Q
    obtain ⟨ht, hf⟩ := h
    refine go_ifne (tgt := 26) (show decode cX10_find 19 = .ok (.ifCond .ne 7, 3) by decide +kernel) (by decide) (fun hc => ?_) (fun hc => ?_)
    · have h := ht hc
      refine go_lload_n (show decode cX10_find 26 = .ok (.lload_n 3, 1) by decide +kernel) (by rfl) ?_
      refine go_lconst (n := 1) (show decode cX10_find 27 = .ok (.lconst 1, 1) by decide +kernel) ?_
      show Go d MX10_find 28 [some (vR 53), some (vI a1), some (vI a2), some (vJ a3), none, none] [vJ 1, vJ a3] S F1 G Q
      obtain ⟨ht, hf⟩ := h
      refine go_jge (tgt := 36) (show decode cX10_find 28 = .ok (.lcmp, 1) by decide +kernel) (show decode cX10_find 29 = .ok (.ifCond .ge 7, 3) by decide +kernel) (by decide) (fun hc => ?_) (fun hc => ?_)
      · have h := ht hc
        refine go_lload_n (show decode cX10_find 36 = .ok (.lload_n 3, 1) by decide +kernel) (by rfl) ?_
        refine go_aload_n (show decode cX10_find 37 = .ok (.aload_n 0, 1) by decide +kernel) (by rfl) ?_
        refine go_getRc (show decode cX10_find 38 = .ok (.getfield 43, 3) by decide +kernel) fl_X10_43 rfl (shm_k hsm 53 (by decide) (by decide)) (v := 59) (shm_r hsm 53 9 (by decide) (by decide)) ?_
        refine go_iload_n (show decode cX10_find 41 = .ok (.iload_n 1, 1) by decide +kernel) (by rfl) ?_
        obtain ⟨q15, h⟩ := h
        obtain ⟨q16, h⟩ := h
        refine go_laload (show decode cX10_find 42 = .ok (.laload, 1) by decide +kernel) (shm_k hsm 59 (by decide) (by decide)) q15 (lt_n (m := 3) q16 (shm_n hsm 59 (by decide) (by decide))) ?_
        obtain ⟨ht, hf⟩ := h
        refine go_jle (tgt := 51) (show decode cX10_find 43 = .ok (.lcmp, 1) by decide +kernel) (show decode cX10_find 44 = .ok (.ifCond .le 7, 3) by decide +kernel) (by decide) (fun hc => ?_) (fun hc => ?_)
        · have h := ht hc
          refine go_iload_n (show decode cX10_find 51 = .ok (.iload_n 2, 1) by decide +kernel) (by rfl) ?_
          obtain ⟨ht, hf⟩ := h
          refine go_ifne (tgt := 78) (show decode cX10_find 52 = .ok (.ifCond .ne 26, 3) by decide +kernel) (by decide) (fun hc => ?_) (fun hc => ?_)
          · have h := ht hc
            refine go_aload_n (show decode cX10_find 78 = .ok (.aload_n 0, 1) by decide +kernel) (by rfl) ?_
            refine go_iload_n (show decode cX10_find 79 = .ok (.iload_n 1, 1) by decide +kernel) (by rfl) ?_
            refine go_lload_n (show decode cX10_find 80 = .ok (.lload_n 3, 1) by decide +kernel) (by rfl) ?_
            refine go_callV (d2 := d - 1) (M2 := MX10_findsDown) (n := 2) (ci := 10) (av := [vI a1, vJ a3]) (st := []) (show decode cX10_find 81 = .ok (.invokevirtual 437, 3) by decide +kernel) ml_X10_437 mt_X10_findsDown min_X10_findsDown mse_X10_findsDown (by decide) (shm_k hsm 53 (by decide) (by decide)) rfl (Nat.le_of_ble_eq_true rfl) (by omega) (ok_mono h (fun w17 S18 F19 G20 h => ?_))
            obtain ⟨e8, h⟩ := h
            replace e8 := e8.symm; subst e8
            obtain ⟨z21, e9, h⟩ := h
            subst e9
            show Go d MX10_find 84 [some (vR 53), some (vI a1), some (vI a2), some (vJ a3), none, none] [vI z21] S F19 G20 Q
            exact R_X10_find_84 hsm h
          · have h := hf hc
            refine go_aload_n (show decode cX10_find 55 = .ok (.aload_n 0, 1) by decide +kernel) (by rfl) ?_
            refine go_iload_n (show decode cX10_find 56 = .ok (.iload_n 1, 1) by decide +kernel) (by rfl) ?_
            refine go_iconst (show decode cX10_find 57 = .ok (.iconst 0, 1) by decide +kernel) (by decide) ?_
            refine go_iconst (show decode cX10_find 58 = .ok (.iconst 0, 1) by decide +kernel) (by decide) ?_
            refine go_aload_n (show decode cX10_find 59 = .ok (.aload_n 0, 1) by decide +kernel) (by rfl) ?_
            refine go_getI (show decode cX10_find 60 = .ok (.getfield 13, 3) by decide +kernel) fl_X10_13 (Or.inl rfl) (shm_k hsm 53 (by decide) (by decide)) ?_
            refine go_iconst (show decode cX10_find 63 = .ok (.iconst 1, 1) by decide +kernel) (by decide) ?_
            obtain ⟨q22, h⟩ := h
            refine go_isub (show decode cX10_find 64 = .ok (.isub, 1) by decide +kernel) q22 ?_
            refine go_aload_n (show decode cX10_find 65 = .ok (.aload_n 0, 1) by decide +kernel) (by rfl) ?_
            refine go_getI (show decode cX10_find 66 = .ok (.getfield 16, 3) by decide +kernel) fl_X10_16 (Or.inl rfl) (shm_k hsm 53 (by decide) (by decide)) ?_
            refine go_iconst (show decode cX10_find 69 = .ok (.iconst 1, 1) by decide +kernel) (by decide) ?_
            obtain ⟨q23, h⟩ := h
            refine go_isub (show decode cX10_find 70 = .ok (.isub, 1) by decide +kernel) q23 ?_
            refine go_lload_n (show decode cX10_find 71 = .ok (.lload_n 3, 1) by decide +kernel) (by rfl) ?_
            refine go_callV (d2 := d - 1) (M2 := MX10_finds) (n := 6) (ci := 10) (av := [vI a1, vI 0, vI 0, vI ((F1 53 1) - 1), vI ((F1 53 2) - 1), vJ a3]) (st := []) (show decode cX10_find 72 = .ok (.invokevirtual 255, 3) by decide +kernel) ml_X10_255 mt_X10_finds min_X10_finds mse_X10_finds (by decide) (shm_k hsm 53 (by decide) (by decide)) rfl (Nat.le_of_ble_eq_true rfl) (by omega) (ok_mono h (fun w24 S25 F26 G27 h => ?_))
            obtain ⟨e8, h⟩ := h
            replace e8 := e8.symm; subst e8
            obtain ⟨z28, e9, h⟩ := h
            subst e9
            show Go d MX10_find 75 [some (vR 53), some (vI a1), some (vI a2), some (vJ a3), none, none] [vI z28] S F26 G27 Q
            refine go_goto (tgt := 84) (show decode cX10_find 75 = .ok (.goto 9, 3) by decide +kernel) (by decide) ?_
            exact R_X10_find_84 hsm h
        · have h := hf hc
          refine go_ldc2 (show decode cX10_find 47 = .ok (.ldc2_w 311, 3) by decide +kernel) lc_X10_311 (by decide) ?_
          exact go_lret (show decode cX10_find 50 = .ok (.lreturn, 1) by decide +kernel) rfl h
      · have h := hf hc
        refine go_ldc2 (show decode cX10_find 32 = .ok (.ldc2_w 120, 3) by decide +kernel) lc_X10_120 (by decide) ?_
        exact go_lret (show decode cX10_find 35 = .ok (.lreturn, 1) by decide +kernel) rfl h
    · have h := hf hc
      refine go_ldc2 (show decode cX10_find 22 = .ok (.ldc2_w 174, 3) by decide +kernel) lc_X10_174 (by decide) ?_
      exact go_lret (show decode cX10_find 25 = .ok (.lreturn, 1) by decide +kernel) rfl h
def V_X10_findsDown_104 (d : Nat) (S : AS) (F : AF) (G : AG) (Q : AQ) (a1 : Int) (a2 : Int) (a4 : Int) (a6 : Int) (a7 : Int) (a9 : Int) (a11 : Int) : Prop :=
  (1 ≤ d) ∧
  ∃ z6 : Int, Pu (d - 1) MX10_in [vR 53, vI a1, vI a6, vI a11] S F G (some (vJ z6)) ∧
  ∃ z12 : Int, Pu (d - 1) MX10_downOf [vR 53, vI a11] S F G (some (vI z12)) ∧
  (r64 (z6 * z12)) ∧
  ((a4 ≤ z6 * z12) →
    ∃ z19 : Int, Pu (d - 1) MX10_in [vR 53, vI a1, vI a6, vI a11] S F G (some (vJ z19)) ∧
    (r64 (a4 - 1)) ∧
    (¬ z19 = 0) ∧
    (r64 (Int.tdiv (a4 - 1) z19)) ∧
    (r32 (Int.tdiv (a4 - 1) z19)) ∧
    ∃ z29 : Int, Pu (d - 1) MX10_edgeAt [vR 53, vI 1, vI a11] S F G (some (vI z29)) ∧
    (r32 ((Int.tdiv (a4 - 1) z19) + z29)) ∧
    ∀ F32 : AF, F32 = fu F 53 22 ((Int.tdiv (a4 - 1) z19) + z29) →
    Q (some (vI 1)) S F32 G) ∧
  ((¬ a4 ≤ z6 * z12) →
    ∃ z37 : Int, Pu (d - 1) MX10_in [vR 53, vI a1, vI a6, vI a11] S F G (some (vJ z37)) ∧
    ∃ z43 : Int, Pu (d - 1) MX10_downOf [vR 53, vI a11] S F G (some (vI z43)) ∧
    (r64 (z37 * z43)) ∧
    (r64 (a4 - (z37 * z43))) ∧
    ∀ x47 : Int, x47 = a4 - (z37 * z43) →
    (r32 (a11 + 1)) ∧
    Go d MX10_findsDown 104 [some (vR 53), some (vI a1), some (vJ a2), none, some (vJ x47), none, some (vI a6), some (vJ a7), none, some (vJ a9), none, some (vI (a11 + 1)), none, none] [] S F G Q)
theorem R_X10_findsDown_104 {d : Nat} {S : AS} {F : AF} {G : AG} {Q : AQ} {a1 : Int} {a2 : Int} {a4 : Int} {a6 : Int} {a7 : Int} {a9 : Int} {a11 : Int} (hsm : ShM S) (h : V_X10_findsDown_104 d S F G Q a1 a2 a4 a6 a7 a9 a11) : Go d MX10_findsDown 104 [some (vR 53), some (vI a1), some (vJ a2), none, some (vJ a4), none, some (vI a6), some (vJ a7), none, some (vJ a9), none, some (vI a11), none, none] [] S F G Q := by
  unfold V_X10_findsDown_104 at h
  refine go_aload_n (show decode cX10_findsDown 104 = .ok (.aload_n 0, 1) by decide +kernel) (by rfl) ?_
  refine go_iload_n (show decode cX10_findsDown 105 = .ok (.iload_n 1, 1) by decide +kernel) (by rfl) ?_
  refine go_iload (show decode cX10_findsDown 106 = .ok (.iload 6, 2) by decide +kernel) (by rfl) ?_
  refine go_iload (show decode cX10_findsDown 108 = .ok (.iload 11, 2) by decide +kernel) (by rfl) ?_
  obtain ⟨q1, h⟩ := h
  obtain ⟨z6, p7, h⟩ := h
  refine go_callV (d2 := d - 1) (M2 := MX10_in) (n := 3) (ci := 10) (av := [vI a1, vI a6, vI a11]) (st := []) (show decode cX10_findsDown 110 = .ok (.invokevirtual 163, 3) by decide +kernel) ml_X10_163 mt_X10_in min_X10_in mse_X10_in (by decide) (shm_k hsm 53 (by decide) (by decide)) rfl (Nat.le_of_ble_eq_true rfl) (by omega) (ok_mono p7 (fun w2 S3 F4 G5 e9 => ?_))
  obtain ⟨e1, e2, e3, e4⟩ := e9
  subst e1
  replace e2 := e2.symm; subst e2
  replace e3 := e3.symm; subst e3
  replace e4 := e4.symm; subst e4
  show Go d MX10_findsDown 113 [some (vR 53), some (vI a1), some (vJ a2), none, some (vJ a4), none, some (vI a6), some (vJ a7), none, some (vJ a9), none, some (vI a11), none, none] [vJ z6] S F G Q
  refine go_aload_n (show decode cX10_findsDown 113 = .ok (.aload_n 0, 1) by decide +kernel) (by rfl) ?_
  refine go_iload (show decode cX10_findsDown 114 = .ok (.iload 11, 2) by decide +kernel) (by rfl) ?_
  obtain ⟨z12, p13, h⟩ := h
  refine go_callV (d2 := d - 1) (M2 := MX10_downOf) (n := 1) (ci := 10) (av := [vI a11]) (st := [vJ z6]) (show decode cX10_findsDown 116 = .ok (.invokevirtual 236, 3) by decide +kernel) ml_X10_236 mt_X10_downOf min_X10_downOf mse_X10_downOf (by decide) (shm_k hsm 53 (by decide) (by decide)) rfl (Nat.le_of_ble_eq_true rfl) (by omega) (ok_mono p13 (fun w8 S9 F10 G11 e9 => ?_))
  obtain ⟨e1, e2, e3, e4⟩ := e9
  subst e1
  replace e2 := e2.symm; subst e2
  replace e3 := e3.symm; subst e3
  replace e4 := e4.symm; subst e4
  show Go d MX10_findsDown 119 [some (vR 53), some (vI a1), some (vJ a2), none, some (vJ a4), none, some (vI a6), some (vJ a7), none, some (vJ a9), none, some (vI a11), none, none] [vI z12, vJ z6] S F G Q
  refine go_i2l (show decode cX10_findsDown 119 = .ok (.i2l, 1) by decide +kernel) ?_
  obtain ⟨q14, h⟩ := h
  refine go_lmul (show decode cX10_findsDown 120 = .ok (.lmul, 1) by decide +kernel) q14 ?_
  refine go_lload (show decode cX10_findsDown 121 = .ok (.lload 4, 2) by decide +kernel) (by rfl) ?_
  obtain ⟨ht, hf⟩ := h
  refine go_jge (tgt := 155) (show decode cX10_findsDown 123 = .ok (.lcmp, 1) by decide +kernel) (show decode cX10_findsDown 124 = .ok (.ifCond .ge 31, 3) by decide +kernel) (by decide) (fun hc => ?_) (fun hc => ?_)
  · have h := ht hc
    refine go_aload_n (show decode cX10_findsDown 155 = .ok (.aload_n 0, 1) by decide +kernel) (by rfl) ?_
    refine go_iload_n (show decode cX10_findsDown 156 = .ok (.iload_n 1, 1) by decide +kernel) (by rfl) ?_
    refine go_iload (show decode cX10_findsDown 157 = .ok (.iload 6, 2) by decide +kernel) (by rfl) ?_
    refine go_iload (show decode cX10_findsDown 159 = .ok (.iload 11, 2) by decide +kernel) (by rfl) ?_
    obtain ⟨z19, p20, h⟩ := h
    refine go_callV (d2 := d - 1) (M2 := MX10_in) (n := 3) (ci := 10) (av := [vI a1, vI a6, vI a11]) (st := []) (show decode cX10_findsDown 161 = .ok (.invokevirtual 163, 3) by decide +kernel) ml_X10_163 mt_X10_in min_X10_in mse_X10_in (by decide) (shm_k hsm 53 (by decide) (by decide)) rfl (Nat.le_of_ble_eq_true rfl) (by omega) (ok_mono p20 (fun w15 S16 F17 G18 e9 => ?_))
    obtain ⟨e1, e2, e3, e4⟩ := e9
    subst e1
    replace e2 := e2.symm; subst e2
    replace e3 := e3.symm; subst e3
    replace e4 := e4.symm; subst e4
    show Go d MX10_findsDown 164 [some (vR 53), some (vI a1), some (vJ a2), none, some (vJ a4), none, some (vI a6), some (vJ a7), none, some (vJ a9), none, some (vI a11), none, none] [vJ z19] S F G Q
    refine go_lstore (show decode cX10_findsDown 164 = .ok (.lstore 12, 2) by decide +kernel) (by decide) ?_
    show Go d MX10_findsDown 166 [some (vR 53), some (vI a1), some (vJ a2), none, some (vJ a4), none, some (vI a6), some (vJ a7), none, some (vJ a9), none, some (vI a11), some (vJ z19), none] [] S F G Q
    refine go_aload_n (show decode cX10_findsDown 166 = .ok (.aload_n 0, 1) by decide +kernel) (by rfl) ?_
    refine go_lload (show decode cX10_findsDown 167 = .ok (.lload 4, 2) by decide +kernel) (by rfl) ?_
    refine go_lconst (n := 1) (show decode cX10_findsDown 169 = .ok (.lconst 1, 1) by decide +kernel) ?_
    show Go d MX10_findsDown 170 [some (vR 53), some (vI a1), some (vJ a2), none, some (vJ a4), none, some (vI a6), some (vJ a7), none, some (vJ a9), none, some (vI a11), some (vJ z19), none] [vJ 1, vJ a4, vR 53] S F G Q
    obtain ⟨q21, h⟩ := h
    refine go_lsub (show decode cX10_findsDown 170 = .ok (.lsub, 1) by decide +kernel) q21 ?_
    refine go_lload (show decode cX10_findsDown 171 = .ok (.lload 12, 2) by decide +kernel) (by rfl) ?_
    obtain ⟨q22, h⟩ := h
    obtain ⟨q23, h⟩ := h
    refine go_ldiv (show decode cX10_findsDown 173 = .ok (.ldiv, 1) by decide +kernel) q22 q23 ?_
    obtain ⟨q24, h⟩ := h
    refine go_l2i (show decode cX10_findsDown 174 = .ok (.l2i, 1) by decide +kernel) q24 ?_
    refine go_aload_n (show decode cX10_findsDown 175 = .ok (.aload_n 0, 1) by decide +kernel) (by rfl) ?_
    refine go_iconst (show decode cX10_findsDown 176 = .ok (.iconst 1, 1) by decide +kernel) (by decide) ?_
    refine go_iload (show decode cX10_findsDown 177 = .ok (.iload 11, 2) by decide +kernel) (by rfl) ?_
    obtain ⟨z29, p30, h⟩ := h
    refine go_callV (d2 := d - 1) (M2 := MX10_edgeAt) (n := 2) (ci := 10) (av := [vI 1, vI a11]) (st := [vI (Int.tdiv (a4 - 1) z19), vR 53]) (show decode cX10_findsDown 179 = .ok (.invokevirtual 126, 3) by decide +kernel) ml_X10_126 mt_X10_edgeAt min_X10_edgeAt mse_X10_edgeAt (by decide) (shm_k hsm 53 (by decide) (by decide)) rfl (Nat.le_of_ble_eq_true rfl) (by omega) (ok_mono p30 (fun w25 S26 F27 G28 e9 => ?_))
    obtain ⟨e1, e2, e3, e4⟩ := e9
    subst e1
    replace e2 := e2.symm; subst e2
    replace e3 := e3.symm; subst e3
    replace e4 := e4.symm; subst e4
    show Go d MX10_findsDown 182 [some (vR 53), some (vI a1), some (vJ a2), none, some (vJ a4), none, some (vI a6), some (vJ a7), none, some (vJ a9), none, some (vI a11), some (vJ z19), none] [vI z29, vI (Int.tdiv (a4 - 1) z19), vR 53] S F G Q
    obtain ⟨q31, h⟩ := h
    refine go_iadd (show decode cX10_findsDown 182 = .ok (.iadd, 1) by decide +kernel) q31 ?_
    refine go_putI (show decode cX10_findsDown 183 = .ok (.putfield 221, 3) by decide +kernel) fl_X10_221 rfl (Or.inl rfl) (shm_k hsm 53 (by decide) (by decide)) ?_
    obtain ⟨F32, F32e⟩ : ∃ F32 : AF, F32 = fu F 53 22 ((Int.tdiv (a4 - 1) z19) + z29) := ⟨_, rfl⟩
    have h := h F32 F32e
    rw [← F32e]
    refine go_iconst (show decode cX10_findsDown 186 = .ok (.iconst 1, 1) by decide +kernel) (by decide) ?_
    exact go_zret (show decode cX10_findsDown 187 = .ok (.ireturn, 1) by decide +kernel) rfl (by decide) h
  · have h := hf hc
    refine go_lload (show decode cX10_findsDown 127 = .ok (.lload 4, 2) by decide +kernel) (by rfl) ?_
    refine go_aload_n (show decode cX10_findsDown 129 = .ok (.aload_n 0, 1) by decide +kernel) (by rfl) ?_
    refine go_iload_n (show decode cX10_findsDown 130 = .ok (.iload_n 1, 1) by decide +kernel) (by rfl) ?_
    refine go_iload (show decode cX10_findsDown 131 = .ok (.iload 6, 2) by decide +kernel) (by rfl) ?_
    refine go_iload (show decode cX10_findsDown 133 = .ok (.iload 11, 2) by decide +kernel) (by rfl) ?_
    obtain ⟨z37, p38, h⟩ := h
    refine go_callV (d2 := d - 1) (M2 := MX10_in) (n := 3) (ci := 10) (av := [vI a1, vI a6, vI a11]) (st := [vJ a4]) (show decode cX10_findsDown 135 = .ok (.invokevirtual 163, 3) by decide +kernel) ml_X10_163 mt_X10_in min_X10_in mse_X10_in (by decide) (shm_k hsm 53 (by decide) (by decide)) rfl (Nat.le_of_ble_eq_true rfl) (by omega) (ok_mono p38 (fun w33 S34 F35 G36 e9 => ?_))
    obtain ⟨e1, e2, e3, e4⟩ := e9
    subst e1
    replace e2 := e2.symm; subst e2
    replace e3 := e3.symm; subst e3
    replace e4 := e4.symm; subst e4
    show Go d MX10_findsDown 138 [some (vR 53), some (vI a1), some (vJ a2), none, some (vJ a4), none, some (vI a6), some (vJ a7), none, some (vJ a9), none, some (vI a11), none, none] [vJ z37, vJ a4] S F G Q
    refine go_aload_n (show decode cX10_findsDown 138 = .ok (.aload_n 0, 1) by decide +kernel) (by rfl) ?_
    refine go_iload (show decode cX10_findsDown 139 = .ok (.iload 11, 2) by decide +kernel) (by rfl) ?_
    obtain ⟨z43, p44, h⟩ := h
    refine go_callV (d2 := d - 1) (M2 := MX10_downOf) (n := 1) (ci := 10) (av := [vI a11]) (st := [vJ z37, vJ a4]) (show decode cX10_findsDown 141 = .ok (.invokevirtual 236, 3) by decide +kernel) ml_X10_236 mt_X10_downOf min_X10_downOf mse_X10_downOf (by decide) (shm_k hsm 53 (by decide) (by decide)) rfl (Nat.le_of_ble_eq_true rfl) (by omega) (ok_mono p44 (fun w39 S40 F41 G42 e9 => ?_))
    obtain ⟨e1, e2, e3, e4⟩ := e9
    subst e1
    replace e2 := e2.symm; subst e2
    replace e3 := e3.symm; subst e3
    replace e4 := e4.symm; subst e4
    show Go d MX10_findsDown 144 [some (vR 53), some (vI a1), some (vJ a2), none, some (vJ a4), none, some (vI a6), some (vJ a7), none, some (vJ a9), none, some (vI a11), none, none] [vI z43, vJ z37, vJ a4] S F G Q
    refine go_i2l (show decode cX10_findsDown 144 = .ok (.i2l, 1) by decide +kernel) ?_
    obtain ⟨q45, h⟩ := h
    refine go_lmul (show decode cX10_findsDown 145 = .ok (.lmul, 1) by decide +kernel) q45 ?_
    obtain ⟨q46, h⟩ := h
    refine go_lsub (show decode cX10_findsDown 146 = .ok (.lsub, 1) by decide +kernel) q46 ?_
    obtain ⟨x47, x47e⟩ : ∃ x47 : Int, x47 = a4 - (z37 * z43) := ⟨_, rfl⟩
    have h := h x47 x47e
    rw [← x47e]
    refine go_lstore (show decode cX10_findsDown 147 = .ok (.lstore 4, 2) by decide +kernel) (by decide) ?_
    show Go d MX10_findsDown 149 [some (vR 53), some (vI a1), some (vJ a2), none, some (vJ x47), none, some (vI a6), some (vJ a7), none, some (vJ a9), none, some (vI a11), none, none] [] S F G Q
    obtain ⟨q48, h⟩ := h
    refine go_iinc (show decode cX10_findsDown 149 = .ok (.iinc 11 1, 3) by decide +kernel) (by rfl) q48 (by decide) ?_
    show Go d MX10_findsDown 152 [some (vR 53), some (vI a1), some (vJ a2), none, some (vJ x47), none, some (vI a6), some (vJ a7), none, some (vJ a9), none, some (vI (a11 + 1)), none, none] [] S F G Q
    refine go_goto (tgt := 104) (show decode cX10_findsDown 152 = .ok (.goto (-48), 3) by decide +kernel) (by decide) ?_
    exact h
def V_X10_findsDown_6 (d : Nat) (S : AS) (F : AF) (G : AG) (Q : AQ) (a1 : Int) (a2 : Int) (a4 : Int) (a6 : Int) : Prop :=
  ((G 55 0 ≤ a6) →
    Q (some (vI 0)) S F G) ∧
  ((¬ G 55 0 ≤ a6) →
    (r32 ((F 53 2) - 1)) ∧
    (1 ≤ d) ∧
    ∃ z7 : Int, Pu (d - 1) MX10_downSum [vR 53, vI a1, vI a6, vI 0, vI ((F 53 2) - 1)] S F G (some (vJ z7)) ∧
    ∃ z13 : Int, Pu (d - 1) MX10_acrossOf [vR 53, vI a6] S F G (some (vI z13)) ∧
    (r64 (z7 * z13)) ∧
    ((a4 ≤ z7 * z13) →
      (r64 (a4 - 1)) ∧
      (¬ z7 = 0) ∧
      (r64 (Int.tdiv (a4 - 1) z7)) ∧
      ∀ x19 : Int, x19 = Int.tdiv (a4 - 1) z7 →
      (r64 (x19 * z7)) ∧
      (r64 (a4 - (x19 * z7))) ∧
      ∀ x22 : Int, x22 = a4 - (x19 * z7) →
      (r32 (x19)) ∧
      ∃ z28 : Int, Pu (d - 1) MX10_edgeAt [vR 53, vI 0, vI a6] S F G (some (vI z28)) ∧
      (r32 (x19 + z28)) ∧
      ∀ F31 : AF, F31 = fu F 53 21 (x19 + z28) →
      Go d MX10_findsDown 104 [some (vR 53), some (vI a1), some (vJ a2), none, some (vJ x22), none, some (vI a6), some (vJ z7), none, some (vJ x19), none, some (vI 0), none, none] [] S F31 G Q) ∧
    ((¬ a4 ≤ z7 * z13) →
      ∃ z36 : Int, Pu (d - 1) MX10_acrossOf [vR 53, vI a6] S F G (some (vI z36)) ∧
      (r64 (z7 * z36)) ∧
      (r64 (a4 - (z7 * z36))) ∧
      ∀ x40 : Int, x40 = a4 - (z7 * z36) →
      (r32 (a6 + 1)) ∧
      Go d MX10_findsDown 6 [some (vR 53), some (vI a1), some (vJ a2), none, some (vJ x40), none, some (vI (a6 + 1)), none, none, none, none, none, none, none] [] S F G Q))
theorem R_X10_findsDown_6 {d : Nat} {S : AS} {F : AF} {G : AG} {Q : AQ} {a1 : Int} {a2 : Int} {a4 : Int} {a6 : Int} (hsm : ShM S) (h : V_X10_findsDown_6 d S F G Q a1 a2 a4 a6) : Go d MX10_findsDown 6 [some (vR 53), some (vI a1), some (vJ a2), none, some (vJ a4), none, some (vI a6), none, none, none, none, none, none, none] [] S F G Q := by
  unfold V_X10_findsDown_6 at h
  refine go_iload (show decode cX10_findsDown 6 = .ok (.iload 6, 2) by decide +kernel) (by rfl) ?_
  refine go_aload_n (show decode cX10_findsDown 8 = .ok (.aload_n 0, 1) by decide +kernel) (by rfl) ?_
  refine go_getRc (show decode cX10_findsDown 9 = .ok (.getfield 29, 3) by decide +kernel) fl_X10_29 rfl (shm_k hsm 53 (by decide) (by decide)) (v := 55) (shm_r hsm 53 5 (by decide) (by decide)) ?_
  refine go_iconst (show decode cX10_findsDown 12 = .ok (.iconst 0, 1) by decide +kernel) (by decide) ?_
  refine go_iaload (show decode cX10_findsDown 13 = .ok (.iaload, 1) by decide +kernel) (shm_k hsm 55 (by decide) (by decide)) (by decide) (lt_n (m := 2) (by decide) (shm_n hsm 55 (by decide) (by decide))) ?_
  obtain ⟨ht, hf⟩ := h
  refine go_icmpge (tgt := 194) (show decode cX10_findsDown 14 = .ok (.if_icmp .ge 180, 3) by decide +kernel) (by decide) (fun hc => ?_) (fun hc => ?_)
  · have h := ht hc
    refine go_iconst (show decode cX10_findsDown 194 = .ok (.iconst 0, 1) by decide +kernel) (by decide) ?_
    exact go_zret (show decode cX10_findsDown 195 = .ok (.ireturn, 1) by decide +kernel) rfl (by decide) h
  · have h := hf hc
    refine go_aload_n (show decode cX10_findsDown 17 = .ok (.aload_n 0, 1) by decide +kernel) (by rfl) ?_
    refine go_iload_n (show decode cX10_findsDown 18 = .ok (.iload_n 1, 1) by decide +kernel) (by rfl) ?_
    refine go_iload (show decode cX10_findsDown 19 = .ok (.iload 6, 2) by decide +kernel) (by rfl) ?_
    refine go_iconst (show decode cX10_findsDown 21 = .ok (.iconst 0, 1) by decide +kernel) (by decide) ?_
    refine go_aload_n (show decode cX10_findsDown 22 = .ok (.aload_n 0, 1) by decide +kernel) (by rfl) ?_
    refine go_getI (show decode cX10_findsDown 23 = .ok (.getfield 16, 3) by decide +kernel) fl_X10_16 (Or.inl rfl) (shm_k hsm 53 (by decide) (by decide)) ?_
    refine go_iconst (show decode cX10_findsDown 26 = .ok (.iconst 1, 1) by decide +kernel) (by decide) ?_
    obtain ⟨q1, h⟩ := h
    refine go_isub (show decode cX10_findsDown 27 = .ok (.isub, 1) by decide +kernel) q1 ?_
    obtain ⟨q2, h⟩ := h
    obtain ⟨z7, p8, h⟩ := h
    refine go_callV (d2 := d - 1) (M2 := MX10_downSum) (n := 4) (ci := 10) (av := [vI a1, vI a6, vI 0, vI ((F 53 2) - 1)]) (st := []) (show decode cX10_findsDown 28 = .ok (.invokevirtual 230, 3) by decide +kernel) ml_X10_230 mt_X10_downSum min_X10_downSum mse_X10_downSum (by decide) (shm_k hsm 53 (by decide) (by decide)) rfl (Nat.le_of_ble_eq_true rfl) (by omega) (ok_mono p8 (fun w3 S4 F5 G6 e9 => ?_))
    obtain ⟨e1, e2, e3, e4⟩ := e9
    subst e1
    replace e2 := e2.symm; subst e2
    replace e3 := e3.symm; subst e3
    replace e4 := e4.symm; subst e4
    show Go d MX10_findsDown 31 [some (vR 53), some (vI a1), some (vJ a2), none, some (vJ a4), none, some (vI a6), none, none, none, none, none, none, none] [vJ z7] S F G Q
    refine go_lstore (show decode cX10_findsDown 31 = .ok (.lstore 7, 2) by decide +kernel) (by decide) ?_
    show Go d MX10_findsDown 33 [some (vR 53), some (vI a1), some (vJ a2), none, some (vJ a4), none, some (vI a6), some (vJ z7), none, none, none, none, none, none] [] S F G Q
    refine go_lload (show decode cX10_findsDown 33 = .ok (.lload 7, 2) by decide +kernel) (by rfl) ?_
    refine go_aload_n (show decode cX10_findsDown 35 = .ok (.aload_n 0, 1) by decide +kernel) (by rfl) ?_
    refine go_iload (show decode cX10_findsDown 36 = .ok (.iload 6, 2) by decide +kernel) (by rfl) ?_
    obtain ⟨z13, p14, h⟩ := h
    refine go_callV (d2 := d - 1) (M2 := MX10_acrossOf) (n := 1) (ci := 10) (av := [vI a6]) (st := [vJ z7]) (show decode cX10_findsDown 38 = .ok (.invokevirtual 233, 3) by decide +kernel) ml_X10_233 mt_X10_acrossOf min_X10_acrossOf mse_X10_acrossOf (by decide) (shm_k hsm 53 (by decide) (by decide)) rfl (Nat.le_of_ble_eq_true rfl) (by omega) (ok_mono p14 (fun w9 S10 F11 G12 e9 => ?_))
    obtain ⟨e1, e2, e3, e4⟩ := e9
    subst e1
    replace e2 := e2.symm; subst e2
    replace e3 := e3.symm; subst e3
    replace e4 := e4.symm; subst e4
    show Go d MX10_findsDown 41 [some (vR 53), some (vI a1), some (vJ a2), none, some (vJ a4), none, some (vI a6), some (vJ z7), none, none, none, none, none, none] [vI z13, vJ z7] S F G Q
    refine go_i2l (show decode cX10_findsDown 41 = .ok (.i2l, 1) by decide +kernel) ?_
    obtain ⟨q15, h⟩ := h
    refine go_lmul (show decode cX10_findsDown 42 = .ok (.lmul, 1) by decide +kernel) q15 ?_
    refine go_lload (show decode cX10_findsDown 43 = .ok (.lload 4, 2) by decide +kernel) (by rfl) ?_
    obtain ⟨ht, hf⟩ := h
    refine go_jge (tgt := 67) (show decode cX10_findsDown 45 = .ok (.lcmp, 1) by decide +kernel) (show decode cX10_findsDown 46 = .ok (.ifCond .ge 21, 3) by decide +kernel) (by decide) (fun hc => ?_) (fun hc => ?_)
    · have h := ht hc
      refine go_lload (show decode cX10_findsDown 67 = .ok (.lload 4, 2) by decide +kernel) (by rfl) ?_
      refine go_lconst (n := 1) (show decode cX10_findsDown 69 = .ok (.lconst 1, 1) by decide +kernel) ?_
      show Go d MX10_findsDown 70 [some (vR 53), some (vI a1), some (vJ a2), none, some (vJ a4), none, some (vI a6), some (vJ z7), none, none, none, none, none, none] [vJ 1, vJ a4] S F G Q
      obtain ⟨q16, h⟩ := h
      refine go_lsub (show decode cX10_findsDown 70 = .ok (.lsub, 1) by decide +kernel) q16 ?_
      refine go_lload (show decode cX10_findsDown 71 = .ok (.lload 7, 2) by decide +kernel) (by rfl) ?_
      obtain ⟨q17, h⟩ := h
      obtain ⟨q18, h⟩ := h
      refine go_ldiv (show decode cX10_findsDown 73 = .ok (.ldiv, 1) by decide +kernel) q17 q18 ?_
      obtain ⟨x19, x19e⟩ : ∃ x19 : Int, x19 = Int.tdiv (a4 - 1) z7 := ⟨_, rfl⟩
      have h := h x19 x19e
      rw [← x19e]
      refine go_lstore (show decode cX10_findsDown 74 = .ok (.lstore 9, 2) by decide +kernel) (by decide) ?_
      show Go d MX10_findsDown 76 [some (vR 53), some (vI a1), some (vJ a2), none, some (vJ a4), none, some (vI a6), some (vJ z7), none, some (vJ x19), none, none, none, none] [] S F G Q
      refine go_lload (show decode cX10_findsDown 76 = .ok (.lload 4, 2) by decide +kernel) (by rfl) ?_
      refine go_lload (show decode cX10_findsDown 78 = .ok (.lload 9, 2) by decide +kernel) (by rfl) ?_
      refine go_lload (show decode cX10_findsDown 80 = .ok (.lload 7, 2) by decide +kernel) (by rfl) ?_
      obtain ⟨q20, h⟩ := h
      refine go_lmul (show decode cX10_findsDown 82 = .ok (.lmul, 1) by decide +kernel) q20 ?_
      obtain ⟨q21, h⟩ := h
      refine go_lsub (show decode cX10_findsDown 83 = .ok (.lsub, 1) by decide +kernel) q21 ?_
      obtain ⟨x22, x22e⟩ : ∃ x22 : Int, x22 = a4 - (x19 * z7) := ⟨_, rfl⟩
      have h := h x22 x22e
      rw [← x22e]
      refine go_lstore (show decode cX10_findsDown 84 = .ok (.lstore 4, 2) by decide +kernel) (by decide) ?_
      show Go d MX10_findsDown 86 [some (vR 53), some (vI a1), some (vJ a2), none, some (vJ x22), none, some (vI a6), some (vJ z7), none, some (vJ x19), none, none, none, none] [] S F G Q
      refine go_aload_n (show decode cX10_findsDown 86 = .ok (.aload_n 0, 1) by decide +kernel) (by rfl) ?_
      refine go_lload (show decode cX10_findsDown 87 = .ok (.lload 9, 2) by decide +kernel) (by rfl) ?_
      obtain ⟨q23, h⟩ := h
      refine go_l2i (show decode cX10_findsDown 89 = .ok (.l2i, 1) by decide +kernel) q23 ?_
      refine go_aload_n (show decode cX10_findsDown 90 = .ok (.aload_n 0, 1) by decide +kernel) (by rfl) ?_
      refine go_iconst (show decode cX10_findsDown 91 = .ok (.iconst 0, 1) by decide +kernel) (by decide) ?_
      refine go_iload (show decode cX10_findsDown 92 = .ok (.iload 6, 2) by decide +kernel) (by rfl) ?_
      obtain ⟨z28, p29, h⟩ := h
      refine go_callV (d2 := d - 1) (M2 := MX10_edgeAt) (n := 2) (ci := 10) (av := [vI 0, vI a6]) (st := [vI x19, vR 53]) (show decode cX10_findsDown 94 = .ok (.invokevirtual 126, 3) by decide +kernel) ml_X10_126 mt_X10_edgeAt min_X10_edgeAt mse_X10_edgeAt (by decide) (shm_k hsm 53 (by decide) (by decide)) rfl (Nat.le_of_ble_eq_true rfl) (by omega) (ok_mono p29 (fun w24 S25 F26 G27 e9 => ?_))
      obtain ⟨e1, e2, e3, e4⟩ := e9
      subst e1
      replace e2 := e2.symm; subst e2
      replace e3 := e3.symm; subst e3
      replace e4 := e4.symm; subst e4
      show Go d MX10_findsDown 97 [some (vR 53), some (vI a1), some (vJ a2), none, some (vJ x22), none, some (vI a6), some (vJ z7), none, some (vJ x19), none, none, none, none] [vI z28, vI x19, vR 53] S F G Q
      obtain ⟨q30, h⟩ := h
      refine go_iadd (show decode cX10_findsDown 97 = .ok (.iadd, 1) by decide +kernel) q30 ?_
      refine go_putI (show decode cX10_findsDown 98 = .ok (.putfield 224, 3) by decide +kernel) fl_X10_224 rfl (Or.inl rfl) (shm_k hsm 53 (by decide) (by decide)) ?_
      obtain ⟨F31, F31e⟩ : ∃ F31 : AF, F31 = fu F 53 21 (x19 + z28) := ⟨_, rfl⟩
      have h := h F31 F31e
      rw [← F31e]
      refine go_iconst (show decode cX10_findsDown 101 = .ok (.iconst 0, 1) by decide +kernel) (by decide) ?_
      refine go_istore (show decode cX10_findsDown 102 = .ok (.istore 11, 2) by decide +kernel) (by decide) ?_
      show Go d MX10_findsDown 104 [some (vR 53), some (vI a1), some (vJ a2), none, some (vJ x22), none, some (vI a6), some (vJ z7), none, some (vJ x19), none, some (vI 0), none, none] [] S F31 G Q
      exact h
    · have h := hf hc
      refine go_lload (show decode cX10_findsDown 49 = .ok (.lload 4, 2) by decide +kernel) (by rfl) ?_
      refine go_lload (show decode cX10_findsDown 51 = .ok (.lload 7, 2) by decide +kernel) (by rfl) ?_
      refine go_aload_n (show decode cX10_findsDown 53 = .ok (.aload_n 0, 1) by decide +kernel) (by rfl) ?_
      refine go_iload (show decode cX10_findsDown 54 = .ok (.iload 6, 2) by decide +kernel) (by rfl) ?_
      obtain ⟨z36, p37, h⟩ := h
      refine go_callV (d2 := d - 1) (M2 := MX10_acrossOf) (n := 1) (ci := 10) (av := [vI a6]) (st := [vJ z7, vJ a4]) (show decode cX10_findsDown 56 = .ok (.invokevirtual 233, 3) by decide +kernel) ml_X10_233 mt_X10_acrossOf min_X10_acrossOf mse_X10_acrossOf (by decide) (shm_k hsm 53 (by decide) (by decide)) rfl (Nat.le_of_ble_eq_true rfl) (by omega) (ok_mono p37 (fun w32 S33 F34 G35 e9 => ?_))
      obtain ⟨e1, e2, e3, e4⟩ := e9
      subst e1
      replace e2 := e2.symm; subst e2
      replace e3 := e3.symm; subst e3
      replace e4 := e4.symm; subst e4
      show Go d MX10_findsDown 59 [some (vR 53), some (vI a1), some (vJ a2), none, some (vJ a4), none, some (vI a6), some (vJ z7), none, none, none, none, none, none] [vI z36, vJ z7, vJ a4] S F G Q
      refine go_i2l (show decode cX10_findsDown 59 = .ok (.i2l, 1) by decide +kernel) ?_
      obtain ⟨q38, h⟩ := h
      refine go_lmul (show decode cX10_findsDown 60 = .ok (.lmul, 1) by decide +kernel) q38 ?_
      obtain ⟨q39, h⟩ := h
      refine go_lsub (show decode cX10_findsDown 61 = .ok (.lsub, 1) by decide +kernel) q39 ?_
      obtain ⟨x40, x40e⟩ : ∃ x40 : Int, x40 = a4 - (z7 * z36) := ⟨_, rfl⟩
      have h := h x40 x40e
      rw [← x40e]
      refine go_lstore (show decode cX10_findsDown 62 = .ok (.lstore 4, 2) by decide +kernel) (by decide) ?_
      show Go d MX10_findsDown 64 [some (vR 53), some (vI a1), some (vJ a2), none, some (vJ x40), none, some (vI a6), some (vJ z7), none, none, none, none, none, none] [] S F G Q
      refine go_goto (tgt := 188) (show decode cX10_findsDown 64 = .ok (.goto 124, 3) by decide +kernel) (by decide) ?_
      obtain ⟨q41, h⟩ := h
      refine go_iinc (show decode cX10_findsDown 188 = .ok (.iinc 6 1, 3) by decide +kernel) (by rfl) q41 (by decide) ?_
      show Go d MX10_findsDown 191 [some (vR 53), some (vI a1), some (vJ a2), none, some (vJ x40), none, some (vI (a6 + 1)), some (vJ z7), none, none, none, none, none, none] [] S F G Q
      refine go_goto (tgt := 6) (show decode cX10_findsDown 191 = .ok (.goto (-185), 3) by decide +kernel) (by decide) ?_
      refine go_clr 7 ?_
      exact h
def V_X10_findsDown_0 (d : Nat) (S : AS) (F : AF) (G : AG) (Q : AQ) (a1 : Int) (a2 : Int) : Prop :=
  Go d MX10_findsDown 6 [some (vR 53), some (vI a1), some (vJ a2), none, some (vJ a2), none, some (vI 0), none, none, none, none, none, none, none] [] S F G Q
theorem R_X10_findsDown_0 {d : Nat} {S : AS} {F : AF} {G : AG} {Q : AQ} {a1 : Int} {a2 : Int} (hsm : ShM S) (h : V_X10_findsDown_0 d S F G Q a1 a2) : Go d MX10_findsDown 0 [some (vR 53), some (vI a1), some (vJ a2), none, none, none, none, none, none, none, none, none, none, none] [] S F G Q := by
  unfold V_X10_findsDown_0 at h
  refine go_lload_n (show decode cX10_findsDown 0 = .ok (.lload_n 2, 1) by decide +kernel) (by rfl) ?_
  refine go_lstore (show decode cX10_findsDown 1 = .ok (.lstore 4, 2) by decide +kernel) (by decide) ?_
  show Go d MX10_findsDown 3 [some (vR 53), some (vI a1), some (vJ a2), none, some (vJ a2), none, none, none, none, none, none, none, none, none] [] S F G Q
  refine go_iconst (show decode cX10_findsDown 3 = .ok (.iconst 0, 1) by decide +kernel) (by decide) ?_
  refine go_istore (show decode cX10_findsDown 4 = .ok (.istore 6, 2) by decide +kernel) (by decide) ?_
  show Go d MX10_findsDown 6 [some (vR 53), some (vI a1), some (vJ a2), none, some (vJ a2), none, some (vI 0), none, none, none, none, none, none, none] [] S F G Q
  exact h
def V_X10_downSum_6 (d : Nat) (S : AS) (F : AF) (G : AG) (Q : AQ) (a1 : Int) (a2 : Int) (a3 : Int) (a4 : Int) (a5 : Int) (a7 : Int) : Prop :=
  ((G 55 1 ≤ a7) →
    Q (some (vJ a5)) S F G) ∧
  ((¬ G 55 1 ≤ a7) →
    (1 ≤ d) ∧
    ∃ z6 : Int, Pu (d - 1) MX10_in [vR 53, vI a1, vI a2, vI a7] S F G (some (vJ z6)) ∧
    ∃ z12 : Int, Pu (d - 1) MX10_part [vR 53, vI 1, vI a7, vI a3, vI a4] S F G (some (vI z12)) ∧
    (r64 (z6 * z12)) ∧
    (r64 (a5 + (z6 * z12))) ∧
    ∀ x16 : Int, x16 = a5 + (z6 * z12) →
    (r32 (a7 + 1)) ∧
    Go d MX10_downSum 6 [some (vR 53), some (vI a1), some (vI a2), some (vI a3), some (vI a4), some (vJ x16), none, some (vI (a7 + 1))] [] S F G Q)
theorem R_X10_downSum_6 {d : Nat} {S : AS} {F : AF} {G : AG} {Q : AQ} {a1 : Int} {a2 : Int} {a3 : Int} {a4 : Int} {a5 : Int} {a7 : Int} (hsm : ShM S) (h : V_X10_downSum_6 d S F G Q a1 a2 a3 a4 a5 a7) : Go d MX10_downSum 6 [some (vR 53), some (vI a1), some (vI a2), some (vI a3), some (vI a4), some (vJ a5), none, some (vI a7)] [] S F G Q := by
  unfold V_X10_downSum_6 at h
  refine go_iload (show decode cX10_downSum 6 = .ok (.iload 7, 2) by decide +kernel) (by rfl) ?_
  refine go_aload_n (show decode cX10_downSum 8 = .ok (.aload_n 0, 1) by decide +kernel) (by rfl) ?_
  refine go_getRc (show decode cX10_downSum 9 = .ok (.getfield 29, 3) by decide +kernel) fl_X10_29 rfl (shm_k hsm 53 (by decide) (by decide)) (v := 55) (shm_r hsm 53 5 (by decide) (by decide)) ?_
  refine go_iconst (show decode cX10_downSum 12 = .ok (.iconst 1, 1) by decide +kernel) (by decide) ?_
  refine go_iaload (show decode cX10_downSum 13 = .ok (.iaload, 1) by decide +kernel) (shm_k hsm 55 (by decide) (by decide)) (by decide) (lt_n (m := 2) (by decide) (shm_n hsm 55 (by decide) (by decide))) ?_
  obtain ⟨ht, hf⟩ := h
  refine go_icmpge (tgt := 48) (show decode cX10_downSum 14 = .ok (.if_icmp .ge 34, 3) by decide +kernel) (by decide) (fun hc => ?_) (fun hc => ?_)
  · have h := ht hc
    refine go_lload (show decode cX10_downSum 48 = .ok (.lload 5, 2) by decide +kernel) (by rfl) ?_
    exact go_lret (show decode cX10_downSum 50 = .ok (.lreturn, 1) by decide +kernel) rfl h
  · have h := hf hc
    refine go_lload (show decode cX10_downSum 17 = .ok (.lload 5, 2) by decide +kernel) (by rfl) ?_
    refine go_aload_n (show decode cX10_downSum 19 = .ok (.aload_n 0, 1) by decide +kernel) (by rfl) ?_
    refine go_iload_n (show decode cX10_downSum 20 = .ok (.iload_n 1, 1) by decide +kernel) (by rfl) ?_
    refine go_iload_n (show decode cX10_downSum 21 = .ok (.iload_n 2, 1) by decide +kernel) (by rfl) ?_
    refine go_iload (show decode cX10_downSum 22 = .ok (.iload 7, 2) by decide +kernel) (by rfl) ?_
    obtain ⟨q1, h⟩ := h
    obtain ⟨z6, p7, h⟩ := h
    refine go_callV (d2 := d - 1) (M2 := MX10_in) (n := 3) (ci := 10) (av := [vI a1, vI a2, vI a7]) (st := [vJ a5]) (show decode cX10_downSum 24 = .ok (.invokevirtual 163, 3) by decide +kernel) ml_X10_163 mt_X10_in min_X10_in mse_X10_in (by decide) (shm_k hsm 53 (by decide) (by decide)) rfl (Nat.le_of_ble_eq_true rfl) (by omega) (ok_mono p7 (fun w2 S3 F4 G5 e9 => ?_))
    obtain ⟨e1, e2, e3, e4⟩ := e9
    subst e1
    replace e2 := e2.symm; subst e2
    replace e3 := e3.symm; subst e3
    replace e4 := e4.symm; subst e4
    show Go d MX10_downSum 27 [some (vR 53), some (vI a1), some (vI a2), some (vI a3), some (vI a4), some (vJ a5), none, some (vI a7)] [vJ z6, vJ a5] S F G Q
    refine go_aload_n (show decode cX10_downSum 27 = .ok (.aload_n 0, 1) by decide +kernel) (by rfl) ?_
    refine go_iconst (show decode cX10_downSum 28 = .ok (.iconst 1, 1) by decide +kernel) (by decide) ?_
    refine go_iload (show decode cX10_downSum 29 = .ok (.iload 7, 2) by decide +kernel) (by rfl) ?_
    refine go_iload_n (show decode cX10_downSum 31 = .ok (.iload_n 3, 1) by decide +kernel) (by rfl) ?_
    refine go_iload (show decode cX10_downSum 32 = .ok (.iload 4, 2) by decide +kernel) (by rfl) ?_
    obtain ⟨z12, p13, h⟩ := h
    refine go_callV (d2 := d - 1) (M2 := MX10_part) (n := 4) (ci := 10) (av := [vI 1, vI a7, vI a3, vI a4]) (st := [vJ z6, vJ a5]) (show decode cX10_downSum 34 = .ok (.invokevirtual 159, 3) by decide +kernel) ml_X10_159 mt_X10_part min_X10_part mse_X10_part (by decide) (shm_k hsm 53 (by decide) (by decide)) rfl (Nat.le_of_ble_eq_true rfl) (by omega) (ok_mono p13 (fun w8 S9 F10 G11 e9 => ?_))
    obtain ⟨e1, e2, e3, e4⟩ := e9
    subst e1
    replace e2 := e2.symm; subst e2
    replace e3 := e3.symm; subst e3
    replace e4 := e4.symm; subst e4
    show Go d MX10_downSum 37 [some (vR 53), some (vI a1), some (vI a2), some (vI a3), some (vI a4), some (vJ a5), none, some (vI a7)] [vI z12, vJ z6, vJ a5] S F G Q
    refine go_i2l (show decode cX10_downSum 37 = .ok (.i2l, 1) by decide +kernel) ?_
    obtain ⟨q14, h⟩ := h
    refine go_lmul (show decode cX10_downSum 38 = .ok (.lmul, 1) by decide +kernel) q14 ?_
    obtain ⟨q15, h⟩ := h
    refine go_ladd (show decode cX10_downSum 39 = .ok (.ladd, 1) by decide +kernel) q15 ?_
    obtain ⟨x16, x16e⟩ : ∃ x16 : Int, x16 = a5 + (z6 * z12) := ⟨_, rfl⟩
    have h := h x16 x16e
    rw [← x16e]
    refine go_lstore (show decode cX10_downSum 40 = .ok (.lstore 5, 2) by decide +kernel) (by decide) ?_
    show Go d MX10_downSum 42 [some (vR 53), some (vI a1), some (vI a2), some (vI a3), some (vI a4), some (vJ x16), none, some (vI a7)] [] S F G Q
    obtain ⟨q17, h⟩ := h
    refine go_iinc (show decode cX10_downSum 42 = .ok (.iinc 7 1, 3) by decide +kernel) (by rfl) q17 (by decide) ?_
    show Go d MX10_downSum 45 [some (vR 53), some (vI a1), some (vI a2), some (vI a3), some (vI a4), some (vJ x16), none, some (vI (a7 + 1))] [] S F G Q
    refine go_goto (tgt := 6) (show decode cX10_downSum 45 = .ok (.goto (-39), 3) by decide +kernel) (by decide) ?_
    exact h
def V_X10_downSum_0 (d : Nat) (S : AS) (F : AF) (G : AG) (Q : AQ) (a1 : Int) (a2 : Int) (a3 : Int) (a4 : Int) : Prop :=
  Go d MX10_downSum 6 [some (vR 53), some (vI a1), some (vI a2), some (vI a3), some (vI a4), some (vJ 0), none, some (vI 0)] [] S F G Q
theorem R_X10_downSum_0 {d : Nat} {S : AS} {F : AF} {G : AG} {Q : AQ} {a1 : Int} {a2 : Int} {a3 : Int} {a4 : Int} (hsm : ShM S) (h : V_X10_downSum_0 d S F G Q a1 a2 a3 a4) : Go d MX10_downSum 0 [some (vR 53), some (vI a1), some (vI a2), some (vI a3), some (vI a4), none, none, none] [] S F G Q := by
  unfold V_X10_downSum_0 at h
  refine go_lconst (n := 0) (show decode cX10_downSum 0 = .ok (.lconst 0, 1) by decide +kernel) ?_
  show Go d MX10_downSum 1 [some (vR 53), some (vI a1), some (vI a2), some (vI a3), some (vI a4), none, none, none] [vJ 0] S F G Q
  refine go_lstore (show decode cX10_downSum 1 = .ok (.lstore 5, 2) by decide +kernel) (by decide) ?_
  show Go d MX10_downSum 3 [some (vR 53), some (vI a1), some (vI a2), some (vI a3), some (vI a4), some (vJ 0), none, none] [] S F G Q
  refine go_iconst (show decode cX10_downSum 3 = .ok (.iconst 0, 1) by decide +kernel) (by decide) ?_
  refine go_istore (show decode cX10_downSum 4 = .ok (.istore 7, 2) by decide +kernel) (by decide) ?_
  show Go d MX10_downSum 6 [some (vR 53), some (vI a1), some (vI a2), some (vI a3), some (vI a4), some (vJ 0), none, some (vI 0)] [] S F G Q
  exact h
def V_X10_acrossOf_0 (d : Nat) (S : AS) (F : AF) (G : AG) (Q : AQ) (a1 : Int) : Prop :=
  (r32 (a1 + 1)) ∧
  (1 ≤ d) ∧
  ∃ z7 : Int, Pu (d - 1) MX10_edgeAt [vR 53, vI 0, vI (a1 + 1)] S F G (some (vI z7)) ∧
  ∃ z13 : Int, Pu (d - 1) MX10_edgeAt [vR 53, vI 0, vI a1] S F G (some (vI z13)) ∧
  (r32 (z7 - z13)) ∧
  Q (some (vI (z7 - z13))) S F G
theorem R_X10_acrossOf_0 {d : Nat} {S : AS} {F : AF} {G : AG} {Q : AQ} {a1 : Int} (hsm : ShM S) (h : V_X10_acrossOf_0 d S F G Q a1) : Go d MX10_acrossOf 0 [some (vR 53), some (vI a1)] [] S F G Q := by
  unfold V_X10_acrossOf_0 at h
  refine go_aload_n (show decode cX10_acrossOf 0 = .ok (.aload_n 0, 1) by decide +kernel) (by rfl) ?_
  refine go_iconst (show decode cX10_acrossOf 1 = .ok (.iconst 0, 1) by decide +kernel) (by decide) ?_
  refine go_iload_n (show decode cX10_acrossOf 2 = .ok (.iload_n 1, 1) by decide +kernel) (by rfl) ?_
  refine go_iconst (show decode cX10_acrossOf 3 = .ok (.iconst 1, 1) by decide +kernel) (by decide) ?_
  obtain ⟨q1, h⟩ := h
  refine go_iadd (show decode cX10_acrossOf 4 = .ok (.iadd, 1) by decide +kernel) q1 ?_
  obtain ⟨q2, h⟩ := h
  obtain ⟨z7, p8, h⟩ := h
  refine go_callV (d2 := d - 1) (M2 := MX10_edgeAt) (n := 2) (ci := 10) (av := [vI 0, vI (a1 + 1)]) (st := []) (show decode cX10_acrossOf 5 = .ok (.invokevirtual 126, 3) by decide +kernel) ml_X10_126 mt_X10_edgeAt min_X10_edgeAt mse_X10_edgeAt (by decide) (shm_k hsm 53 (by decide) (by decide)) rfl (Nat.le_of_ble_eq_true rfl) (by omega) (ok_mono p8 (fun w3 S4 F5 G6 e9 => ?_))
  obtain ⟨e1, e2, e3, e4⟩ := e9
  subst e1
  replace e2 := e2.symm; subst e2
  replace e3 := e3.symm; subst e3
  replace e4 := e4.symm; subst e4
  show Go d MX10_acrossOf 8 [some (vR 53), some (vI a1)] [vI z7] S F G Q
  refine go_aload_n (show decode cX10_acrossOf 8 = .ok (.aload_n 0, 1) by decide +kernel) (by rfl) ?_
  refine go_iconst (show decode cX10_acrossOf 9 = .ok (.iconst 0, 1) by decide +kernel) (by decide) ?_
  refine go_iload_n (show decode cX10_acrossOf 10 = .ok (.iload_n 1, 1) by decide +kernel) (by rfl) ?_
  obtain ⟨z13, p14, h⟩ := h
  refine go_callV (d2 := d - 1) (M2 := MX10_edgeAt) (n := 2) (ci := 10) (av := [vI 0, vI a1]) (st := [vI z7]) (show decode cX10_acrossOf 11 = .ok (.invokevirtual 126, 3) by decide +kernel) ml_X10_126 mt_X10_edgeAt min_X10_edgeAt mse_X10_edgeAt (by decide) (shm_k hsm 53 (by decide) (by decide)) rfl (Nat.le_of_ble_eq_true rfl) (by omega) (ok_mono p14 (fun w9 S10 F11 G12 e9 => ?_))
  obtain ⟨e1, e2, e3, e4⟩ := e9
  subst e1
  replace e2 := e2.symm; subst e2
  replace e3 := e3.symm; subst e3
  replace e4 := e4.symm; subst e4
  show Go d MX10_acrossOf 14 [some (vR 53), some (vI a1)] [vI z13, vI z7] S F G Q
  obtain ⟨q15, h⟩ := h
  refine go_isub (show decode cX10_acrossOf 14 = .ok (.isub, 1) by decide +kernel) q15 ?_
  exact go_iret (show decode cX10_acrossOf 15 = .ok (.ireturn, 1) by decide +kernel) rfl h
def V_X10_downOf_0 (d : Nat) (S : AS) (F : AF) (G : AG) (Q : AQ) (a1 : Int) : Prop :=
  (r32 (a1 + 1)) ∧
  (1 ≤ d) ∧
  ∃ z7 : Int, Pu (d - 1) MX10_edgeAt [vR 53, vI 1, vI (a1 + 1)] S F G (some (vI z7)) ∧
  ∃ z13 : Int, Pu (d - 1) MX10_edgeAt [vR 53, vI 1, vI a1] S F G (some (vI z13)) ∧
  (r32 (z7 - z13)) ∧
  Q (some (vI (z7 - z13))) S F G
theorem R_X10_downOf_0 {d : Nat} {S : AS} {F : AF} {G : AG} {Q : AQ} {a1 : Int} (hsm : ShM S) (h : V_X10_downOf_0 d S F G Q a1) : Go d MX10_downOf 0 [some (vR 53), some (vI a1)] [] S F G Q := by
  unfold V_X10_downOf_0 at h
  refine go_aload_n (show decode cX10_downOf 0 = .ok (.aload_n 0, 1) by decide +kernel) (by rfl) ?_
  refine go_iconst (show decode cX10_downOf 1 = .ok (.iconst 1, 1) by decide +kernel) (by decide) ?_
  refine go_iload_n (show decode cX10_downOf 2 = .ok (.iload_n 1, 1) by decide +kernel) (by rfl) ?_
  refine go_iconst (show decode cX10_downOf 3 = .ok (.iconst 1, 1) by decide +kernel) (by decide) ?_
  obtain ⟨q1, h⟩ := h
  refine go_iadd (show decode cX10_downOf 4 = .ok (.iadd, 1) by decide +kernel) q1 ?_
  obtain ⟨q2, h⟩ := h
  obtain ⟨z7, p8, h⟩ := h
  refine go_callV (d2 := d - 1) (M2 := MX10_edgeAt) (n := 2) (ci := 10) (av := [vI 1, vI (a1 + 1)]) (st := []) (show decode cX10_downOf 5 = .ok (.invokevirtual 126, 3) by decide +kernel) ml_X10_126 mt_X10_edgeAt min_X10_edgeAt mse_X10_edgeAt (by decide) (shm_k hsm 53 (by decide) (by decide)) rfl (Nat.le_of_ble_eq_true rfl) (by omega) (ok_mono p8 (fun w3 S4 F5 G6 e9 => ?_))
  obtain ⟨e1, e2, e3, e4⟩ := e9
  subst e1
  replace e2 := e2.symm; subst e2
  replace e3 := e3.symm; subst e3
  replace e4 := e4.symm; subst e4
  show Go d MX10_downOf 8 [some (vR 53), some (vI a1)] [vI z7] S F G Q
  refine go_aload_n (show decode cX10_downOf 8 = .ok (.aload_n 0, 1) by decide +kernel) (by rfl) ?_
  refine go_iconst (show decode cX10_downOf 9 = .ok (.iconst 1, 1) by decide +kernel) (by decide) ?_
  refine go_iload_n (show decode cX10_downOf 10 = .ok (.iload_n 1, 1) by decide +kernel) (by rfl) ?_
  obtain ⟨z13, p14, h⟩ := h
  refine go_callV (d2 := d - 1) (M2 := MX10_edgeAt) (n := 2) (ci := 10) (av := [vI 1, vI a1]) (st := [vI z7]) (show decode cX10_downOf 11 = .ok (.invokevirtual 126, 3) by decide +kernel) ml_X10_126 mt_X10_edgeAt min_X10_edgeAt mse_X10_edgeAt (by decide) (shm_k hsm 53 (by decide) (by decide)) rfl (Nat.le_of_ble_eq_true rfl) (by omega) (ok_mono p14 (fun w9 S10 F11 G12 e9 => ?_))
  obtain ⟨e1, e2, e3, e4⟩ := e9
  subst e1
  replace e2 := e2.symm; subst e2
  replace e3 := e3.symm; subst e3
  replace e4 := e4.symm; subst e4
  show Go d MX10_downOf 14 [some (vR 53), some (vI a1)] [vI z13, vI z7] S F G Q
  obtain ⟨q15, h⟩ := h
  refine go_isub (show decode cX10_downOf 14 = .ok (.isub, 1) by decide +kernel) q15 ?_
  exact go_iret (show decode cX10_downOf 15 = .ok (.ireturn, 1) by decide +kernel) rfl h
def V_X10_findIn_0 (d : Nat) (S : AS) (F : AF) (G : AG) (Q : AQ) (a1 : Int) (a2 : Int) (a3 : Int) (a4 : Int) (a5 : Int) (a6 : Int) : Prop :=
  ∀ F1 : AF, F1 = fu F 53 0 0 →
  (1 ≤ d) ∧
  ∃ z7 : Int, Pu (d - 1) MX10_isGood [vI a1] S F1 G (some (vI z7)) ∧
  ((z7 = 0) →
    Q (some (vJ (-2))) S F1 G) ∧
  ((¬ z7 = 0) →
    ∃ z13 : Int, Pu (d - 1) MX10_isRectangle [vR 53, vI a2, vI a3, vI a4, vI a5] S F1 G (some (vI z13)) ∧
    ((¬ z13 = 0) →
      ((1 ≤ a6) →
        ((0 : Int) ≤ a1) ∧
        ((a1 : Int) < 3) ∧
        ((G 59 a1 < a6) →
          Q (some (vJ (-1))) S F1 G) ∧
        ((¬ G 59 a1 < a6) →
          Ok (d - 1) MX10_finds [vR 53, vI a1, vI a2, vI a3, vI a4, vI a5, vJ a6] S F1 G (fun w17 S18 F19 G20 =>
          S18 = S ∧
          ∃ z21 : Int, w17 = some (vI z21) ∧
          ((z21 = 0) →
            Q (some (vJ (-1))) S F19 G20) ∧
          ((¬ z21 = 0) →
            ∃ z26 : Int, Pu (d - 1) MX10_number [vR 53, vI (F19 53 21), vI (F19 53 22)] S F19 G20 (some (vJ z26)) ∧
            Q (some (vJ z26)) S F19 G20)))) ∧
      ((¬ 1 ≤ a6) →
        Q (some (vJ (-3))) S F1 G)) ∧
    ((z13 = 0) →
      Q (some (vJ (-2))) S F1 G))
theorem R_X10_findIn_0 {d : Nat} {S : AS} {F : AF} {G : AG} {Q : AQ} {a1 : Int} {a2 : Int} {a3 : Int} {a4 : Int} {a5 : Int} {a6 : Int} (hsm : ShM S) (h : V_X10_findIn_0 d S F G Q a1 a2 a3 a4 a5 a6) : Go d MX10_findIn 0 [some (vR 53), some (vI a1), some (vI a2), some (vI a3), some (vI a4), some (vI a5), some (vJ a6), none] [] S F G Q := by
  unfold V_X10_findIn_0 at h
  refine go_aload_n (show decode cX10_findIn 0 = .ok (.aload_n 0, 1) by decide +kernel) (by rfl) ?_
  refine go_iconst (show decode cX10_findIn 1 = .ok (.iconst 0, 1) by decide +kernel) (by decide) ?_
  refine go_putI (show decode cX10_findIn 2 = .ok (.putfield 1, 3) by decide +kernel) fl_X10_1 rfl (Or.inl rfl) (shm_k hsm 53 (by decide) (by decide)) ?_
  obtain ⟨F1, F1e⟩ : ∃ F1 : AF, F1 = fu F 53 0 0 := ⟨_, rfl⟩
  have h := h F1 F1e
  rw [← F1e]
  refine go_iload_n (show decode cX10_findIn 5 = .ok (.iload_n 1, 1) by decide +kernel) (by rfl) ?_
  obtain ⟨q2, h⟩ := h
  obtain ⟨z7, p8, h⟩ := h
  refine go_callS (d2 := d - 1) (M2 := MX10_isGood) (n := 1) (av := [vI a1]) (st := []) (show decode cX10_findIn 6 = .ok (.invokestatic 167, 3) by decide +kernel) ml_X10_167 mt_X10_isGood mst_X10_isGood rfl (Nat.le_of_ble_eq_true rfl) (by omega) (ok_mono p8 (fun w3 S4 F5 G6 e9 => ?_))
  obtain ⟨e1, e2, e3, e4⟩ := e9
  subst e1
  replace e2 := e2.symm; subst e2
  replace e3 := e3.symm; subst e3
  replace e4 := e4.symm; subst e4
  show Go d MX10_findIn 9 [some (vR 53), some (vI a1), some (vI a2), some (vI a3), some (vI a4), some (vI a5), some (vJ a6), none] [vI z7] S F1 G Q
  obtain ⟨ht, hf⟩ := h
  refine go_ifeq (tgt := 25) (show decode cX10_findIn 9 = .ok (.ifCond .eq 16, 3) by decide +kernel) (by decide) (fun hc => ?_) (fun hc => ?_)
  · have h := ht hc
    refine go_ldc2 (show decode cX10_findIn 25 = .ok (.ldc2_w 174, 3) by decide +kernel) lc_X10_174 (by decide) ?_
    exact go_lret (show decode cX10_findIn 28 = .ok (.lreturn, 1) by decide +kernel) rfl h
  · have h := hf hc
    refine go_aload_n (show decode cX10_findIn 12 = .ok (.aload_n 0, 1) by decide +kernel) (by rfl) ?_
    refine go_iload_n (show decode cX10_findIn 13 = .ok (.iload_n 2, 1) by decide +kernel) (by rfl) ?_
    refine go_iload_n (show decode cX10_findIn 14 = .ok (.iload_n 3, 1) by decide +kernel) (by rfl) ?_
    refine go_iload (show decode cX10_findIn 15 = .ok (.iload 4, 2) by decide +kernel) (by rfl) ?_
    refine go_iload (show decode cX10_findIn 17 = .ok (.iload 5, 2) by decide +kernel) (by rfl) ?_
    obtain ⟨z13, p14, h⟩ := h
    refine go_callV (d2 := d - 1) (M2 := MX10_isRectangle) (n := 4) (ci := 10) (av := [vI a2, vI a3, vI a4, vI a5]) (st := []) (show decode cX10_findIn 19 = .ok (.invokevirtual 170, 3) by decide +kernel) ml_X10_170 mt_X10_isRectangle min_X10_isRectangle mse_X10_isRectangle (by decide) (shm_k hsm 53 (by decide) (by decide)) rfl (Nat.le_of_ble_eq_true rfl) (by omega) (ok_mono p14 (fun w9 S10 F11 G12 e9 => ?_))
    obtain ⟨e1, e2, e3, e4⟩ := e9
    subst e1
    replace e2 := e2.symm; subst e2
    replace e3 := e3.symm; subst e3
    replace e4 := e4.symm; subst e4
    show Go d MX10_findIn 22 [some (vR 53), some (vI a1), some (vI a2), some (vI a3), some (vI a4), some (vI a5), some (vJ a6), none] [vI z13] S F1 G Q
    obtain ⟨ht, hf⟩ := h
    refine go_ifne (tgt := 29) (show decode cX10_findIn 22 = .ok (.ifCond .ne 7, 3) by decide +kernel) (by decide) (fun hc => ?_) (fun hc => ?_)
    · have h := ht hc
      refine go_lload (show decode cX10_findIn 29 = .ok (.lload 6, 2) by decide +kernel) (by rfl) ?_
      refine go_lconst (n := 1) (show decode cX10_findIn 31 = .ok (.lconst 1, 1) by decide +kernel) ?_
      show Go d MX10_findIn 32 [some (vR 53), some (vI a1), some (vI a2), some (vI a3), some (vI a4), some (vI a5), some (vJ a6), none] [vJ 1, vJ a6] S F1 G Q
      obtain ⟨ht, hf⟩ := h
      refine go_jge (tgt := 40) (show decode cX10_findIn 32 = .ok (.lcmp, 1) by decide +kernel) (show decode cX10_findIn 33 = .ok (.ifCond .ge 7, 3) by decide +kernel) (by decide) (fun hc => ?_) (fun hc => ?_)
      · have h := ht hc
        refine go_lload (show decode cX10_findIn 40 = .ok (.lload 6, 2) by decide +kernel) (by rfl) ?_
        refine go_aload_n (show decode cX10_findIn 42 = .ok (.aload_n 0, 1) by decide +kernel) (by rfl) ?_
        refine go_getRc (show decode cX10_findIn 43 = .ok (.getfield 43, 3) by decide +kernel) fl_X10_43 rfl (shm_k hsm 53 (by decide) (by decide)) (v := 59) (shm_r hsm 53 9 (by decide) (by decide)) ?_
        refine go_iload_n (show decode cX10_findIn 46 = .ok (.iload_n 1, 1) by decide +kernel) (by rfl) ?_
        obtain ⟨q15, h⟩ := h
        obtain ⟨q16, h⟩ := h
        refine go_laload (show decode cX10_findIn 47 = .ok (.laload, 1) by decide +kernel) (shm_k hsm 59 (by decide) (by decide)) q15 (lt_n (m := 3) q16 (shm_n hsm 59 (by decide) (by decide))) ?_
        obtain ⟨ht, hf⟩ := h
        refine go_jgt (tgt := 83) (show decode cX10_findIn 48 = .ok (.lcmp, 1) by decide +kernel) (show decode cX10_findIn 49 = .ok (.ifCond .gt 34, 3) by decide +kernel) (by decide) (fun hc => ?_) (fun hc => ?_)
        · have h := ht hc
          refine go_ldc2 (show decode cX10_findIn 83 = .ok (.ldc2_w 311, 3) by decide +kernel) lc_X10_311 (by decide) ?_
          exact go_lret (show decode cX10_findIn 86 = .ok (.lreturn, 1) by decide +kernel) rfl h
        · have h := hf hc
          refine go_aload_n (show decode cX10_findIn 52 = .ok (.aload_n 0, 1) by decide +kernel) (by rfl) ?_
          refine go_iload_n (show decode cX10_findIn 53 = .ok (.iload_n 1, 1) by decide +kernel) (by rfl) ?_
          refine go_iload_n (show decode cX10_findIn 54 = .ok (.iload_n 2, 1) by decide +kernel) (by rfl) ?_
          refine go_iload_n (show decode cX10_findIn 55 = .ok (.iload_n 3, 1) by decide +kernel) (by rfl) ?_
          refine go_iload (show decode cX10_findIn 56 = .ok (.iload 4, 2) by decide +kernel) (by rfl) ?_
          refine go_iload (show decode cX10_findIn 58 = .ok (.iload 5, 2) by decide +kernel) (by rfl) ?_
          refine go_lload (show decode cX10_findIn 60 = .ok (.lload 6, 2) by decide +kernel) (by rfl) ?_
          refine go_callV (d2 := d - 1) (M2 := MX10_finds) (n := 6) (ci := 10) (av := [vI a1, vI a2, vI a3, vI a4, vI a5, vJ a6]) (st := []) (show decode cX10_findIn 62 = .ok (.invokevirtual 255, 3) by decide +kernel) ml_X10_255 mt_X10_finds min_X10_finds mse_X10_finds (by decide) (shm_k hsm 53 (by decide) (by decide)) rfl (Nat.le_of_ble_eq_true rfl) (by omega) (ok_mono h (fun w17 S18 F19 G20 h => ?_))
          obtain ⟨e8, h⟩ := h
          replace e8 := e8.symm; subst e8
          obtain ⟨z21, e9, h⟩ := h
          subst e9
          show Go d MX10_findIn 65 [some (vR 53), some (vI a1), some (vI a2), some (vI a3), some (vI a4), some (vI a5), some (vJ a6), none] [vI z21] S F19 G20 Q
          obtain ⟨ht, hf⟩ := h
          refine go_ifeq (tgt := 83) (show decode cX10_findIn 65 = .ok (.ifCond .eq 18, 3) by decide +kernel) (by decide) (fun hc => ?_) (fun hc => ?_)
          · have h := ht hc
            refine go_ldc2 (show decode cX10_findIn 83 = .ok (.ldc2_w 311, 3) by decide +kernel) lc_X10_311 (by decide) ?_
            exact go_lret (show decode cX10_findIn 86 = .ok (.lreturn, 1) by decide +kernel) rfl h
          · have h := hf hc
            refine go_aload_n (show decode cX10_findIn 68 = .ok (.aload_n 0, 1) by decide +kernel) (by rfl) ?_
            refine go_aload_n (show decode cX10_findIn 69 = .ok (.aload_n 0, 1) by decide +kernel) (by rfl) ?_
            refine go_getI (show decode cX10_findIn 70 = .ok (.getfield 224, 3) by decide +kernel) fl_X10_224 (Or.inl rfl) (shm_k hsm 53 (by decide) (by decide)) ?_
            refine go_aload_n (show decode cX10_findIn 73 = .ok (.aload_n 0, 1) by decide +kernel) (by rfl) ?_
            refine go_getI (show decode cX10_findIn 74 = .ok (.getfield 221, 3) by decide +kernel) fl_X10_221 (Or.inl rfl) (shm_k hsm 53 (by decide) (by decide)) ?_
            obtain ⟨z26, p27, h⟩ := h
            refine go_callV (d2 := d - 1) (M2 := MX10_number) (n := 2) (ci := 10) (av := [vI (F19 53 21), vI (F19 53 22)]) (st := []) (show decode cX10_findIn 77 = .ok (.invokevirtual 268, 3) by decide +kernel) ml_X10_268 mt_X10_number min_X10_number mse_X10_number (by decide) (shm_k hsm 53 (by decide) (by decide)) rfl (Nat.le_of_ble_eq_true rfl) (by omega) (ok_mono p27 (fun w22 S23 F24 G25 e9 => ?_))
            obtain ⟨e1, e2, e3, e4⟩ := e9
            subst e1
            replace e2 := e2.symm; subst e2
            replace e3 := e3.symm; subst e3
            replace e4 := e4.symm; subst e4
            show Go d MX10_findIn 80 [some (vR 53), some (vI a1), some (vI a2), some (vI a3), some (vI a4), some (vI a5), some (vJ a6), none] [vJ z26] S F19 G20 Q
            refine go_goto (tgt := 86) (show decode cX10_findIn 80 = .ok (.goto 6, 3) by decide +kernel) (by decide) ?_
            exact go_lret (show decode cX10_findIn 86 = .ok (.lreturn, 1) by decide +kernel) rfl h
      · have h := hf hc
        refine go_ldc2 (show decode cX10_findIn 36 = .ok (.ldc2_w 120, 3) by decide +kernel) lc_X10_120 (by decide) ?_
        exact go_lret (show decode cX10_findIn 39 = .ok (.lreturn, 1) by decide +kernel) rfl h
    · have h := hf hc
      refine go_ldc2 (show decode cX10_findIn 25 = .ok (.ldc2_w 174, 3) by decide +kernel) lc_X10_174 (by decide) ?_
      exact go_lret (show decode cX10_findIn 28 = .ok (.lreturn, 1) by decide +kernel) rfl h
def V_X10_touched_108 (d : Nat) (S : AS) (F : AF) (G : AG) (Q : AQ) (a1 : Int) (a2 : Int) (a3 : Int) (a4 : Int) (a5 : Int) (a6 : Int) (a8 : Int) (a9 : Int) (s0 : Int) : Prop :=
  (1 ≤ d) ∧
  ∃ z6 : Int, Pu (d - 1) MX10_cellsFrom [vR 53, vI a1, vI a2, vI a9, vI a8, vI a9, vJ 1] S F G (some (vJ z6)) ∧
  (r64 (s0 + z6)) ∧
  Q (some (vJ (s0 + z6))) S F G
theorem R_X10_touched_108 {d : Nat} {S : AS} {F : AF} {G : AG} {Q : AQ} {a1 : Int} {a2 : Int} {a3 : Int} {a4 : Int} {a5 : Int} {a6 : Int} {a8 : Int} {a9 : Int} {s0 : Int} (hsm : ShM S) (h : V_X10_touched_108 d S F G Q a1 a2 a3 a4 a5 a6 a8 a9 s0) : Go d MX10_touched 108 [some (vR 53), some (vI a1), some (vI a2), some (vI a3), some (vI a4), some (vI a5), some (vJ a6), none, some (vI a8), some (vI a9)] [vJ s0] S F G Q := by
  unfold V_X10_touched_108 at h
  refine go_aload_n (show decode cX10_touched 108 = .ok (.aload_n 0, 1) by decide +kernel) (by rfl) ?_
  refine go_iload_n (show decode cX10_touched 109 = .ok (.iload_n 1, 1) by decide +kernel) (by rfl) ?_
  refine go_iload_n (show decode cX10_touched 110 = .ok (.iload_n 2, 1) by decide +kernel) (by rfl) ?_
  refine go_iload (show decode cX10_touched 111 = .ok (.iload 9, 2) by decide +kernel) (by rfl) ?_
  refine go_iload (show decode cX10_touched 113 = .ok (.iload 8, 2) by decide +kernel) (by rfl) ?_
  refine go_iload (show decode cX10_touched 115 = .ok (.iload 9, 2) by decide +kernel) (by rfl) ?_
  refine go_lconst (n := 1) (show decode cX10_touched 117 = .ok (.lconst 1, 1) by decide +kernel) ?_
  show Go d MX10_touched 118 [some (vR 53), some (vI a1), some (vI a2), some (vI a3), some (vI a4), some (vI a5), some (vJ a6), none, some (vI a8), some (vI a9)] [vJ 1, vI a9, vI a8, vI a9, vI a2, vI a1, vR 53, vJ s0] S F G Q
  obtain ⟨q1, h⟩ := h
  obtain ⟨z6, p7, h⟩ := h
  refine go_callV (d2 := d - 1) (M2 := MX10_cellsFrom) (n := 6) (ci := 10) (av := [vI a1, vI a2, vI a9, vI a8, vI a9, vJ 1]) (st := [vJ s0]) (show decode cX10_touched 118 = .ok (.invokevirtual 412, 3) by decide +kernel) ml_X10_412 mt_X10_cellsFrom min_X10_cellsFrom mse_X10_cellsFrom (by decide) (shm_k hsm 53 (by decide) (by decide)) rfl (Nat.le_of_ble_eq_true rfl) (by omega) (ok_mono p7 (fun w2 S3 F4 G5 e9 => ?_))
  obtain ⟨e1, e2, e3, e4⟩ := e9
  subst e1
  replace e2 := e2.symm; subst e2
  replace e3 := e3.symm; subst e3
  replace e4 := e4.symm; subst e4
  show Go d MX10_touched 121 [some (vR 53), some (vI a1), some (vI a2), some (vI a3), some (vI a4), some (vI a5), some (vJ a6), none, some (vI a8), some (vI a9)] [vJ z6, vJ s0] S F G Q
  obtain ⟨q8, h⟩ := h
  refine go_ladd (show decode cX10_touched 121 = .ok (.ladd, 1) by decide +kernel) q8 ?_
  exact go_lret (show decode cX10_touched 122 = .ok (.lreturn, 1) by decide +kernel) rfl h
def V_X10_touched_0 (d : Nat) (S : AS) (F : AF) (G : AG) (Q : AQ) (a1 : Int) (a2 : Int) (a3 : Int) (a4 : Int) (a5 : Int) (a6 : Int) : Prop :=
  ∀ F1 : AF, F1 = fu F 53 0 0 →
  (1 ≤ d) ∧
  ∃ z7 : Int, Pu (d - 1) MX10_isGood [vI a1] S F1 G (some (vI z7)) ∧
  ((z7 = 0) →
    Q (some (vJ (-2))) S F1 G) ∧
  ((¬ z7 = 0) →
    ∃ z13 : Int, Pu (d - 1) MX10_isRectangle [vR 53, vI a2, vI a3, vI a4, vI a5] S F1 G (some (vI z13)) ∧
    ((¬ z13 = 0) →
      ((1 ≤ a6) →
        ((0 : Int) ≤ a1) ∧
        ((a1 : Int) < 3) ∧
        ((G 59 a1 < a6) →
          Q (some (vJ (-1))) S F1 G) ∧
        ((¬ G 59 a1 < a6) →
          Ok (d - 1) MX10_finds [vR 53, vI a1, vI a2, vI a3, vI a4, vI a5, vJ a6] S F1 G (fun w17 S18 F19 G20 =>
          S18 = S ∧
          ∃ z21 : Int, w17 = some (vI z21) ∧
          ((¬ z21 = 0) →
            ∀ x22 : Int, x22 = F19 53 21 →
            ∀ x23 : Int, x23 = F19 53 22 →
            ((x23 ≤ a3) →
              V_X10_touched_108 d S F19 G20 Q a1 a2 a3 a4 a5 a6 x22 x23 0) ∧
            ((¬ x23 ≤ a3) →
              (r32 (x23 - 1)) ∧
              ∃ z29 : Int, Pu (d - 1) MX10_cellsFrom [vR 53, vI a1, vI a2, vI a3, vI a4, vI (x23 - 1), vJ 1] S F19 G20 (some (vJ z29)) ∧
              V_X10_touched_108 d S F19 G20 Q a1 a2 a3 a4 a5 a6 x22 x23 z29)) ∧
          ((z21 = 0) →
            Q (some (vJ (-1))) S F19 G20)))) ∧
      ((¬ 1 ≤ a6) →
        Q (some (vJ (-3))) S F1 G)) ∧
    ((z13 = 0) →
      Q (some (vJ (-2))) S F1 G))
theorem R_X10_touched_0 {d : Nat} {S : AS} {F : AF} {G : AG} {Q : AQ} {a1 : Int} {a2 : Int} {a3 : Int} {a4 : Int} {a5 : Int} {a6 : Int} (hsm : ShM S) (h : V_X10_touched_0 d S F G Q a1 a2 a3 a4 a5 a6) : Go d MX10_touched 0 [some (vR 53), some (vI a1), some (vI a2), some (vI a3), some (vI a4), some (vI a5), some (vJ a6), none, none, none] [] S F G Q := by
  unfold V_X10_touched_0 at h
  refine go_aload_n (show decode cX10_touched 0 = .ok (.aload_n 0, 1) by decide +kernel) (by rfl) ?_
  refine go_iconst (show decode cX10_touched 1 = .ok (.iconst 0, 1) by decide +kernel) (by decide) ?_
  refine go_putI (show decode cX10_touched 2 = .ok (.putfield 1, 3) by decide +kernel) fl_X10_1 rfl (Or.inl rfl) (shm_k hsm 53 (by decide) (by decide)) ?_
  obtain ⟨F1, F1e⟩ : ∃ F1 : AF, F1 = fu F 53 0 0 := ⟨_, rfl⟩
  have h := h F1 F1e
  rw [← F1e]
  refine go_iload_n (show decode cX10_touched 5 = .ok (.iload_n 1, 1) by decide +kernel) (by rfl) ?_
  obtain ⟨q2, h⟩ := h
  obtain ⟨z7, p8, h⟩ := h
  refine go_callS (d2 := d - 1) (M2 := MX10_isGood) (n := 1) (av := [vI a1]) (st := []) (show decode cX10_touched 6 = .ok (.invokestatic 167, 3) by decide +kernel) ml_X10_167 mt_X10_isGood mst_X10_isGood rfl (Nat.le_of_ble_eq_true rfl) (by omega) (ok_mono p8 (fun w3 S4 F5 G6 e9 => ?_))
  obtain ⟨e1, e2, e3, e4⟩ := e9
  subst e1
  replace e2 := e2.symm; subst e2
  replace e3 := e3.symm; subst e3
  replace e4 := e4.symm; subst e4
  show Go d MX10_touched 9 [some (vR 53), some (vI a1), some (vI a2), some (vI a3), some (vI a4), some (vI a5), some (vJ a6), none, none, none] [vI z7] S F1 G Q
  obtain ⟨ht, hf⟩ := h
  refine go_ifeq (tgt := 25) (show decode cX10_touched 9 = .ok (.ifCond .eq 16, 3) by decide +kernel) (by decide) (fun hc => ?_) (fun hc => ?_)
  · have h := ht hc
    refine go_ldc2 (show decode cX10_touched 25 = .ok (.ldc2_w 174, 3) by decide +kernel) lc_X10_174 (by decide) ?_
    exact go_lret (show decode cX10_touched 28 = .ok (.lreturn, 1) by decide +kernel) rfl h
  · have h := hf hc
    refine go_aload_n (show decode cX10_touched 12 = .ok (.aload_n 0, 1) by decide +kernel) (by rfl) ?_
    refine go_iload_n (show decode cX10_touched 13 = .ok (.iload_n 2, 1) by decide +kernel) (by rfl) ?_
    refine go_iload_n (show decode cX10_touched 14 = .ok (.iload_n 3, 1) by decide +kernel) (by rfl) ?_
    refine go_iload (show decode cX10_touched 15 = .ok (.iload 4, 2) by decide +kernel) (by rfl) ?_
    refine go_iload (show decode cX10_touched 17 = .ok (.iload 5, 2) by decide +kernel) (by rfl) ?_
    obtain ⟨z13, p14, h⟩ := h
    refine go_callV (d2 := d - 1) (M2 := MX10_isRectangle) (n := 4) (ci := 10) (av := [vI a2, vI a3, vI a4, vI a5]) (st := []) (show decode cX10_touched 19 = .ok (.invokevirtual 170, 3) by decide +kernel) ml_X10_170 mt_X10_isRectangle min_X10_isRectangle mse_X10_isRectangle (by decide) (shm_k hsm 53 (by decide) (by decide)) rfl (Nat.le_of_ble_eq_true rfl) (by omega) (ok_mono p14 (fun w9 S10 F11 G12 e9 => ?_))
    obtain ⟨e1, e2, e3, e4⟩ := e9
    subst e1
    replace e2 := e2.symm; subst e2
    replace e3 := e3.symm; subst e3
    replace e4 := e4.symm; subst e4
    show Go d MX10_touched 22 [some (vR 53), some (vI a1), some (vI a2), some (vI a3), some (vI a4), some (vI a5), some (vJ a6), none, none, none] [vI z13] S F1 G Q
    obtain ⟨ht, hf⟩ := h
    refine go_ifne (tgt := 29) (show decode cX10_touched 22 = .ok (.ifCond .ne 7, 3) by decide +kernel) (by decide) (fun hc => ?_) (fun hc => ?_)
    · have h := ht hc
      refine go_lload (show decode cX10_touched 29 = .ok (.lload 6, 2) by decide +kernel) (by rfl) ?_
      refine go_lconst (n := 1) (show decode cX10_touched 31 = .ok (.lconst 1, 1) by decide +kernel) ?_
      show Go d MX10_touched 32 [some (vR 53), some (vI a1), some (vI a2), some (vI a3), some (vI a4), some (vI a5), some (vJ a6), none, none, none] [vJ 1, vJ a6] S F1 G Q
      obtain ⟨ht, hf⟩ := h
      refine go_jge (tgt := 40) (show decode cX10_touched 32 = .ok (.lcmp, 1) by decide +kernel) (show decode cX10_touched 33 = .ok (.ifCond .ge 7, 3) by decide +kernel) (by decide) (fun hc => ?_) (fun hc => ?_)
      · have h := ht hc
        refine go_lload (show decode cX10_touched 40 = .ok (.lload 6, 2) by decide +kernel) (by rfl) ?_
        refine go_aload_n (show decode cX10_touched 42 = .ok (.aload_n 0, 1) by decide +kernel) (by rfl) ?_
        refine go_getRc (show decode cX10_touched 43 = .ok (.getfield 43, 3) by decide +kernel) fl_X10_43 rfl (shm_k hsm 53 (by decide) (by decide)) (v := 59) (shm_r hsm 53 9 (by decide) (by decide)) ?_
        refine go_iload_n (show decode cX10_touched 46 = .ok (.iload_n 1, 1) by decide +kernel) (by rfl) ?_
        obtain ⟨q15, h⟩ := h
        obtain ⟨q16, h⟩ := h
        refine go_laload (show decode cX10_touched 47 = .ok (.laload, 1) by decide +kernel) (shm_k hsm 59 (by decide) (by decide)) q15 (lt_n (m := 3) q16 (shm_n hsm 59 (by decide) (by decide))) ?_
        obtain ⟨ht, hf⟩ := h
        refine go_jgt (tgt := 68) (show decode cX10_touched 48 = .ok (.lcmp, 1) by decide +kernel) (show decode cX10_touched 49 = .ok (.ifCond .gt 19, 3) by decide +kernel) (by decide) (fun hc => ?_) (fun hc => ?_)
        · have h := ht hc
          refine go_ldc2 (show decode cX10_touched 68 = .ok (.ldc2_w 311, 3) by decide +kernel) lc_X10_311 (by decide) ?_
          exact go_lret (show decode cX10_touched 71 = .ok (.lreturn, 1) by decide +kernel) rfl h
        · have h := hf hc
          refine go_aload_n (show decode cX10_touched 52 = .ok (.aload_n 0, 1) by decide +kernel) (by rfl) ?_
          refine go_iload_n (show decode cX10_touched 53 = .ok (.iload_n 1, 1) by decide +kernel) (by rfl) ?_
          refine go_iload_n (show decode cX10_touched 54 = .ok (.iload_n 2, 1) by decide +kernel) (by rfl) ?_
          refine go_iload_n (show decode cX10_touched 55 = .ok (.iload_n 3, 1) by decide +kernel) (by rfl) ?_
          refine go_iload (show decode cX10_touched 56 = .ok (.iload 4, 2) by decide +kernel) (by rfl) ?_
          refine go_iload (show decode cX10_touched 58 = .ok (.iload 5, 2) by decide +kernel) (by rfl) ?_
          refine go_lload (show decode cX10_touched 60 = .ok (.lload 6, 2) by decide +kernel) (by rfl) ?_
          refine go_callV (d2 := d - 1) (M2 := MX10_finds) (n := 6) (ci := 10) (av := [vI a1, vI a2, vI a3, vI a4, vI a5, vJ a6]) (st := []) (show decode cX10_touched 62 = .ok (.invokevirtual 255, 3) by decide +kernel) ml_X10_255 mt_X10_finds min_X10_finds mse_X10_finds (by decide) (shm_k hsm 53 (by decide) (by decide)) rfl (Nat.le_of_ble_eq_true rfl) (by omega) (ok_mono h (fun w17 S18 F19 G20 h => ?_))
          obtain ⟨e8, h⟩ := h
          replace e8 := e8.symm; subst e8
          obtain ⟨z21, e9, h⟩ := h
          subst e9
          show Go d MX10_touched 65 [some (vR 53), some (vI a1), some (vI a2), some (vI a3), some (vI a4), some (vI a5), some (vJ a6), none, none, none] [vI z21] S F19 G20 Q
          obtain ⟨ht, hf⟩ := h
          refine go_ifne (tgt := 72) (show decode cX10_touched 65 = .ok (.ifCond .ne 7, 3) by decide +kernel) (by decide) (fun hc => ?_) (fun hc => ?_)
          · have h := ht hc
            refine go_aload_n (show decode cX10_touched 72 = .ok (.aload_n 0, 1) by decide +kernel) (by rfl) ?_
            refine go_getI (show decode cX10_touched 73 = .ok (.getfield 224, 3) by decide +kernel) fl_X10_224 (Or.inl rfl) (shm_k hsm 53 (by decide) (by decide)) ?_
            obtain ⟨x22, x22e⟩ : ∃ x22 : Int, x22 = F19 53 21 := ⟨_, rfl⟩
            have h := h x22 x22e
            rw [← x22e]
            refine go_istore (show decode cX10_touched 76 = .ok (.istore 8, 2) by decide +kernel) (by decide) ?_
            show Go d MX10_touched 78 [some (vR 53), some (vI a1), some (vI a2), some (vI a3), some (vI a4), some (vI a5), some (vJ a6), none, some (vI x22), none] [] S F19 G20 Q
            refine go_aload_n (show decode cX10_touched 78 = .ok (.aload_n 0, 1) by decide +kernel) (by rfl) ?_
            refine go_getI (show decode cX10_touched 79 = .ok (.getfield 221, 3) by decide +kernel) fl_X10_221 (Or.inl rfl) (shm_k hsm 53 (by decide) (by decide)) ?_
            obtain ⟨x23, x23e⟩ : ∃ x23 : Int, x23 = F19 53 22 := ⟨_, rfl⟩
            have h := h x23 x23e
            rw [← x23e]
            refine go_istore (show decode cX10_touched 82 = .ok (.istore 9, 2) by decide +kernel) (by decide) ?_
            show Go d MX10_touched 84 [some (vR 53), some (vI a1), some (vI a2), some (vI a3), some (vI a4), some (vI a5), some (vJ a6), none, some (vI x22), some (vI x23)] [] S F19 G20 Q
            refine go_iload (show decode cX10_touched 84 = .ok (.iload 9, 2) by decide +kernel) (by rfl) ?_
            refine go_iload_n (show decode cX10_touched 86 = .ok (.iload_n 3, 1) by decide +kernel) (by rfl) ?_
            obtain ⟨ht, hf⟩ := h
            refine go_icmple (tgt := 107) (show decode cX10_touched 87 = .ok (.if_icmp .le 20, 3) by decide +kernel) (by decide) (fun hc => ?_) (fun hc => ?_)
            · have h := ht hc
              refine go_lconst (n := 0) (show decode cX10_touched 107 = .ok (.lconst 0, 1) by decide +kernel) ?_
              show Go d MX10_touched 108 [some (vR 53), some (vI a1), some (vI a2), some (vI a3), some (vI a4), some (vI a5), some (vJ a6), none, some (vI x22), some (vI x23)] [vJ 0] S F19 G20 Q
              exact R_X10_touched_108 hsm h
            · have h := hf hc
              refine go_aload_n (show decode cX10_touched 90 = .ok (.aload_n 0, 1) by decide +kernel) (by rfl) ?_
              refine go_iload_n (show decode cX10_touched 91 = .ok (.iload_n 1, 1) by decide +kernel) (by rfl) ?_
              refine go_iload_n (show decode cX10_touched 92 = .ok (.iload_n 2, 1) by decide +kernel) (by rfl) ?_
              refine go_iload_n (show decode cX10_touched 93 = .ok (.iload_n 3, 1) by decide +kernel) (by rfl) ?_
              refine go_iload (show decode cX10_touched 94 = .ok (.iload 4, 2) by decide +kernel) (by rfl) ?_
              refine go_iload (show decode cX10_touched 96 = .ok (.iload 9, 2) by decide +kernel) (by rfl) ?_
              refine go_iconst (show decode cX10_touched 98 = .ok (.iconst 1, 1) by decide +kernel) (by decide) ?_
              obtain ⟨q24, h⟩ := h
              refine go_isub (show decode cX10_touched 99 = .ok (.isub, 1) by decide +kernel) q24 ?_
              refine go_lconst (n := 1) (show decode cX10_touched 100 = .ok (.lconst 1, 1) by decide +kernel) ?_
              show Go d MX10_touched 101 [some (vR 53), some (vI a1), some (vI a2), some (vI a3), some (vI a4), some (vI a5), some (vJ a6), none, some (vI x22), some (vI x23)] [vJ 1, vI (x23 - 1), vI a4, vI a3, vI a2, vI a1, vR 53] S F19 G20 Q
              obtain ⟨z29, p30, h⟩ := h
              refine go_callV (d2 := d - 1) (M2 := MX10_cellsFrom) (n := 6) (ci := 10) (av := [vI a1, vI a2, vI a3, vI a4, vI (x23 - 1), vJ 1]) (st := []) (show decode cX10_touched 101 = .ok (.invokevirtual 412, 3) by decide +kernel) ml_X10_412 mt_X10_cellsFrom min_X10_cellsFrom mse_X10_cellsFrom (by decide) (shm_k hsm 53 (by decide) (by decide)) rfl (Nat.le_of_ble_eq_true rfl) (by omega) (ok_mono p30 (fun w25 S26 F27 G28 e9 => ?_))
              obtain ⟨e1, e2, e3, e4⟩ := e9
              subst e1
              replace e2 := e2.symm; subst e2
              replace e3 := e3.symm; subst e3
              replace e4 := e4.symm; subst e4
              show Go d MX10_touched 104 [some (vR 53), some (vI a1), some (vI a2), some (vI a3), some (vI a4), some (vI a5), some (vJ a6), none, some (vI x22), some (vI x23)] [vJ z29] S F19 G20 Q
              refine go_goto (tgt := 108) (show decode cX10_touched 104 = .ok (.goto 4, 3) by decide +kernel) (by decide) ?_
              exact R_X10_touched_108 hsm h
          · have h := hf hc
            refine go_ldc2 (show decode cX10_touched 68 = .ok (.ldc2_w 311, 3) by decide +kernel) lc_X10_311 (by decide) ?_
            exact go_lret (show decode cX10_touched 71 = .ok (.lreturn, 1) by decide +kernel) rfl h
      · have h := hf hc
        refine go_ldc2 (show decode cX10_touched 36 = .ok (.ldc2_w 120, 3) by decide +kernel) lc_X10_120 (by decide) ?_
        exact go_lret (show decode cX10_touched 39 = .ok (.lreturn, 1) by decide +kernel) rfl h
    · have h := hf hc
      refine go_ldc2 (show decode cX10_touched 25 = .ok (.ldc2_w 174, 3) by decide +kernel) lc_X10_174 (by decide) ?_
      exact go_lret (show decode cX10_touched 28 = .ok (.lreturn, 1) by decide +kernel) rfl h
def V_X10_ahead_113 (d : Nat) (S : AS) (F : AF) (G : AG) (Q : AQ) (a1 : Int) (a2 : Int) (a3 : Int) (a4 : Int) (s0 : Int) : Prop :=
  ((¬ a4 = 0) →
    (r32 (a4 - 1)) ∧
    (1 ≤ d) ∧
    ∃ z7 : Int, Pu (d - 1) MX10_sumOf [vR 53, vI a1, vI a3, vI 0, vI a3, vI (a4 - 1)] S F G (some (vJ z7)) ∧
    (r64 (s0 + z7)) ∧
    Q (some (vJ (s0 + z7))) S F G) ∧
  ((a4 = 0) →
    (r64 (s0 + 0)) ∧
    Q (some (vJ (s0 + 0))) S F G)
theorem R_X10_ahead_113 {d : Nat} {S : AS} {F : AF} {G : AG} {Q : AQ} {a1 : Int} {a2 : Int} {a3 : Int} {a4 : Int} {s0 : Int} (hsm : ShM S) (h : V_X10_ahead_113 d S F G Q a1 a2 a3 a4 s0) : Go d MX10_ahead 113 [some (vR 53), some (vI a1), some (vI a2), some (vI a3), some (vI a4)] [vJ s0] S F G Q := by
  unfold V_X10_ahead_113 at h
  refine go_iload (show decode cX10_ahead 113 = .ok (.iload 4, 2) by decide +kernel) (by rfl) ?_
  obtain ⟨ht, hf⟩ := h
  refine go_ifne (tgt := 122) (show decode cX10_ahead 115 = .ok (.ifCond .ne 7, 3) by decide +kernel) (by decide) (fun hc => ?_) (fun hc => ?_)
  · have h := ht hc
    refine go_aload_n (show decode cX10_ahead 122 = .ok (.aload_n 0, 1) by decide +kernel) (by rfl) ?_
    refine go_iload_n (show decode cX10_ahead 123 = .ok (.iload_n 1, 1) by decide +kernel) (by rfl) ?_
    refine go_iload_n (show decode cX10_ahead 124 = .ok (.iload_n 3, 1) by decide +kernel) (by rfl) ?_
    refine go_iconst (show decode cX10_ahead 125 = .ok (.iconst 0, 1) by decide +kernel) (by decide) ?_
    refine go_iload_n (show decode cX10_ahead 126 = .ok (.iload_n 3, 1) by decide +kernel) (by rfl) ?_
    refine go_iload (show decode cX10_ahead 127 = .ok (.iload 4, 2) by decide +kernel) (by rfl) ?_
    refine go_iconst (show decode cX10_ahead 129 = .ok (.iconst 1, 1) by decide +kernel) (by decide) ?_
    obtain ⟨q1, h⟩ := h
    refine go_isub (show decode cX10_ahead 130 = .ok (.isub, 1) by decide +kernel) q1 ?_
    obtain ⟨q2, h⟩ := h
    obtain ⟨z7, p8, h⟩ := h
    refine go_callV (d2 := d - 1) (M2 := MX10_sumOf) (n := 5) (ci := 10) (av := [vI a1, vI a3, vI 0, vI a3, vI (a4 - 1)]) (st := [vJ s0]) (show decode cX10_ahead 131 = .ok (.invokevirtual 251, 3) by decide +kernel) ml_X10_251 mt_X10_sumOf min_X10_sumOf mse_X10_sumOf (by decide) (shm_k hsm 53 (by decide) (by decide)) rfl (Nat.le_of_ble_eq_true rfl) (by omega) (ok_mono p8 (fun w3 S4 F5 G6 e9 => ?_))
    obtain ⟨e1, e2, e3, e4⟩ := e9
    subst e1
    replace e2 := e2.symm; subst e2
    replace e3 := e3.symm; subst e3
    replace e4 := e4.symm; subst e4
    show Go d MX10_ahead 134 [some (vR 53), some (vI a1), some (vI a2), some (vI a3), some (vI a4)] [vJ z7, vJ s0] S F G Q
    obtain ⟨q9, h⟩ := h
    refine go_ladd (show decode cX10_ahead 134 = .ok (.ladd, 1) by decide +kernel) q9 ?_
    exact go_lret (show decode cX10_ahead 135 = .ok (.lreturn, 1) by decide +kernel) rfl h
  · have h := hf hc
    refine go_lconst (n := 0) (show decode cX10_ahead 118 = .ok (.lconst 0, 1) by decide +kernel) ?_
    show Go d MX10_ahead 119 [some (vR 53), some (vI a1), some (vI a2), some (vI a3), some (vI a4)] [vJ 0, vJ s0] S F G Q
    refine go_goto (tgt := 134) (show decode cX10_ahead 119 = .ok (.goto 15, 3) by decide +kernel) (by decide) ?_
    obtain ⟨q10, h⟩ := h
    refine go_ladd (show decode cX10_ahead 134 = .ok (.ladd, 1) by decide +kernel) q10 ?_
    exact go_lret (show decode cX10_ahead 135 = .ok (.lreturn, 1) by decide +kernel) rfl h
def V_X10_ahead_66 (d : Nat) (S : AS) (F : AF) (G : AG) (Q : AQ) (a1 : Int) (a2 : Int) (a3 : Int) (a4 : Int) (s0 : Int) : Prop :=
  ((¬ a3 = 0) →
    (r32 (a3 - 1)) ∧
    (1 ≤ d) ∧
    ∃ z7 : Int, Pu (d - 1) MX10_sumOf [vR 53, vI a1, vI 0, vI a4, vI (a3 - 1), vI a4] S F G (some (vJ z7)) ∧
    (r64 (s0 + z7)) ∧
    Q (some (vJ (s0 + z7))) S F G) ∧
  ((a3 = 0) →
    (r64 (s0 + 0)) ∧
    Q (some (vJ (s0 + 0))) S F G)
theorem R_X10_ahead_66 {d : Nat} {S : AS} {F : AF} {G : AG} {Q : AQ} {a1 : Int} {a2 : Int} {a3 : Int} {a4 : Int} {s0 : Int} (hsm : ShM S) (h : V_X10_ahead_66 d S F G Q a1 a2 a3 a4 s0) : Go d MX10_ahead 66 [some (vR 53), some (vI a1), some (vI a2), some (vI a3), some (vI a4)] [vJ s0] S F G Q := by
  unfold V_X10_ahead_66 at h
  refine go_iload_n (show decode cX10_ahead 66 = .ok (.iload_n 3, 1) by decide +kernel) (by rfl) ?_
  obtain ⟨ht, hf⟩ := h
  refine go_ifne (tgt := 74) (show decode cX10_ahead 67 = .ok (.ifCond .ne 7, 3) by decide +kernel) (by decide) (fun hc => ?_) (fun hc => ?_)
  · have h := ht hc
    refine go_aload_n (show decode cX10_ahead 74 = .ok (.aload_n 0, 1) by decide +kernel) (by rfl) ?_
    refine go_iload_n (show decode cX10_ahead 75 = .ok (.iload_n 1, 1) by decide +kernel) (by rfl) ?_
    refine go_iconst (show decode cX10_ahead 76 = .ok (.iconst 0, 1) by decide +kernel) (by decide) ?_
    refine go_iload (show decode cX10_ahead 77 = .ok (.iload 4, 2) by decide +kernel) (by rfl) ?_
    refine go_iload_n (show decode cX10_ahead 79 = .ok (.iload_n 3, 1) by decide +kernel) (by rfl) ?_
    refine go_iconst (show decode cX10_ahead 80 = .ok (.iconst 1, 1) by decide +kernel) (by decide) ?_
    obtain ⟨q1, h⟩ := h
    refine go_isub (show decode cX10_ahead 81 = .ok (.isub, 1) by decide +kernel) q1 ?_
    refine go_iload (show decode cX10_ahead 82 = .ok (.iload 4, 2) by decide +kernel) (by rfl) ?_
    obtain ⟨q2, h⟩ := h
    obtain ⟨z7, p8, h⟩ := h
    refine go_callV (d2 := d - 1) (M2 := MX10_sumOf) (n := 5) (ci := 10) (av := [vI a1, vI 0, vI a4, vI (a3 - 1), vI a4]) (st := [vJ s0]) (show decode cX10_ahead 84 = .ok (.invokevirtual 251, 3) by decide +kernel) ml_X10_251 mt_X10_sumOf min_X10_sumOf mse_X10_sumOf (by decide) (shm_k hsm 53 (by decide) (by decide)) rfl (Nat.le_of_ble_eq_true rfl) (by omega) (ok_mono p8 (fun w3 S4 F5 G6 e9 => ?_))
    obtain ⟨e1, e2, e3, e4⟩ := e9
    subst e1
    replace e2 := e2.symm; subst e2
    replace e3 := e3.symm; subst e3
    replace e4 := e4.symm; subst e4
    show Go d MX10_ahead 87 [some (vR 53), some (vI a1), some (vI a2), some (vI a3), some (vI a4)] [vJ z7, vJ s0] S F G Q
    obtain ⟨q9, h⟩ := h
    refine go_ladd (show decode cX10_ahead 87 = .ok (.ladd, 1) by decide +kernel) q9 ?_
    exact go_lret (show decode cX10_ahead 88 = .ok (.lreturn, 1) by decide +kernel) rfl h
  · have h := hf hc
    refine go_lconst (n := 0) (show decode cX10_ahead 70 = .ok (.lconst 0, 1) by decide +kernel) ?_
    show Go d MX10_ahead 71 [some (vR 53), some (vI a1), some (vI a2), some (vI a3), some (vI a4)] [vJ 0, vJ s0] S F G Q
    refine go_goto (tgt := 87) (show decode cX10_ahead 71 = .ok (.goto 16, 3) by decide +kernel) (by decide) ?_
    obtain ⟨q10, h⟩ := h
    refine go_ladd (show decode cX10_ahead 87 = .ok (.ladd, 1) by decide +kernel) q10 ?_
    exact go_lret (show decode cX10_ahead 88 = .ok (.lreturn, 1) by decide +kernel) rfl h
def V_X10_ahead_0 (d : Nat) (S : AS) (F : AF) (G : AG) (Q : AQ) (a1 : Int) (a2 : Int) (a3 : Int) (a4 : Int) : Prop :=
  ∀ F1 : AF, F1 = fu F 53 0 0 →
  (1 ≤ d) ∧
  ∃ z7 : Int, Pu (d - 1) MX10_isGood [vI a1] S F1 G (some (vI z7)) ∧
  ((z7 = 0) →
    Q (some (vJ (-2))) S F1 G) ∧
  ((¬ z7 = 0) →
    ∃ z13 : Int, Pu (d - 1) MX10_isIn [vJ a2, vJ 0, vJ 1] S F1 G (some (vI z13)) ∧
    ((z13 = 0) →
      Q (some (vJ (-2))) S F1 G) ∧
    ((¬ z13 = 0) →
      ∃ z19 : Int, Pu (d - 1) MX10_isCell [vR 53, vI a3, vI a4] S F1 G (some (vI z19)) ∧
      ((¬ z19 = 0) →
        ((¬ a2 = 0) →
          ((¬ a3 = 0) →
            (r32 (a3 - 1)) ∧
            (r32 ((F1 53 2) - 1)) ∧
            ∃ z27 : Int, Pu (d - 1) MX10_sumOf [vR 53, vI a1, vI 0, vI 0, vI (a3 - 1), vI ((F1 53 2) - 1)] S F1 G (some (vJ z27)) ∧
            V_X10_ahead_113 d S F1 G Q a1 a2 a3 a4 z27) ∧
          ((a3 = 0) →
            V_X10_ahead_113 d S F1 G Q a1 a2 a3 a4 0)) ∧
        ((a2 = 0) →
          ((¬ a4 = 0) →
            (r32 ((F1 53 1) - 1)) ∧
            (r32 (a4 - 1)) ∧
            ∃ z35 : Int, Pu (d - 1) MX10_sumOf [vR 53, vI a1, vI 0, vI 0, vI ((F1 53 1) - 1), vI (a4 - 1)] S F1 G (some (vJ z35)) ∧
            V_X10_ahead_66 d S F1 G Q a1 a2 a3 a4 z35) ∧
          ((a4 = 0) →
            V_X10_ahead_66 d S F1 G Q a1 a2 a3 a4 0))) ∧
      ((z19 = 0) →
        Q (some (vJ (-2))) S F1 G)))
theorem R_X10_ahead_0 {d : Nat} {S : AS} {F : AF} {G : AG} {Q : AQ} {a1 : Int} {a2 : Int} {a3 : Int} {a4 : Int} (hsm : ShM S) (h : V_X10_ahead_0 d S F G Q a1 a2 a3 a4) : Go d MX10_ahead 0 [some (vR 53), some (vI a1), some (vI a2), some (vI a3), some (vI a4)] [] S F G Q := by
  unfold V_X10_ahead_0 at h
  refine go_aload_n (show decode cX10_ahead 0 = .ok (.aload_n 0, 1) by decide +kernel) (by rfl) ?_
  refine go_iconst (show decode cX10_ahead 1 = .ok (.iconst 0, 1) by decide +kernel) (by decide) ?_
  refine go_putI (show decode cX10_ahead 2 = .ok (.putfield 1, 3) by decide +kernel) fl_X10_1 rfl (Or.inl rfl) (shm_k hsm 53 (by decide) (by decide)) ?_
  obtain ⟨F1, F1e⟩ : ∃ F1 : AF, F1 = fu F 53 0 0 := ⟨_, rfl⟩
  have h := h F1 F1e
  rw [← F1e]
  refine go_iload_n (show decode cX10_ahead 5 = .ok (.iload_n 1, 1) by decide +kernel) (by rfl) ?_
  obtain ⟨q2, h⟩ := h
  obtain ⟨z7, p8, h⟩ := h
  refine go_callS (d2 := d - 1) (M2 := MX10_isGood) (n := 1) (av := [vI a1]) (st := []) (show decode cX10_ahead 6 = .ok (.invokestatic 167, 3) by decide +kernel) ml_X10_167 mt_X10_isGood mst_X10_isGood rfl (Nat.le_of_ble_eq_true rfl) (by omega) (ok_mono p8 (fun w3 S4 F5 G6 e9 => ?_))
  obtain ⟨e1, e2, e3, e4⟩ := e9
  subst e1
  replace e2 := e2.symm; subst e2
  replace e3 := e3.symm; subst e3
  replace e4 := e4.symm; subst e4
  show Go d MX10_ahead 9 [some (vR 53), some (vI a1), some (vI a2), some (vI a3), some (vI a4)] [vI z7] S F1 G Q
  obtain ⟨ht, hf⟩ := h
  refine go_ifeq (tgt := 32) (show decode cX10_ahead 9 = .ok (.ifCond .eq 23, 3) by decide +kernel) (by decide) (fun hc => ?_) (fun hc => ?_)
  · have h := ht hc
    refine go_ldc2 (show decode cX10_ahead 32 = .ok (.ldc2_w 174, 3) by decide +kernel) lc_X10_174 (by decide) ?_
    exact go_lret (show decode cX10_ahead 35 = .ok (.lreturn, 1) by decide +kernel) rfl h
  · have h := hf hc
    refine go_iload_n (show decode cX10_ahead 12 = .ok (.iload_n 2, 1) by decide +kernel) (by rfl) ?_
    refine go_i2l (show decode cX10_ahead 13 = .ok (.i2l, 1) by decide +kernel) ?_
    refine go_lconst (n := 0) (show decode cX10_ahead 14 = .ok (.lconst 0, 1) by decide +kernel) ?_
    show Go d MX10_ahead 15 [some (vR 53), some (vI a1), some (vI a2), some (vI a3), some (vI a4)] [vJ 0, vJ a2] S F1 G Q
    refine go_lconst (n := 1) (show decode cX10_ahead 15 = .ok (.lconst 1, 1) by decide +kernel) ?_
    show Go d MX10_ahead 16 [some (vR 53), some (vI a1), some (vI a2), some (vI a3), some (vI a4)] [vJ 1, vJ 0, vJ a2] S F1 G Q
    obtain ⟨z13, p14, h⟩ := h
    refine go_callS (d2 := d - 1) (M2 := MX10_isIn) (n := 3) (av := [vJ a2, vJ 0, vJ 1]) (st := []) (show decode cX10_ahead 16 = .ok (.invokestatic 116, 3) by decide +kernel) ml_X10_116 mt_X10_isIn mst_X10_isIn rfl (Nat.le_of_ble_eq_true rfl) (by omega) (ok_mono p14 (fun w9 S10 F11 G12 e9 => ?_))
    obtain ⟨e1, e2, e3, e4⟩ := e9
    subst e1
    replace e2 := e2.symm; subst e2
    replace e3 := e3.symm; subst e3
    replace e4 := e4.symm; subst e4
    show Go d MX10_ahead 19 [some (vR 53), some (vI a1), some (vI a2), some (vI a3), some (vI a4)] [vI z13] S F1 G Q
    obtain ⟨ht, hf⟩ := h
    refine go_ifeq (tgt := 32) (show decode cX10_ahead 19 = .ok (.ifCond .eq 13, 3) by decide +kernel) (by decide) (fun hc => ?_) (fun hc => ?_)
    · have h := ht hc
      refine go_ldc2 (show decode cX10_ahead 32 = .ok (.ldc2_w 174, 3) by decide +kernel) lc_X10_174 (by decide) ?_
      exact go_lret (show decode cX10_ahead 35 = .ok (.lreturn, 1) by decide +kernel) rfl h
    · have h := hf hc
      refine go_aload_n (show decode cX10_ahead 22 = .ok (.aload_n 0, 1) by decide +kernel) (by rfl) ?_
      refine go_iload_n (show decode cX10_ahead 23 = .ok (.iload_n 3, 1) by decide +kernel) (by rfl) ?_
      refine go_iload (show decode cX10_ahead 24 = .ok (.iload 4, 2) by decide +kernel) (by rfl) ?_
      obtain ⟨z19, p20, h⟩ := h
      refine go_callV (d2 := d - 1) (M2 := MX10_isCell) (n := 2) (ci := 10) (av := [vI a3, vI a4]) (st := []) (show decode cX10_ahead 26 = .ok (.invokevirtual 406, 3) by decide +kernel) ml_X10_406 mt_X10_isCell min_X10_isCell mse_X10_isCell (by decide) (shm_k hsm 53 (by decide) (by decide)) rfl (Nat.le_of_ble_eq_true rfl) (by omega) (ok_mono p20 (fun w15 S16 F17 G18 e9 => ?_))
      obtain ⟨e1, e2, e3, e4⟩ := e9
      subst e1
      replace e2 := e2.symm; subst e2
      replace e3 := e3.symm; subst e3
      replace e4 := e4.symm; subst e4
      show Go d MX10_ahead 29 [some (vR 53), some (vI a1), some (vI a2), some (vI a3), some (vI a4)] [vI z19] S F1 G Q
      obtain ⟨ht, hf⟩ := h
      refine go_ifne (tgt := 36) (show decode cX10_ahead 29 = .ok (.ifCond .ne 7, 3) by decide +kernel) (by decide) (fun hc => ?_) (fun hc => ?_)
      · have h := ht hc
        refine go_iload_n (show decode cX10_ahead 36 = .ok (.iload_n 2, 1) by decide +kernel) (by rfl) ?_
        obtain ⟨ht, hf⟩ := h
        refine go_ifne (tgt := 89) (show decode cX10_ahead 37 = .ok (.ifCond .ne 52, 3) by decide +kernel) (by decide) (fun hc => ?_) (fun hc => ?_)
        · have h := ht hc
          refine go_iload_n (show decode cX10_ahead 89 = .ok (.iload_n 3, 1) by decide +kernel) (by rfl) ?_
          obtain ⟨ht, hf⟩ := h
          refine go_ifne (tgt := 97) (show decode cX10_ahead 90 = .ok (.ifCond .ne 7, 3) by decide +kernel) (by decide) (fun hc => ?_) (fun hc => ?_)
          · have h := ht hc
            refine go_aload_n (show decode cX10_ahead 97 = .ok (.aload_n 0, 1) by decide +kernel) (by rfl) ?_
            refine go_iload_n (show decode cX10_ahead 98 = .ok (.iload_n 1, 1) by decide +kernel) (by rfl) ?_
            refine go_iconst (show decode cX10_ahead 99 = .ok (.iconst 0, 1) by decide +kernel) (by decide) ?_
            refine go_iconst (show decode cX10_ahead 100 = .ok (.iconst 0, 1) by decide +kernel) (by decide) ?_
            refine go_iload_n (show decode cX10_ahead 101 = .ok (.iload_n 3, 1) by decide +kernel) (by rfl) ?_
            refine go_iconst (show decode cX10_ahead 102 = .ok (.iconst 1, 1) by decide +kernel) (by decide) ?_
            obtain ⟨q21, h⟩ := h
            refine go_isub (show decode cX10_ahead 103 = .ok (.isub, 1) by decide +kernel) q21 ?_
            refine go_aload_n (show decode cX10_ahead 104 = .ok (.aload_n 0, 1) by decide +kernel) (by rfl) ?_
            refine go_getI (show decode cX10_ahead 105 = .ok (.getfield 16, 3) by decide +kernel) fl_X10_16 (Or.inl rfl) (shm_k hsm 53 (by decide) (by decide)) ?_
            refine go_iconst (show decode cX10_ahead 108 = .ok (.iconst 1, 1) by decide +kernel) (by decide) ?_
            obtain ⟨q22, h⟩ := h
            refine go_isub (show decode cX10_ahead 109 = .ok (.isub, 1) by decide +kernel) q22 ?_
            obtain ⟨z27, p28, h⟩ := h
            refine go_callV (d2 := d - 1) (M2 := MX10_sumOf) (n := 5) (ci := 10) (av := [vI a1, vI 0, vI 0, vI (a3 - 1), vI ((F1 53 2) - 1)]) (st := []) (show decode cX10_ahead 110 = .ok (.invokevirtual 251, 3) by decide +kernel) ml_X10_251 mt_X10_sumOf min_X10_sumOf mse_X10_sumOf (by decide) (shm_k hsm 53 (by decide) (by decide)) rfl (Nat.le_of_ble_eq_true rfl) (by omega) (ok_mono p28 (fun w23 S24 F25 G26 e9 => ?_))
            obtain ⟨e1, e2, e3, e4⟩ := e9
            subst e1
            replace e2 := e2.symm; subst e2
            replace e3 := e3.symm; subst e3
            replace e4 := e4.symm; subst e4
            show Go d MX10_ahead 113 [some (vR 53), some (vI a1), some (vI a2), some (vI a3), some (vI a4)] [vJ z27] S F1 G Q
            exact R_X10_ahead_113 hsm h
          · have h := hf hc
            refine go_lconst (n := 0) (show decode cX10_ahead 93 = .ok (.lconst 0, 1) by decide +kernel) ?_
            show Go d MX10_ahead 94 [some (vR 53), some (vI a1), some (vI a2), some (vI a3), some (vI a4)] [vJ 0] S F1 G Q
            refine go_goto (tgt := 113) (show decode cX10_ahead 94 = .ok (.goto 19, 3) by decide +kernel) (by decide) ?_
            exact R_X10_ahead_113 hsm h
        · have h := hf hc
          refine go_iload (show decode cX10_ahead 40 = .ok (.iload 4, 2) by decide +kernel) (by rfl) ?_
          obtain ⟨ht, hf⟩ := h
          refine go_ifne (tgt := 49) (show decode cX10_ahead 42 = .ok (.ifCond .ne 7, 3) by decide +kernel) (by decide) (fun hc => ?_) (fun hc => ?_)
          · have h := ht hc
            refine go_aload_n (show decode cX10_ahead 49 = .ok (.aload_n 0, 1) by decide +kernel) (by rfl) ?_
            refine go_iload_n (show decode cX10_ahead 50 = .ok (.iload_n 1, 1) by decide +kernel) (by rfl) ?_
            refine go_iconst (show decode cX10_ahead 51 = .ok (.iconst 0, 1) by decide +kernel) (by decide) ?_
            refine go_iconst (show decode cX10_ahead 52 = .ok (.iconst 0, 1) by decide +kernel) (by decide) ?_
            refine go_aload_n (show decode cX10_ahead 53 = .ok (.aload_n 0, 1) by decide +kernel) (by rfl) ?_
            refine go_getI (show decode cX10_ahead 54 = .ok (.getfield 13, 3) by decide +kernel) fl_X10_13 (Or.inl rfl) (shm_k hsm 53 (by decide) (by decide)) ?_
            refine go_iconst (show decode cX10_ahead 57 = .ok (.iconst 1, 1) by decide +kernel) (by decide) ?_
            obtain ⟨q29, h⟩ := h
            refine go_isub (show decode cX10_ahead 58 = .ok (.isub, 1) by decide +kernel) q29 ?_
            refine go_iload (show decode cX10_ahead 59 = .ok (.iload 4, 2) by decide +kernel) (by rfl) ?_
            refine go_iconst (show decode cX10_ahead 61 = .ok (.iconst 1, 1) by decide +kernel) (by decide) ?_
            obtain ⟨q30, h⟩ := h
            refine go_isub (show decode cX10_ahead 62 = .ok (.isub, 1) by decide +kernel) q30 ?_
            obtain ⟨z35, p36, h⟩ := h
            refine go_callV (d2 := d - 1) (M2 := MX10_sumOf) (n := 5) (ci := 10) (av := [vI a1, vI 0, vI 0, vI ((F1 53 1) - 1), vI (a4 - 1)]) (st := []) (show decode cX10_ahead 63 = .ok (.invokevirtual 251, 3) by decide +kernel) ml_X10_251 mt_X10_sumOf min_X10_sumOf mse_X10_sumOf (by decide) (shm_k hsm 53 (by decide) (by decide)) rfl (Nat.le_of_ble_eq_true rfl) (by omega) (ok_mono p36 (fun w31 S32 F33 G34 e9 => ?_))
            obtain ⟨e1, e2, e3, e4⟩ := e9
            subst e1
            replace e2 := e2.symm; subst e2
            replace e3 := e3.symm; subst e3
            replace e4 := e4.symm; subst e4
            show Go d MX10_ahead 66 [some (vR 53), some (vI a1), some (vI a2), some (vI a3), some (vI a4)] [vJ z35] S F1 G Q
            exact R_X10_ahead_66 hsm h
          · have h := hf hc
            refine go_lconst (n := 0) (show decode cX10_ahead 45 = .ok (.lconst 0, 1) by decide +kernel) ?_
            show Go d MX10_ahead 46 [some (vR 53), some (vI a1), some (vI a2), some (vI a3), some (vI a4)] [vJ 0] S F1 G Q
            refine go_goto (tgt := 66) (show decode cX10_ahead 46 = .ok (.goto 20, 3) by decide +kernel) (by decide) ?_
            exact R_X10_ahead_66 hsm h
      · have h := hf hc
        refine go_ldc2 (show decode cX10_ahead 32 = .ok (.ldc2_w 174, 3) by decide +kernel) lc_X10_174 (by decide) ?_
        exact go_lret (show decode cX10_ahead 35 = .ok (.lreturn, 1) by decide +kernel) rfl h
def V_X10_depot_0 (d : Nat) (S : AS) (F : AF) (G : AG) (Q : AQ) (a1 : Int) (a2 : Int) : Prop :=
  ∀ F1 : AF, F1 = fu F 53 0 0 →
  (1 ≤ d) ∧
  ∃ z7 : Int, Pu (d - 1) MX10_isGood [vI a1] S F1 G (some (vI z7)) ∧
  ((z7 = 0) →
    Q (some (vJ (-2))) S F1 G) ∧
  ((¬ z7 = 0) →
    ∃ z13 : Int, Pu (d - 1) MX10_isIn [vJ a2, vJ 0, vJ 2] S F1 G (some (vI z13)) ∧
    ((¬ z13 = 0) →
      ((0 : Int) ≤ a1) ∧
      ((a1 : Int) < 3) ∧
      ((¬ G 59 a1 = 0) →
        ∃ z21 : Int, Pu (d - 1) MX10_middle [vR 53, vI a1, vI 0] S F1 G (some (vI z21)) ∧
        ∃ z27 : Int, Pu (d - 1) MX10_middle [vR 53, vI a1, vI 1] S F1 G (some (vI z27)) ∧
        ((2 ≤ a2) →
          ∃ z33 : Int, Pu (d - 1) MX10_haul [vR 53, vI a1, vI 0, vI z21] S F1 G (some (vJ z33)) ∧
          ∃ z39 : Int, Pu (d - 1) MX10_haul [vR 53, vI a1, vI 1, vI z27] S F1 G (some (vJ z39)) ∧
          (r64 (z33 + z39)) ∧
          ∀ x42 : Int, x42 = z33 + z39 →
          ((x42 ≤ 3000000000000000000) →
            Q (some (vJ x42)) S F1 G) ∧
          ((¬ x42 ≤ 3000000000000000000) →
            Q (some (vJ (-6))) S F1 G)) ∧
        ((¬ 2 ≤ a2) →
          ((¬ a2 = 0) →
            Q (some (vJ z27)) S F1 G) ∧
          ((a2 = 0) →
            Q (some (vJ z21)) S F1 G))) ∧
      ((G 59 a1 = 0) →
        Q (some (vJ (-1))) S F1 G)) ∧
    ((z13 = 0) →
      Q (some (vJ (-2))) S F1 G))
theorem R_X10_depot_0 {d : Nat} {S : AS} {F : AF} {G : AG} {Q : AQ} {a1 : Int} {a2 : Int} (hsm : ShM S) (h : V_X10_depot_0 d S F G Q a1 a2) : Go d MX10_depot 0 [some (vR 53), some (vI a1), some (vI a2), none, none, none, none] [] S F G Q := by
  unfold V_X10_depot_0 at h
  refine go_aload_n (show decode cX10_depot 0 = .ok (.aload_n 0, 1) by decide +kernel) (by rfl) ?_
  refine go_iconst (show decode cX10_depot 1 = .ok (.iconst 0, 1) by decide +kernel) (by decide) ?_
  refine go_putI (show decode cX10_depot 2 = .ok (.putfield 1, 3) by decide +kernel) fl_X10_1 rfl (Or.inl rfl) (shm_k hsm 53 (by decide) (by decide)) ?_
  obtain ⟨F1, F1e⟩ : ∃ F1 : AF, F1 = fu F 53 0 0 := ⟨_, rfl⟩
  have h := h F1 F1e
  rw [← F1e]
  refine go_iload_n (show decode cX10_depot 5 = .ok (.iload_n 1, 1) by decide +kernel) (by rfl) ?_
  obtain ⟨q2, h⟩ := h
  obtain ⟨z7, p8, h⟩ := h
  refine go_callS (d2 := d - 1) (M2 := MX10_isGood) (n := 1) (av := [vI a1]) (st := []) (show decode cX10_depot 6 = .ok (.invokestatic 167, 3) by decide +kernel) ml_X10_167 mt_X10_isGood mst_X10_isGood rfl (Nat.le_of_ble_eq_true rfl) (by omega) (ok_mono p8 (fun w3 S4 F5 G6 e9 => ?_))
  obtain ⟨e1, e2, e3, e4⟩ := e9
  subst e1
  replace e2 := e2.symm; subst e2
  replace e3 := e3.symm; subst e3
  replace e4 := e4.symm; subst e4
  show Go d MX10_depot 9 [some (vR 53), some (vI a1), some (vI a2), none, none, none, none] [vI z7] S F1 G Q
  obtain ⟨ht, hf⟩ := h
  refine go_ifeq (tgt := 24) (show decode cX10_depot 9 = .ok (.ifCond .eq 15, 3) by decide +kernel) (by decide) (fun hc => ?_) (fun hc => ?_)
  · have h := ht hc
    refine go_ldc2 (show decode cX10_depot 24 = .ok (.ldc2_w 174, 3) by decide +kernel) lc_X10_174 (by decide) ?_
    exact go_lret (show decode cX10_depot 27 = .ok (.lreturn, 1) by decide +kernel) rfl h
  · have h := hf hc
    refine go_iload_n (show decode cX10_depot 12 = .ok (.iload_n 2, 1) by decide +kernel) (by rfl) ?_
    refine go_i2l (show decode cX10_depot 13 = .ok (.i2l, 1) by decide +kernel) ?_
    refine go_lconst (n := 0) (show decode cX10_depot 14 = .ok (.lconst 0, 1) by decide +kernel) ?_
    show Go d MX10_depot 15 [some (vR 53), some (vI a1), some (vI a2), none, none, none, none] [vJ 0, vJ a2] S F1 G Q
    refine go_ldc2 (show decode cX10_depot 15 = .ok (.ldc2_w 157, 3) by decide +kernel) lc_X10_157 (by decide) ?_
    obtain ⟨z13, p14, h⟩ := h
    refine go_callS (d2 := d - 1) (M2 := MX10_isIn) (n := 3) (av := [vJ a2, vJ 0, vJ 2]) (st := []) (show decode cX10_depot 18 = .ok (.invokestatic 116, 3) by decide +kernel) ml_X10_116 mt_X10_isIn mst_X10_isIn rfl (Nat.le_of_ble_eq_true rfl) (by omega) (ok_mono p14 (fun w9 S10 F11 G12 e9 => ?_))
    obtain ⟨e1, e2, e3, e4⟩ := e9
    subst e1
    replace e2 := e2.symm; subst e2
    replace e3 := e3.symm; subst e3
    replace e4 := e4.symm; subst e4
    show Go d MX10_depot 21 [some (vR 53), some (vI a1), some (vI a2), none, none, none, none] [vI z13] S F1 G Q
    obtain ⟨ht, hf⟩ := h
    refine go_ifne (tgt := 28) (show decode cX10_depot 21 = .ok (.ifCond .ne 7, 3) by decide +kernel) (by decide) (fun hc => ?_) (fun hc => ?_)
    · have h := ht hc
      refine go_aload_n (show decode cX10_depot 28 = .ok (.aload_n 0, 1) by decide +kernel) (by rfl) ?_
      refine go_getRc (show decode cX10_depot 29 = .ok (.getfield 43, 3) by decide +kernel) fl_X10_43 rfl (shm_k hsm 53 (by decide) (by decide)) (v := 59) (shm_r hsm 53 9 (by decide) (by decide)) ?_
      refine go_iload_n (show decode cX10_depot 32 = .ok (.iload_n 1, 1) by decide +kernel) (by rfl) ?_
      obtain ⟨q15, h⟩ := h
      obtain ⟨q16, h⟩ := h
      refine go_laload (show decode cX10_depot 33 = .ok (.laload, 1) by decide +kernel) (shm_k hsm 59 (by decide) (by decide)) q15 (lt_n (m := 3) q16 (shm_n hsm 59 (by decide) (by decide))) ?_
      refine go_lconst (n := 0) (show decode cX10_depot 34 = .ok (.lconst 0, 1) by decide +kernel) ?_
      show Go d MX10_depot 35 [some (vR 53), some (vI a1), some (vI a2), none, none, none, none] [vJ 0, vJ (G 59 a1)] S F1 G Q
      obtain ⟨ht, hf⟩ := h
      refine go_jne (tgt := 43) (show decode cX10_depot 35 = .ok (.lcmp, 1) by decide +kernel) (show decode cX10_depot 36 = .ok (.ifCond .ne 7, 3) by decide +kernel) (by decide) (fun hc => ?_) (fun hc => ?_)
      · have h := ht hc
        refine go_aload_n (show decode cX10_depot 43 = .ok (.aload_n 0, 1) by decide +kernel) (by rfl) ?_
        refine go_iload_n (show decode cX10_depot 44 = .ok (.iload_n 1, 1) by decide +kernel) (by rfl) ?_
        refine go_iconst (show decode cX10_depot 45 = .ok (.iconst 0, 1) by decide +kernel) (by decide) ?_
        obtain ⟨z21, p22, h⟩ := h
        refine go_callV (d2 := d - 1) (M2 := MX10_middle) (n := 2) (ci := 10) (av := [vI a1, vI 0]) (st := []) (show decode cX10_depot 46 = .ok (.invokevirtual 447, 3) by decide +kernel) ml_X10_447 mt_X10_middle min_X10_middle mse_X10_middle (by decide) (shm_k hsm 53 (by decide) (by decide)) rfl (Nat.le_of_ble_eq_true rfl) (by omega) (ok_mono p22 (fun w17 S18 F19 G20 e9 => ?_))
        obtain ⟨e1, e2, e3, e4⟩ := e9
        subst e1
        replace e2 := e2.symm; subst e2
        replace e3 := e3.symm; subst e3
        replace e4 := e4.symm; subst e4
        show Go d MX10_depot 49 [some (vR 53), some (vI a1), some (vI a2), none, none, none, none] [vI z21] S F1 G Q
        refine go_istore_n (show decode cX10_depot 49 = .ok (.istore_n 3, 1) by decide +kernel) (by decide) ?_
        show Go d MX10_depot 50 [some (vR 53), some (vI a1), some (vI a2), some (vI z21), none, none, none] [] S F1 G Q
        refine go_aload_n (show decode cX10_depot 50 = .ok (.aload_n 0, 1) by decide +kernel) (by rfl) ?_
        refine go_iload_n (show decode cX10_depot 51 = .ok (.iload_n 1, 1) by decide +kernel) (by rfl) ?_
        refine go_iconst (show decode cX10_depot 52 = .ok (.iconst 1, 1) by decide +kernel) (by decide) ?_
        obtain ⟨z27, p28, h⟩ := h
        refine go_callV (d2 := d - 1) (M2 := MX10_middle) (n := 2) (ci := 10) (av := [vI a1, vI 1]) (st := []) (show decode cX10_depot 53 = .ok (.invokevirtual 447, 3) by decide +kernel) ml_X10_447 mt_X10_middle min_X10_middle mse_X10_middle (by decide) (shm_k hsm 53 (by decide) (by decide)) rfl (Nat.le_of_ble_eq_true rfl) (by omega) (ok_mono p28 (fun w23 S24 F25 G26 e9 => ?_))
        obtain ⟨e1, e2, e3, e4⟩ := e9
        subst e1
        replace e2 := e2.symm; subst e2
        replace e3 := e3.symm; subst e3
        replace e4 := e4.symm; subst e4
        show Go d MX10_depot 56 [some (vR 53), some (vI a1), some (vI a2), some (vI z21), none, none, none] [vI z27] S F1 G Q
        refine go_istore (show decode cX10_depot 56 = .ok (.istore 4, 2) by decide +kernel) (by decide) ?_
        show Go d MX10_depot 58 [some (vR 53), some (vI a1), some (vI a2), some (vI z21), some (vI z27), none, none] [] S F1 G Q
        refine go_iload_n (show decode cX10_depot 58 = .ok (.iload_n 2, 1) by decide +kernel) (by rfl) ?_
        refine go_iconst (show decode cX10_depot 59 = .ok (.iconst 2, 1) by decide +kernel) (by decide) ?_
        obtain ⟨ht, hf⟩ := h
        refine go_icmpge (tgt := 76) (show decode cX10_depot 60 = .ok (.if_icmp .ge 16, 3) by decide +kernel) (by decide) (fun hc => ?_) (fun hc => ?_)
        · have h := ht hc
          refine go_aload_n (show decode cX10_depot 76 = .ok (.aload_n 0, 1) by decide +kernel) (by rfl) ?_
          refine go_iload_n (show decode cX10_depot 77 = .ok (.iload_n 1, 1) by decide +kernel) (by rfl) ?_
          refine go_iconst (show decode cX10_depot 78 = .ok (.iconst 0, 1) by decide +kernel) (by decide) ?_
          refine go_iload_n (show decode cX10_depot 79 = .ok (.iload_n 3, 1) by decide +kernel) (by rfl) ?_
          obtain ⟨z33, p34, h⟩ := h
          refine go_callV (d2 := d - 1) (M2 := MX10_haul) (n := 3) (ci := 10) (av := [vI a1, vI 0, vI z21]) (st := []) (show decode cX10_depot 80 = .ok (.invokevirtual 450, 3) by decide +kernel) ml_X10_450 mt_X10_haul min_X10_haul mse_X10_haul (by decide) (shm_k hsm 53 (by decide) (by decide)) rfl (Nat.le_of_ble_eq_true rfl) (by omega) (ok_mono p34 (fun w29 S30 F31 G32 e9 => ?_))
          obtain ⟨e1, e2, e3, e4⟩ := e9
          subst e1
          replace e2 := e2.symm; subst e2
          replace e3 := e3.symm; subst e3
          replace e4 := e4.symm; subst e4
          show Go d MX10_depot 83 [some (vR 53), some (vI a1), some (vI a2), some (vI z21), some (vI z27), none, none] [vJ z33] S F1 G Q
          refine go_aload_n (show decode cX10_depot 83 = .ok (.aload_n 0, 1) by decide +kernel) (by rfl) ?_
          refine go_iload_n (show decode cX10_depot 84 = .ok (.iload_n 1, 1) by decide +kernel) (by rfl) ?_
          refine go_iconst (show decode cX10_depot 85 = .ok (.iconst 1, 1) by decide +kernel) (by decide) ?_
          refine go_iload (show decode cX10_depot 86 = .ok (.iload 4, 2) by decide +kernel) (by rfl) ?_
          obtain ⟨z39, p40, h⟩ := h
          refine go_callV (d2 := d - 1) (M2 := MX10_haul) (n := 3) (ci := 10) (av := [vI a1, vI 1, vI z27]) (st := [vJ z33]) (show decode cX10_depot 88 = .ok (.invokevirtual 450, 3) by decide +kernel) ml_X10_450 mt_X10_haul min_X10_haul mse_X10_haul (by decide) (shm_k hsm 53 (by decide) (by decide)) rfl (Nat.le_of_ble_eq_true rfl) (by omega) (ok_mono p40 (fun w35 S36 F37 G38 e9 => ?_))
          obtain ⟨e1, e2, e3, e4⟩ := e9
          subst e1
          replace e2 := e2.symm; subst e2
          replace e3 := e3.symm; subst e3
          replace e4 := e4.symm; subst e4
          show Go d MX10_depot 91 [some (vR 53), some (vI a1), some (vI a2), some (vI z21), some (vI z27), none, none] [vJ z39, vJ z33] S F1 G Q
          obtain ⟨q41, h⟩ := h
          refine go_ladd (show decode cX10_depot 91 = .ok (.ladd, 1) by decide +kernel) q41 ?_
          obtain ⟨x42, x42e⟩ : ∃ x42 : Int, x42 = z33 + z39 := ⟨_, rfl⟩
          have h := h x42 x42e
          rw [← x42e]
          refine go_lstore (show decode cX10_depot 92 = .ok (.lstore 5, 2) by decide +kernel) (by decide) ?_
          show Go d MX10_depot 94 [some (vR 53), some (vI a1), some (vI a2), some (vI z21), some (vI z27), some (vJ x42), none] [] S F1 G Q
          refine go_lload (show decode cX10_depot 94 = .ok (.lload 5, 2) by decide +kernel) (by rfl) ?_
          refine go_ldc2 (show decode cX10_depot 96 = .ok (.ldc2_w 198, 3) by decide +kernel) lc_X10_198 (by decide) ?_
          obtain ⟨ht, hf⟩ := h
          refine go_jle (tgt := 109) (show decode cX10_depot 99 = .ok (.lcmp, 1) by decide +kernel) (show decode cX10_depot 100 = .ok (.ifCond .le 9, 3) by decide +kernel) (by decide) (fun hc => ?_) (fun hc => ?_)
          · have h := ht hc
            refine go_lload (show decode cX10_depot 109 = .ok (.lload 5, 2) by decide +kernel) (by rfl) ?_
            exact go_lret (show decode cX10_depot 111 = .ok (.lreturn, 1) by decide +kernel) rfl h
          · have h := hf hc
            refine go_ldc2 (show decode cX10_depot 103 = .ok (.ldc2_w 200, 3) by decide +kernel) lc_X10_200 (by decide) ?_
            refine go_goto (tgt := 111) (show decode cX10_depot 106 = .ok (.goto 5, 3) by decide +kernel) (by decide) ?_
            exact go_lret (show decode cX10_depot 111 = .ok (.lreturn, 1) by decide +kernel) rfl h
        · have h := hf hc
          refine go_iload_n (show decode cX10_depot 63 = .ok (.iload_n 2, 1) by decide +kernel) (by rfl) ?_
          obtain ⟨ht, hf⟩ := h
          refine go_ifne (tgt := 72) (show decode cX10_depot 64 = .ok (.ifCond .ne 8, 3) by decide +kernel) (by decide) (fun hc => ?_) (fun hc => ?_)
          · have h := ht hc
            refine go_iload (show decode cX10_depot 72 = .ok (.iload 4, 2) by decide +kernel) (by rfl) ?_
            refine go_i2l (show decode cX10_depot 74 = .ok (.i2l, 1) by decide +kernel) ?_
            exact go_lret (show decode cX10_depot 75 = .ok (.lreturn, 1) by decide +kernel) rfl h
          · have h := hf hc
            refine go_iload_n (show decode cX10_depot 67 = .ok (.iload_n 3, 1) by decide +kernel) (by rfl) ?_
            refine go_i2l (show decode cX10_depot 68 = .ok (.i2l, 1) by decide +kernel) ?_
            refine go_goto (tgt := 75) (show decode cX10_depot 69 = .ok (.goto 6, 3) by decide +kernel) (by decide) ?_
            exact go_lret (show decode cX10_depot 75 = .ok (.lreturn, 1) by decide +kernel) rfl h
      · have h := hf hc
        refine go_ldc2 (show decode cX10_depot 39 = .ok (.ldc2_w 311, 3) by decide +kernel) lc_X10_311 (by decide) ?_
        exact go_lret (show decode cX10_depot 42 = .ok (.lreturn, 1) by decide +kernel) rfl h
    · have h := hf hc
      refine go_ldc2 (show decode cX10_depot 24 = .ok (.ldc2_w 174, 3) by decide +kernel) lc_X10_174 (by decide) ?_
      exact go_lret (show decode cX10_depot 27 = .ok (.lreturn, 1) by decide +kernel) rfl h
def V_X10_middle_16 (d : Nat) (S : AS) (F : AF) (G : AG) (Q : AQ) (a1 : Int) (a2 : Int) (a3 : Int) (a5 : Int) : Prop :=
  (1 ≤ d) ∧
  ∃ z6 : Int, Pu (d - 1) MX10_lineOf [vR 53, vI a1, vI a2, vI a5] S F G (some (vJ z6)) ∧
  (r32 (a5 + 1)) ∧
  ∃ z13 : Int, Pu (d - 1) MX10_edgeAt [vR 53, vI a2, vI (a5 + 1)] S F G (some (vI z13)) ∧
  ∃ z19 : Int, Pu (d - 1) MX10_edgeAt [vR 53, vI a2, vI a5] S F G (some (vI z19)) ∧
  (r32 (z13 - z19)) ∧
  (r64 (z6 * (z13 - z19))) ∧
  ∀ x23 : Int, x23 = z6 * (z13 - z19) →
  ((x23 < a3) →
    (r64 (a3 - x23)) ∧
    ∀ x25 : Int, x25 = a3 - x23 →
    Go d MX10_middle 16 [some (vR 53), some (vI a1), some (vI a2), some (vJ x25), none, some (vI (a5 + 1)), none, none, none, none] [] S F G Q) ∧
  ((¬ x23 < a3) →
    ∃ z30 : Int, Pu (d - 1) MX10_edgeAt [vR 53, vI a2, vI a5] S F G (some (vI z30)) ∧
    (r64 (a3 - 1)) ∧
    (¬ z6 = 0) ∧
    (r64 (Int.tdiv (a3 - 1) z6)) ∧
    (r32 (Int.tdiv (a3 - 1) z6)) ∧
    (r32 (z30 + (Int.tdiv (a3 - 1) z6))) ∧
    Q (some (vI (z30 + (Int.tdiv (a3 - 1) z6)))) S F G)
theorem R_X10_middle_16 {d : Nat} {S : AS} {F : AF} {G : AG} {Q : AQ} {a1 : Int} {a2 : Int} {a3 : Int} {a5 : Int} (hsm : ShM S) (h : V_X10_middle_16 d S F G Q a1 a2 a3 a5) : Go d MX10_middle 16 [some (vR 53), some (vI a1), some (vI a2), some (vJ a3), none, some (vI a5), none, none, none, none] [] S F G Q := by
  unfold V_X10_middle_16 at h
  refine go_aload_n (show decode cX10_middle 16 = .ok (.aload_n 0, 1) by decide +kernel) (by rfl) ?_
  refine go_iload_n (show decode cX10_middle 17 = .ok (.iload_n 1, 1) by decide +kernel) (by rfl) ?_
  refine go_iload_n (show decode cX10_middle 18 = .ok (.iload_n 2, 1) by decide +kernel) (by rfl) ?_
  refine go_iload (show decode cX10_middle 19 = .ok (.iload 5, 2) by decide +kernel) (by rfl) ?_
  obtain ⟨q1, h⟩ := h
  obtain ⟨z6, p7, h⟩ := h
  refine go_callV (d2 := d - 1) (M2 := MX10_lineOf) (n := 3) (ci := 10) (av := [vI a1, vI a2, vI a5]) (st := []) (show decode cX10_middle 21 = .ok (.invokevirtual 441, 3) by decide +kernel) ml_X10_441 mt_X10_lineOf min_X10_lineOf mse_X10_lineOf (by decide) (shm_k hsm 53 (by decide) (by decide)) rfl (Nat.le_of_ble_eq_true rfl) (by omega) (ok_mono p7 (fun w2 S3 F4 G5 e9 => ?_))
  obtain ⟨e1, e2, e3, e4⟩ := e9
  subst e1
  replace e2 := e2.symm; subst e2
  replace e3 := e3.symm; subst e3
  replace e4 := e4.symm; subst e4
  show Go d MX10_middle 24 [some (vR 53), some (vI a1), some (vI a2), some (vJ a3), none, some (vI a5), none, none, none, none] [vJ z6] S F G Q
  refine go_lstore (show decode cX10_middle 24 = .ok (.lstore 6, 2) by decide +kernel) (by decide) ?_
  show Go d MX10_middle 26 [some (vR 53), some (vI a1), some (vI a2), some (vJ a3), none, some (vI a5), some (vJ z6), none, none, none] [] S F G Q
  refine go_lload (show decode cX10_middle 26 = .ok (.lload 6, 2) by decide +kernel) (by rfl) ?_
  refine go_aload_n (show decode cX10_middle 28 = .ok (.aload_n 0, 1) by decide +kernel) (by rfl) ?_
  refine go_iload_n (show decode cX10_middle 29 = .ok (.iload_n 2, 1) by decide +kernel) (by rfl) ?_
  refine go_iload (show decode cX10_middle 30 = .ok (.iload 5, 2) by decide +kernel) (by rfl) ?_
  refine go_iconst (show decode cX10_middle 32 = .ok (.iconst 1, 1) by decide +kernel) (by decide) ?_
  obtain ⟨q8, h⟩ := h
  refine go_iadd (show decode cX10_middle 33 = .ok (.iadd, 1) by decide +kernel) q8 ?_
  obtain ⟨z13, p14, h⟩ := h
  refine go_callV (d2 := d - 1) (M2 := MX10_edgeAt) (n := 2) (ci := 10) (av := [vI a2, vI (a5 + 1)]) (st := [vJ z6]) (show decode cX10_middle 34 = .ok (.invokevirtual 126, 3) by decide +kernel) ml_X10_126 mt_X10_edgeAt min_X10_edgeAt mse_X10_edgeAt (by decide) (shm_k hsm 53 (by decide) (by decide)) rfl (Nat.le_of_ble_eq_true rfl) (by omega) (ok_mono p14 (fun w9 S10 F11 G12 e9 => ?_))
  obtain ⟨e1, e2, e3, e4⟩ := e9
  subst e1
  replace e2 := e2.symm; subst e2
  replace e3 := e3.symm; subst e3
  replace e4 := e4.symm; subst e4
  show Go d MX10_middle 37 [some (vR 53), some (vI a1), some (vI a2), some (vJ a3), none, some (vI a5), some (vJ z6), none, none, none] [vI z13, vJ z6] S F G Q
  refine go_aload_n (show decode cX10_middle 37 = .ok (.aload_n 0, 1) by decide +kernel) (by rfl) ?_
  refine go_iload_n (show decode cX10_middle 38 = .ok (.iload_n 2, 1) by decide +kernel) (by rfl) ?_
  refine go_iload (show decode cX10_middle 39 = .ok (.iload 5, 2) by decide +kernel) (by rfl) ?_
  obtain ⟨z19, p20, h⟩ := h
  refine go_callV (d2 := d - 1) (M2 := MX10_edgeAt) (n := 2) (ci := 10) (av := [vI a2, vI a5]) (st := [vI z13, vJ z6]) (show decode cX10_middle 41 = .ok (.invokevirtual 126, 3) by decide +kernel) ml_X10_126 mt_X10_edgeAt min_X10_edgeAt mse_X10_edgeAt (by decide) (shm_k hsm 53 (by decide) (by decide)) rfl (Nat.le_of_ble_eq_true rfl) (by omega) (ok_mono p20 (fun w15 S16 F17 G18 e9 => ?_))
  obtain ⟨e1, e2, e3, e4⟩ := e9
  subst e1
  replace e2 := e2.symm; subst e2
  replace e3 := e3.symm; subst e3
  replace e4 := e4.symm; subst e4
  show Go d MX10_middle 44 [some (vR 53), some (vI a1), some (vI a2), some (vJ a3), none, some (vI a5), some (vJ z6), none, none, none] [vI z19, vI z13, vJ z6] S F G Q
  obtain ⟨q21, h⟩ := h
  refine go_isub (show decode cX10_middle 44 = .ok (.isub, 1) by decide +kernel) q21 ?_
  refine go_i2l (show decode cX10_middle 45 = .ok (.i2l, 1) by decide +kernel) ?_
  obtain ⟨q22, h⟩ := h
  refine go_lmul (show decode cX10_middle 46 = .ok (.lmul, 1) by decide +kernel) q22 ?_
  obtain ⟨x23, x23e⟩ : ∃ x23 : Int, x23 = z6 * (z13 - z19) := ⟨_, rfl⟩
  have h := h x23 x23e
  rw [← x23e]
  refine go_lstore (show decode cX10_middle 47 = .ok (.lstore 8, 2) by decide +kernel) (by decide) ?_
  show Go d MX10_middle 49 [some (vR 53), some (vI a1), some (vI a2), some (vJ a3), none, some (vI a5), some (vJ z6), none, some (vJ x23), none] [] S F G Q
  refine go_lload (show decode cX10_middle 49 = .ok (.lload 8, 2) by decide +kernel) (by rfl) ?_
  refine go_lload_n (show decode cX10_middle 51 = .ok (.lload_n 3, 1) by decide +kernel) (by rfl) ?_
  obtain ⟨ht, hf⟩ := h
  refine go_jlt (tgt := 72) (show decode cX10_middle 52 = .ok (.lcmp, 1) by decide +kernel) (show decode cX10_middle 53 = .ok (.ifCond .lt 19, 3) by decide +kernel) (by decide) (fun hc => ?_) (fun hc => ?_)
  · have h := ht hc
    refine go_lload_n (show decode cX10_middle 72 = .ok (.lload_n 3, 1) by decide +kernel) (by rfl) ?_
    refine go_lload (show decode cX10_middle 73 = .ok (.lload 8, 2) by decide +kernel) (by rfl) ?_
    obtain ⟨q24, h⟩ := h
    refine go_lsub (show decode cX10_middle 75 = .ok (.lsub, 1) by decide +kernel) q24 ?_
    obtain ⟨x25, x25e⟩ : ∃ x25 : Int, x25 = a3 - x23 := ⟨_, rfl⟩
    have h := h x25 x25e
    rw [← x25e]
    refine go_lstore_n (show decode cX10_middle 76 = .ok (.lstore_n 3, 1) by decide +kernel) (by decide) ?_
    show Go d MX10_middle 77 [some (vR 53), some (vI a1), some (vI a2), some (vJ x25), none, some (vI a5), some (vJ z6), none, some (vJ x23), none] [] S F G Q
    refine go_iinc (show decode cX10_middle 77 = .ok (.iinc 5 1, 3) by decide +kernel) (by rfl) q8 (by decide) ?_
    show Go d MX10_middle 80 [some (vR 53), some (vI a1), some (vI a2), some (vJ x25), none, some (vI (a5 + 1)), some (vJ z6), none, some (vJ x23), none] [] S F G Q
    refine go_goto (tgt := 16) (show decode cX10_middle 80 = .ok (.goto (-64), 3) by decide +kernel) (by decide) ?_
    refine go_clr 6 ?_
    refine go_clr 8 ?_
    exact h
  · have h := hf hc
    refine go_aload_n (show decode cX10_middle 56 = .ok (.aload_n 0, 1) by decide +kernel) (by rfl) ?_
    refine go_iload_n (show decode cX10_middle 57 = .ok (.iload_n 2, 1) by decide +kernel) (by rfl) ?_
    refine go_iload (show decode cX10_middle 58 = .ok (.iload 5, 2) by decide +kernel) (by rfl) ?_
    obtain ⟨z30, p31, h⟩ := h
    refine go_callV (d2 := d - 1) (M2 := MX10_edgeAt) (n := 2) (ci := 10) (av := [vI a2, vI a5]) (st := []) (show decode cX10_middle 60 = .ok (.invokevirtual 126, 3) by decide +kernel) ml_X10_126 mt_X10_edgeAt min_X10_edgeAt mse_X10_edgeAt (by decide) (shm_k hsm 53 (by decide) (by decide)) rfl (Nat.le_of_ble_eq_true rfl) (by omega) (ok_mono p31 (fun w26 S27 F28 G29 e9 => ?_))
    obtain ⟨e1, e2, e3, e4⟩ := e9
    subst e1
    replace e2 := e2.symm; subst e2
    replace e3 := e3.symm; subst e3
    replace e4 := e4.symm; subst e4
    show Go d MX10_middle 63 [some (vR 53), some (vI a1), some (vI a2), some (vJ a3), none, some (vI a5), some (vJ z6), none, some (vJ x23), none] [vI z30] S F G Q
    refine go_lload_n (show decode cX10_middle 63 = .ok (.lload_n 3, 1) by decide +kernel) (by rfl) ?_
    refine go_lconst (n := 1) (show decode cX10_middle 64 = .ok (.lconst 1, 1) by decide +kernel) ?_
    show Go d MX10_middle 65 [some (vR 53), some (vI a1), some (vI a2), some (vJ a3), none, some (vI a5), some (vJ z6), none, some (vJ x23), none] [vJ 1, vJ a3, vI z30] S F G Q
    obtain ⟨q32, h⟩ := h
    refine go_lsub (show decode cX10_middle 65 = .ok (.lsub, 1) by decide +kernel) q32 ?_
    refine go_lload (show decode cX10_middle 66 = .ok (.lload 6, 2) by decide +kernel) (by rfl) ?_
    obtain ⟨q33, h⟩ := h
    obtain ⟨q34, h⟩ := h
    refine go_ldiv (show decode cX10_middle 68 = .ok (.ldiv, 1) by decide +kernel) q33 q34 ?_
    obtain ⟨q35, h⟩ := h
    refine go_l2i (show decode cX10_middle 69 = .ok (.l2i, 1) by decide +kernel) q35 ?_
    obtain ⟨q36, h⟩ := h
    refine go_iadd (show decode cX10_middle 70 = .ok (.iadd, 1) by decide +kernel) q36 ?_
    exact go_iret (show decode cX10_middle 71 = .ok (.ireturn, 1) by decide +kernel) rfl h
def V_X10_middle_0 (d : Nat) (S : AS) (F : AF) (G : AG) (Q : AQ) (a1 : Int) (a2 : Int) : Prop :=
  ((0 : Int) ≤ a1) ∧
  ((a1 : Int) < 3) ∧
  (r64 ((G 59 a1) + 1)) ∧
  (r64 (Int.tdiv ((G 59 a1) + 1) 2)) ∧
  ∀ x5 : Int, x5 = Int.tdiv ((G 59 a1) + 1) 2 →
  Go d MX10_middle 16 [some (vR 53), some (vI a1), some (vI a2), some (vJ x5), none, some (vI 0), none, none, none, none] [] S F G Q
theorem R_X10_middle_0 {d : Nat} {S : AS} {F : AF} {G : AG} {Q : AQ} {a1 : Int} {a2 : Int} (hsm : ShM S) (h : V_X10_middle_0 d S F G Q a1 a2) : Go d MX10_middle 0 [some (vR 53), some (vI a1), some (vI a2), none, none, none, none, none, none, none] [] S F G Q := by
  unfold V_X10_middle_0 at h
  refine go_aload_n (show decode cX10_middle 0 = .ok (.aload_n 0, 1) by decide +kernel) (by rfl) ?_
  refine go_getRc (show decode cX10_middle 1 = .ok (.getfield 43, 3) by decide +kernel) fl_X10_43 rfl (shm_k hsm 53 (by decide) (by decide)) (v := 59) (shm_r hsm 53 9 (by decide) (by decide)) ?_
  refine go_iload_n (show decode cX10_middle 4 = .ok (.iload_n 1, 1) by decide +kernel) (by rfl) ?_
  obtain ⟨q1, h⟩ := h
  obtain ⟨q2, h⟩ := h
  refine go_laload (show decode cX10_middle 5 = .ok (.laload, 1) by decide +kernel) (shm_k hsm 59 (by decide) (by decide)) q1 (lt_n (m := 3) q2 (shm_n hsm 59 (by decide) (by decide))) ?_
  refine go_lconst (n := 1) (show decode cX10_middle 6 = .ok (.lconst 1, 1) by decide +kernel) ?_
  show Go d MX10_middle 7 [some (vR 53), some (vI a1), some (vI a2), none, none, none, none, none, none, none] [vJ 1, vJ (G 59 a1)] S F G Q
  obtain ⟨q3, h⟩ := h
  refine go_ladd (show decode cX10_middle 7 = .ok (.ladd, 1) by decide +kernel) q3 ?_
  refine go_ldc2 (show decode cX10_middle 8 = .ok (.ldc2_w 157, 3) by decide +kernel) lc_X10_157 (by decide) ?_
  obtain ⟨q4, h⟩ := h
  refine go_ldiv (show decode cX10_middle 11 = .ok (.ldiv, 1) by decide +kernel) (by decide) q4 ?_
  obtain ⟨x5, x5e⟩ : ∃ x5 : Int, x5 = Int.tdiv ((G 59 a1) + 1) 2 := ⟨_, rfl⟩
  have h := h x5 x5e
  rw [← x5e]
  refine go_lstore_n (show decode cX10_middle 12 = .ok (.lstore_n 3, 1) by decide +kernel) (by decide) ?_
  show Go d MX10_middle 13 [some (vR 53), some (vI a1), some (vI a2), some (vJ x5), none, none, none, none, none, none] [] S F G Q
  refine go_iconst (show decode cX10_middle 13 = .ok (.iconst 0, 1) by decide +kernel) (by decide) ?_
  refine go_istore (show decode cX10_middle 14 = .ok (.istore 5, 2) by decide +kernel) (by decide) ?_
  show Go d MX10_middle 16 [some (vR 53), some (vI a1), some (vI a2), some (vJ x5), none, some (vI 0), none, none, none, none] [] S F G Q
  exact h
def V_X10_lineOf_0 (d : Nat) (S : AS) (F : AF) (G : AG) (Q : AQ) (a1 : Int) (a2 : Int) (a3 : Int) : Prop :=
  ((¬ a2 = 0) →
    (r32 ((F 53 1) - 1)) ∧
    (1 ≤ d) ∧
    ∃ z7 : Int, Pu (d - 1) MX10_acrossSum [vR 53, vI a1, vI a3, vI 0, vI ((F 53 1) - 1)] S F G (some (vJ z7)) ∧
    Q (some (vJ z7)) S F G) ∧
  ((a2 = 0) →
    (r32 ((F 53 2) - 1)) ∧
    (1 ≤ d) ∧
    ∃ z15 : Int, Pu (d - 1) MX10_downSum [vR 53, vI a1, vI a3, vI 0, vI ((F 53 2) - 1)] S F G (some (vJ z15)) ∧
    Q (some (vJ z15)) S F G)
theorem R_X10_lineOf_0 {d : Nat} {S : AS} {F : AF} {G : AG} {Q : AQ} {a1 : Int} {a2 : Int} {a3 : Int} (hsm : ShM S) (h : V_X10_lineOf_0 d S F G Q a1 a2 a3) : Go d MX10_lineOf 0 [some (vR 53), some (vI a1), some (vI a2), some (vI a3)] [] S F G Q := by
  unfold V_X10_lineOf_0 at h
  refine go_iload_n (show decode cX10_lineOf 0 = .ok (.iload_n 2, 1) by decide +kernel) (by rfl) ?_
  obtain ⟨ht, hf⟩ := h
  refine go_ifne (tgt := 20) (show decode cX10_lineOf 1 = .ok (.ifCond .ne 19, 3) by decide +kernel) (by decide) (fun hc => ?_) (fun hc => ?_)
  · have h := ht hc
    refine go_aload_n (show decode cX10_lineOf 20 = .ok (.aload_n 0, 1) by decide +kernel) (by rfl) ?_
    refine go_iload_n (show decode cX10_lineOf 21 = .ok (.iload_n 1, 1) by decide +kernel) (by rfl) ?_
    refine go_iload_n (show decode cX10_lineOf 22 = .ok (.iload_n 3, 1) by decide +kernel) (by rfl) ?_
    refine go_iconst (show decode cX10_lineOf 23 = .ok (.iconst 0, 1) by decide +kernel) (by decide) ?_
    refine go_aload_n (show decode cX10_lineOf 24 = .ok (.aload_n 0, 1) by decide +kernel) (by rfl) ?_
    refine go_getI (show decode cX10_lineOf 25 = .ok (.getfield 13, 3) by decide +kernel) fl_X10_13 (Or.inl rfl) (shm_k hsm 53 (by decide) (by decide)) ?_
    refine go_iconst (show decode cX10_lineOf 28 = .ok (.iconst 1, 1) by decide +kernel) (by decide) ?_
    obtain ⟨q1, h⟩ := h
    refine go_isub (show decode cX10_lineOf 29 = .ok (.isub, 1) by decide +kernel) q1 ?_
    obtain ⟨q2, h⟩ := h
    obtain ⟨z7, p8, h⟩ := h
    refine go_callV (d2 := d - 1) (M2 := MX10_acrossSum) (n := 4) (ci := 10) (av := [vI a1, vI a3, vI 0, vI ((F 53 1) - 1)]) (st := []) (show decode cX10_lineOf 30 = .ok (.invokevirtual 217, 3) by decide +kernel) ml_X10_217 mt_X10_acrossSum min_X10_acrossSum mse_X10_acrossSum (by decide) (shm_k hsm 53 (by decide) (by decide)) rfl (Nat.le_of_ble_eq_true rfl) (by omega) (ok_mono p8 (fun w3 S4 F5 G6 e9 => ?_))
    obtain ⟨e1, e2, e3, e4⟩ := e9
    subst e1
    replace e2 := e2.symm; subst e2
    replace e3 := e3.symm; subst e3
    replace e4 := e4.symm; subst e4
    show Go d MX10_lineOf 33 [some (vR 53), some (vI a1), some (vI a2), some (vI a3)] [vJ z7] S F G Q
    exact go_lret (show decode cX10_lineOf 33 = .ok (.lreturn, 1) by decide +kernel) rfl h
  · have h := hf hc
    refine go_aload_n (show decode cX10_lineOf 4 = .ok (.aload_n 0, 1) by decide +kernel) (by rfl) ?_
    refine go_iload_n (show decode cX10_lineOf 5 = .ok (.iload_n 1, 1) by decide +kernel) (by rfl) ?_
    refine go_iload_n (show decode cX10_lineOf 6 = .ok (.iload_n 3, 1) by decide +kernel) (by rfl) ?_
    refine go_iconst (show decode cX10_lineOf 7 = .ok (.iconst 0, 1) by decide +kernel) (by decide) ?_
    refine go_aload_n (show decode cX10_lineOf 8 = .ok (.aload_n 0, 1) by decide +kernel) (by rfl) ?_
    refine go_getI (show decode cX10_lineOf 9 = .ok (.getfield 16, 3) by decide +kernel) fl_X10_16 (Or.inl rfl) (shm_k hsm 53 (by decide) (by decide)) ?_
    refine go_iconst (show decode cX10_lineOf 12 = .ok (.iconst 1, 1) by decide +kernel) (by decide) ?_
    obtain ⟨q9, h⟩ := h
    refine go_isub (show decode cX10_lineOf 13 = .ok (.isub, 1) by decide +kernel) q9 ?_
    obtain ⟨q10, h⟩ := h
    obtain ⟨z15, p16, h⟩ := h
    refine go_callV (d2 := d - 1) (M2 := MX10_downSum) (n := 4) (ci := 10) (av := [vI a1, vI a3, vI 0, vI ((F 53 2) - 1)]) (st := []) (show decode cX10_lineOf 14 = .ok (.invokevirtual 230, 3) by decide +kernel) ml_X10_230 mt_X10_downSum min_X10_downSum mse_X10_downSum (by decide) (shm_k hsm 53 (by decide) (by decide)) rfl (Nat.le_of_ble_eq_true rfl) (by omega) (ok_mono p16 (fun w11 S12 F13 G14 e9 => ?_))
    obtain ⟨e1, e2, e3, e4⟩ := e9
    subst e1
    replace e2 := e2.symm; subst e2
    replace e3 := e3.symm; subst e3
    replace e4 := e4.symm; subst e4
    show Go d MX10_lineOf 17 [some (vR 53), some (vI a1), some (vI a2), some (vI a3)] [vJ z15] S F G Q
    refine go_goto (tgt := 33) (show decode cX10_lineOf 17 = .ok (.goto 16, 3) by decide +kernel) (by decide) ?_
    exact go_lret (show decode cX10_lineOf 33 = .ok (.lreturn, 1) by decide +kernel) rfl h
def V_X10_haul_107 (d : Nat) (S : AS) (F : AF) (G : AG) (Q : AQ) (a1 : Int) (a2 : Int) (a3 : Int) (a4 : Int) (a6 : Int) (a7 : Int) (a9 : Int) : Prop :=
  (r32 (a6 + 1)) ∧
  Go d MX10_haul 6 [some (vR 53), some (vI a1), some (vI a2), some (vI a3), some (vJ a4), none, some (vI (a6 + 1)), none, none, none, none] [] S F G Q
theorem R_X10_haul_107 {d : Nat} {S : AS} {F : AF} {G : AG} {Q : AQ} {a1 : Int} {a2 : Int} {a3 : Int} {a4 : Int} {a6 : Int} {a7 : Int} {a9 : Int} (hsm : ShM S) (h : V_X10_haul_107 d S F G Q a1 a2 a3 a4 a6 a7 a9) : Go d MX10_haul 107 [some (vR 53), some (vI a1), some (vI a2), some (vI a3), some (vJ a4), none, some (vI a6), some (vJ a7), none, some (vJ a9), none] [] S F G Q := by
  unfold V_X10_haul_107 at h
  obtain ⟨q1, h⟩ := h
  refine go_iinc (show decode cX10_haul 107 = .ok (.iinc 6 1, 3) by decide +kernel) (by rfl) q1 (by decide) ?_
  show Go d MX10_haul 110 [some (vR 53), some (vI a1), some (vI a2), some (vI a3), some (vJ a4), none, some (vI (a6 + 1)), some (vJ a7), none, some (vJ a9), none] [] S F G Q
  refine go_goto (tgt := 6) (show decode cX10_haul 110 = .ok (.goto (-104), 3) by decide +kernel) (by decide) ?_
  refine go_clr 7 ?_
  refine go_clr 9 ?_
  exact h
def V_X10_haul_6 (d : Nat) (S : AS) (F : AF) (G : AG) (Q : AQ) (a1 : Int) (a2 : Int) (a3 : Int) (a4 : Int) (a6 : Int) : Prop :=
  ((0 : Int) ≤ a2) ∧
  ((a2 : Int) < 2) ∧
  ((G 55 a2 ≤ a6) →
    Q (some (vJ a4)) S F G) ∧
  ((¬ G 55 a2 ≤ a6) →
    (1 ≤ d) ∧
    ∃ z8 : Int, Pu (d - 1) MX10_lineOf [vR 53, vI a1, vI a2, vI a6] S F G (some (vJ z8)) ∧
    ∃ z14 : Int, Pu (d - 1) MX10_edgeAt [vR 53, vI a2, vI a6] S F G (some (vI z14)) ∧
    (r32 (a6 + 1)) ∧
    ∃ z21 : Int, Pu (d - 1) MX10_edgeAt [vR 53, vI a2, vI (a6 + 1)] S F G (some (vI z21)) ∧
    (r32 (z21 - 1)) ∧
    ∃ z28 : Int, Pu (d - 1) MX10_farAll [vI z14, vI (z21 - 1), vI a3] S F G (some (vJ z28)) ∧
    ((z8 = 0) →
      V_X10_haul_107 d S F G Q a1 a2 a3 a4 a6 z8 z28) ∧
    ((¬ z8 = 0) →
      ((¬ z28 = 0) →
        (¬ z8 = 0) ∧
        (r64 (Int.tdiv 3000000000000000000 z8)) ∧
        ((z28 ≤ Int.tdiv 3000000000000000000 z8) →
          (r64 (z8 * z28)) ∧
          (r64 (a4 + (z8 * z28))) ∧
          ∀ x34 : Int, x34 = a4 + (z8 * z28) →
          ((x34 ≤ 3000000000000000000) →
            V_X10_haul_107 d S F G Q a1 a2 a3 x34 a6 z8 z28) ∧
          ((¬ x34 ≤ 3000000000000000000) →
            Q (some (vJ 3000000000000000001)) S F G)) ∧
        ((¬ z28 ≤ Int.tdiv 3000000000000000000 z8) →
          Q (some (vJ 3000000000000000001)) S F G)) ∧
      ((z28 = 0) →
        V_X10_haul_107 d S F G Q a1 a2 a3 a4 a6 z8 z28)))
theorem R_X10_haul_6 {d : Nat} {S : AS} {F : AF} {G : AG} {Q : AQ} {a1 : Int} {a2 : Int} {a3 : Int} {a4 : Int} {a6 : Int} (hsm : ShM S) (h : V_X10_haul_6 d S F G Q a1 a2 a3 a4 a6) : Go d MX10_haul 6 [some (vR 53), some (vI a1), some (vI a2), some (vI a3), some (vJ a4), none, some (vI a6), none, none, none, none] [] S F G Q := by
  unfold V_X10_haul_6 at h
  refine go_iload (show decode cX10_haul 6 = .ok (.iload 6, 2) by decide +kernel) (by rfl) ?_
  refine go_aload_n (show decode cX10_haul 8 = .ok (.aload_n 0, 1) by decide +kernel) (by rfl) ?_
  refine go_getRc (show decode cX10_haul 9 = .ok (.getfield 29, 3) by decide +kernel) fl_X10_29 rfl (shm_k hsm 53 (by decide) (by decide)) (v := 55) (shm_r hsm 53 5 (by decide) (by decide)) ?_
  refine go_iload_n (show decode cX10_haul 12 = .ok (.iload_n 2, 1) by decide +kernel) (by rfl) ?_
  obtain ⟨q1, h⟩ := h
  obtain ⟨q2, h⟩ := h
  refine go_iaload (show decode cX10_haul 13 = .ok (.iaload, 1) by decide +kernel) (shm_k hsm 55 (by decide) (by decide)) q1 (lt_n (m := 2) q2 (shm_n hsm 55 (by decide) (by decide))) ?_
  obtain ⟨ht, hf⟩ := h
  refine go_icmpge (tgt := 113) (show decode cX10_haul 14 = .ok (.if_icmp .ge 99, 3) by decide +kernel) (by decide) (fun hc => ?_) (fun hc => ?_)
  · have h := ht hc
    refine go_lload (show decode cX10_haul 113 = .ok (.lload 4, 2) by decide +kernel) (by rfl) ?_
    exact go_lret (show decode cX10_haul 115 = .ok (.lreturn, 1) by decide +kernel) rfl h
  · have h := hf hc
    refine go_aload_n (show decode cX10_haul 17 = .ok (.aload_n 0, 1) by decide +kernel) (by rfl) ?_
    refine go_iload_n (show decode cX10_haul 18 = .ok (.iload_n 1, 1) by decide +kernel) (by rfl) ?_
    refine go_iload_n (show decode cX10_haul 19 = .ok (.iload_n 2, 1) by decide +kernel) (by rfl) ?_
    refine go_iload (show decode cX10_haul 20 = .ok (.iload 6, 2) by decide +kernel) (by rfl) ?_
    obtain ⟨q3, h⟩ := h
    obtain ⟨z8, p9, h⟩ := h
    refine go_callV (d2 := d - 1) (M2 := MX10_lineOf) (n := 3) (ci := 10) (av := [vI a1, vI a2, vI a6]) (st := []) (show decode cX10_haul 22 = .ok (.invokevirtual 441, 3) by decide +kernel) ml_X10_441 mt_X10_lineOf min_X10_lineOf mse_X10_lineOf (by decide) (shm_k hsm 53 (by decide) (by decide)) rfl (Nat.le_of_ble_eq_true rfl) (by omega) (ok_mono p9 (fun w4 S5 F6 G7 e9 => ?_))
    obtain ⟨e1, e2, e3, e4⟩ := e9
    subst e1
    replace e2 := e2.symm; subst e2
    replace e3 := e3.symm; subst e3
    replace e4 := e4.symm; subst e4
    show Go d MX10_haul 25 [some (vR 53), some (vI a1), some (vI a2), some (vI a3), some (vJ a4), none, some (vI a6), none, none, none, none] [vJ z8] S F G Q
    refine go_lstore (show decode cX10_haul 25 = .ok (.lstore 7, 2) by decide +kernel) (by decide) ?_
    show Go d MX10_haul 27 [some (vR 53), some (vI a1), some (vI a2), some (vI a3), some (vJ a4), none, some (vI a6), some (vJ z8), none, none, none] [] S F G Q
    refine go_aload_n (show decode cX10_haul 27 = .ok (.aload_n 0, 1) by decide +kernel) (by rfl) ?_
    refine go_iload_n (show decode cX10_haul 28 = .ok (.iload_n 2, 1) by decide +kernel) (by rfl) ?_
    refine go_iload (show decode cX10_haul 29 = .ok (.iload 6, 2) by decide +kernel) (by rfl) ?_
    obtain ⟨z14, p15, h⟩ := h
    refine go_callV (d2 := d - 1) (M2 := MX10_edgeAt) (n := 2) (ci := 10) (av := [vI a2, vI a6]) (st := []) (show decode cX10_haul 31 = .ok (.invokevirtual 126, 3) by decide +kernel) ml_X10_126 mt_X10_edgeAt min_X10_edgeAt mse_X10_edgeAt (by decide) (shm_k hsm 53 (by decide) (by decide)) rfl (Nat.le_of_ble_eq_true rfl) (by omega) (ok_mono p15 (fun w10 S11 F12 G13 e9 => ?_))
    obtain ⟨e1, e2, e3, e4⟩ := e9
    subst e1
    replace e2 := e2.symm; subst e2
    replace e3 := e3.symm; subst e3
    replace e4 := e4.symm; subst e4
    show Go d MX10_haul 34 [some (vR 53), some (vI a1), some (vI a2), some (vI a3), some (vJ a4), none, some (vI a6), some (vJ z8), none, none, none] [vI z14] S F G Q
    refine go_aload_n (show decode cX10_haul 34 = .ok (.aload_n 0, 1) by decide +kernel) (by rfl) ?_
    refine go_iload_n (show decode cX10_haul 35 = .ok (.iload_n 2, 1) by decide +kernel) (by rfl) ?_
    refine go_iload (show decode cX10_haul 36 = .ok (.iload 6, 2) by decide +kernel) (by rfl) ?_
    refine go_iconst (show decode cX10_haul 38 = .ok (.iconst 1, 1) by decide +kernel) (by decide) ?_
    obtain ⟨q16, h⟩ := h
    refine go_iadd (show decode cX10_haul 39 = .ok (.iadd, 1) by decide +kernel) q16 ?_
    obtain ⟨z21, p22, h⟩ := h
    refine go_callV (d2 := d - 1) (M2 := MX10_edgeAt) (n := 2) (ci := 10) (av := [vI a2, vI (a6 + 1)]) (st := [vI z14]) (show decode cX10_haul 40 = .ok (.invokevirtual 126, 3) by decide +kernel) ml_X10_126 mt_X10_edgeAt min_X10_edgeAt mse_X10_edgeAt (by decide) (shm_k hsm 53 (by decide) (by decide)) rfl (Nat.le_of_ble_eq_true rfl) (by omega) (ok_mono p22 (fun w17 S18 F19 G20 e9 => ?_))
    obtain ⟨e1, e2, e3, e4⟩ := e9
    subst e1
    replace e2 := e2.symm; subst e2
    replace e3 := e3.symm; subst e3
    replace e4 := e4.symm; subst e4
    show Go d MX10_haul 43 [some (vR 53), some (vI a1), some (vI a2), some (vI a3), some (vJ a4), none, some (vI a6), some (vJ z8), none, none, none] [vI z21, vI z14] S F G Q
    refine go_iconst (show decode cX10_haul 43 = .ok (.iconst 1, 1) by decide +kernel) (by decide) ?_
    obtain ⟨q23, h⟩ := h
    refine go_isub (show decode cX10_haul 44 = .ok (.isub, 1) by decide +kernel) q23 ?_
    refine go_iload_n (show decode cX10_haul 45 = .ok (.iload_n 3, 1) by decide +kernel) (by rfl) ?_
    obtain ⟨z28, p29, h⟩ := h
    refine go_callS (d2 := d - 1) (M2 := MX10_farAll) (n := 3) (av := [vI z14, vI (z21 - 1), vI a3]) (st := []) (show decode cX10_haul 46 = .ok (.invokestatic 444, 3) by decide +kernel) ml_X10_444 mt_X10_farAll mst_X10_farAll rfl (Nat.le_of_ble_eq_true rfl) (by omega) (ok_mono p29 (fun w24 S25 F26 G27 e9 => ?_))
    obtain ⟨e1, e2, e3, e4⟩ := e9
    subst e1
    replace e2 := e2.symm; subst e2
    replace e3 := e3.symm; subst e3
    replace e4 := e4.symm; subst e4
    show Go d MX10_haul 49 [some (vR 53), some (vI a1), some (vI a2), some (vI a3), some (vJ a4), none, some (vI a6), some (vJ z8), none, none, none] [vJ z28] S F G Q
    refine go_lstore (show decode cX10_haul 49 = .ok (.lstore 9, 2) by decide +kernel) (by decide) ?_
    show Go d MX10_haul 51 [some (vR 53), some (vI a1), some (vI a2), some (vI a3), some (vJ a4), none, some (vI a6), some (vJ z8), none, some (vJ z28), none] [] S F G Q
    refine go_lload (show decode cX10_haul 51 = .ok (.lload 7, 2) by decide +kernel) (by rfl) ?_
    refine go_lconst (n := 0) (show decode cX10_haul 53 = .ok (.lconst 0, 1) by decide +kernel) ?_
    show Go d MX10_haul 54 [some (vR 53), some (vI a1), some (vI a2), some (vI a3), some (vJ a4), none, some (vI a6), some (vJ z8), none, some (vJ z28), none] [vJ 0, vJ z8] S F G Q
    obtain ⟨ht, hf⟩ := h
    refine go_jeq (tgt := 107) (show decode cX10_haul 54 = .ok (.lcmp, 1) by decide +kernel) (show decode cX10_haul 55 = .ok (.ifCond .eq 52, 3) by decide +kernel) (by decide) (fun hc => ?_) (fun hc => ?_)
    · have h := ht hc
      exact R_X10_haul_107 hsm h
    · have h := hf hc
      refine go_lload (show decode cX10_haul 58 = .ok (.lload 9, 2) by decide +kernel) (by rfl) ?_
      refine go_lconst (n := 0) (show decode cX10_haul 60 = .ok (.lconst 0, 1) by decide +kernel) ?_
      show Go d MX10_haul 61 [some (vR 53), some (vI a1), some (vI a2), some (vI a3), some (vJ a4), none, some (vI a6), some (vJ z8), none, some (vJ z28), none] [vJ 0, vJ z28] S F G Q
      obtain ⟨ht, hf⟩ := h
      refine go_jne (tgt := 68) (show decode cX10_haul 61 = .ok (.lcmp, 1) by decide +kernel) (show decode cX10_haul 62 = .ok (.ifCond .ne 6, 3) by decide +kernel) (by decide) (fun hc => ?_) (fun hc => ?_)
      · have h := ht hc
        refine go_lload (show decode cX10_haul 68 = .ok (.lload 9, 2) by decide +kernel) (by rfl) ?_
        refine go_ldc2 (show decode cX10_haul 70 = .ok (.ldc2_w 198, 3) by decide +kernel) lc_X10_198 (by decide) ?_
        refine go_lload (show decode cX10_haul 73 = .ok (.lload 7, 2) by decide +kernel) (by rfl) ?_
        obtain ⟨q30, h⟩ := h
        obtain ⟨q31, h⟩ := h
        refine go_ldiv (show decode cX10_haul 75 = .ok (.ldiv, 1) by decide +kernel) q30 q31 ?_
        obtain ⟨ht, hf⟩ := h
        refine go_jle (tgt := 84) (show decode cX10_haul 76 = .ok (.lcmp, 1) by decide +kernel) (show decode cX10_haul 77 = .ok (.ifCond .le 7, 3) by decide +kernel) (by decide) (fun hc => ?_) (fun hc => ?_)
        · have h := ht hc
          refine go_lload (show decode cX10_haul 84 = .ok (.lload 4, 2) by decide +kernel) (by rfl) ?_
          refine go_lload (show decode cX10_haul 86 = .ok (.lload 7, 2) by decide +kernel) (by rfl) ?_
          refine go_lload (show decode cX10_haul 88 = .ok (.lload 9, 2) by decide +kernel) (by rfl) ?_
          obtain ⟨q32, h⟩ := h
          refine go_lmul (show decode cX10_haul 90 = .ok (.lmul, 1) by decide +kernel) q32 ?_
          obtain ⟨q33, h⟩ := h
          refine go_ladd (show decode cX10_haul 91 = .ok (.ladd, 1) by decide +kernel) q33 ?_
          obtain ⟨x34, x34e⟩ : ∃ x34 : Int, x34 = a4 + (z8 * z28) := ⟨_, rfl⟩
          have h := h x34 x34e
          rw [← x34e]
          refine go_lstore (show decode cX10_haul 92 = .ok (.lstore 4, 2) by decide +kernel) (by decide) ?_
          show Go d MX10_haul 94 [some (vR 53), some (vI a1), some (vI a2), some (vI a3), some (vJ x34), none, some (vI a6), some (vJ z8), none, some (vJ z28), none] [] S F G Q
          refine go_lload (show decode cX10_haul 94 = .ok (.lload 4, 2) by decide +kernel) (by rfl) ?_
          refine go_ldc2 (show decode cX10_haul 96 = .ok (.ldc2_w 198, 3) by decide +kernel) lc_X10_198 (by decide) ?_
          obtain ⟨ht, hf⟩ := h
          refine go_jle (tgt := 107) (show decode cX10_haul 99 = .ok (.lcmp, 1) by decide +kernel) (show decode cX10_haul 100 = .ok (.ifCond .le 7, 3) by decide +kernel) (by decide) (fun hc => ?_) (fun hc => ?_)
          · have h := ht hc
            exact R_X10_haul_107 hsm h
          · have h := hf hc
            refine go_ldc2 (show decode cX10_haul 103 = .ok (.ldc2_w 356, 3) by decide +kernel) lc_X10_356 (by decide) ?_
            exact go_lret (show decode cX10_haul 106 = .ok (.lreturn, 1) by decide +kernel) rfl h
        · have h := hf hc
          refine go_ldc2 (show decode cX10_haul 80 = .ok (.ldc2_w 356, 3) by decide +kernel) lc_X10_356 (by decide) ?_
          exact go_lret (show decode cX10_haul 83 = .ok (.lreturn, 1) by decide +kernel) rfl h
      · have h := hf hc
        refine go_goto (tgt := 107) (show decode cX10_haul 65 = .ok (.goto 42, 3) by decide +kernel) (by decide) ?_
        exact R_X10_haul_107 hsm h
def V_X10_haul_0 (d : Nat) (S : AS) (F : AF) (G : AG) (Q : AQ) (a1 : Int) (a2 : Int) (a3 : Int) : Prop :=
  Go d MX10_haul 6 [some (vR 53), some (vI a1), some (vI a2), some (vI a3), some (vJ 0), none, some (vI 0), none, none, none, none] [] S F G Q
theorem R_X10_haul_0 {d : Nat} {S : AS} {F : AF} {G : AG} {Q : AQ} {a1 : Int} {a2 : Int} {a3 : Int} (hsm : ShM S) (h : V_X10_haul_0 d S F G Q a1 a2 a3) : Go d MX10_haul 0 [some (vR 53), some (vI a1), some (vI a2), some (vI a3), none, none, none, none, none, none, none] [] S F G Q := by
  unfold V_X10_haul_0 at h
  refine go_lconst (n := 0) (show decode cX10_haul 0 = .ok (.lconst 0, 1) by decide +kernel) ?_
  show Go d MX10_haul 1 [some (vR 53), some (vI a1), some (vI a2), some (vI a3), none, none, none, none, none, none, none] [vJ 0] S F G Q
  refine go_lstore (show decode cX10_haul 1 = .ok (.lstore 4, 2) by decide +kernel) (by decide) ?_
  show Go d MX10_haul 3 [some (vR 53), some (vI a1), some (vI a2), some (vI a3), some (vJ 0), none, none, none, none, none, none] [] S F G Q
  refine go_iconst (show decode cX10_haul 3 = .ok (.iconst 0, 1) by decide +kernel) (by decide) ?_
  refine go_istore (show decode cX10_haul 4 = .ok (.istore 6, 2) by decide +kernel) (by decide) ?_
  show Go d MX10_haul 6 [some (vR 53), some (vI a1), some (vI a2), some (vI a3), some (vJ 0), none, some (vI 0), none, none, none, none] [] S F G Q
  exact h
def V_X10_farAll_0 (d : Nat) (S : AS) (F : AF) (G : AG) (Q : AQ) (a0 : Int) (a1 : Int) (a2 : Int) : Prop :=
  ((a2 ≤ a1) →
    ((a0 ≤ a2) →
      (r32 (a2 - a0)) ∧
      ∀ x2 : Int, x2 = a2 - a0 →
      (r32 (a1 - a2)) ∧
      ∀ x4 : Int, x4 = a1 - a2 →
      (r64 (x2 + 1)) ∧
      (r64 (x2 * (x2 + 1))) ∧
      (r64 (x4 + 1)) ∧
      (r64 (x4 * (x4 + 1))) ∧
      (r64 ((x2 * (x2 + 1)) + (x4 * (x4 + 1)))) ∧
      (r64 (Int.tdiv ((x2 * (x2 + 1)) + (x4 * (x4 + 1))) 2)) ∧
      Q (some (vJ (Int.tdiv ((x2 * (x2 + 1)) + (x4 * (x4 + 1))) 2))) S F G) ∧
    ((¬ a0 ≤ a2) →
      (r32 (a1 - a0)) ∧
      (r32 ((a1 - a0) + 1)) ∧
      (r32 (a0 - a2)) ∧
      (r32 ((a0 - a2) + a1)) ∧
      (r32 (((a0 - a2) + a1) - a2)) ∧
      (r64 (((a1 - a0) + 1) * (((a0 - a2) + a1) - a2))) ∧
      (r64 (Int.tdiv (((a1 - a0) + 1) * (((a0 - a2) + a1) - a2)) 2)) ∧
      Q (some (vJ (Int.tdiv (((a1 - a0) + 1) * (((a0 - a2) + a1) - a2)) 2))) S F G)) ∧
  ((¬ a2 ≤ a1) →
    (r32 (-a1)) ∧
    (r32 (-a0)) ∧
    (r32 (-a2)) ∧
    (1 ≤ d) ∧
    ∃ z26 : Int, Pu (d - 1) MX10_farAll [vI (-a1), vI (-a0), vI (-a2)] S F G (some (vJ z26)) ∧
    Q (some (vJ z26)) S F G)
theorem R_X10_farAll_0 {d : Nat} {S : AS} {F : AF} {G : AG} {Q : AQ} {a0 : Int} {a1 : Int} {a2 : Int} (hsm : ShM S) (h : V_X10_farAll_0 d S F G Q a0 a1 a2) : Go d MX10_farAll 0 [some (vI a0), some (vI a1), some (vI a2), none, none, none, none] [] S F G Q := by
  unfold V_X10_farAll_0 at h
  refine go_iload_n (show decode cX10_farAll 0 = .ok (.iload_n 1, 1) by decide +kernel) (by rfl) ?_
  refine go_iload_n (show decode cX10_farAll 1 = .ok (.iload_n 2, 1) by decide +kernel) (by rfl) ?_
  obtain ⟨ht, hf⟩ := h
  refine go_icmpge (tgt := 15) (show decode cX10_farAll 2 = .ok (.if_icmp .ge 13, 3) by decide +kernel) (by decide) (fun hc => ?_) (fun hc => ?_)
  · have h := ht hc
    refine go_iload_n (show decode cX10_farAll 15 = .ok (.iload_n 0, 1) by decide +kernel) (by rfl) ?_
    refine go_iload_n (show decode cX10_farAll 16 = .ok (.iload_n 2, 1) by decide +kernel) (by rfl) ?_
    obtain ⟨ht, hf⟩ := h
    refine go_icmple (tgt := 40) (show decode cX10_farAll 17 = .ok (.if_icmp .le 23, 3) by decide +kernel) (by decide) (fun hc => ?_) (fun hc => ?_)
    · have h := ht hc
      refine go_iload_n (show decode cX10_farAll 40 = .ok (.iload_n 2, 1) by decide +kernel) (by rfl) ?_
      refine go_iload_n (show decode cX10_farAll 41 = .ok (.iload_n 0, 1) by decide +kernel) (by rfl) ?_
      obtain ⟨q1, h⟩ := h
      refine go_isub (show decode cX10_farAll 42 = .ok (.isub, 1) by decide +kernel) q1 ?_
      refine go_i2l (show decode cX10_farAll 43 = .ok (.i2l, 1) by decide +kernel) ?_
      obtain ⟨x2, x2e⟩ : ∃ x2 : Int, x2 = a2 - a0 := ⟨_, rfl⟩
      have h := h x2 x2e
      rw [← x2e]
      refine go_lstore_n (show decode cX10_farAll 44 = .ok (.lstore_n 3, 1) by decide +kernel) (by decide) ?_
      show Go d MX10_farAll 45 [some (vI a0), some (vI a1), some (vI a2), some (vJ x2), none, none, none] [] S F G Q
      refine go_iload_n (show decode cX10_farAll 45 = .ok (.iload_n 1, 1) by decide +kernel) (by rfl) ?_
      refine go_iload_n (show decode cX10_farAll 46 = .ok (.iload_n 2, 1) by decide +kernel) (by rfl) ?_
      obtain ⟨q3, h⟩ := h
      refine go_isub (show decode cX10_farAll 47 = .ok (.isub, 1) by decide +kernel) q3 ?_
      refine go_i2l (show decode cX10_farAll 48 = .ok (.i2l, 1) by decide +kernel) ?_
      obtain ⟨x4, x4e⟩ : ∃ x4 : Int, x4 = a1 - a2 := ⟨_, rfl⟩
      have h := h x4 x4e
      rw [← x4e]
      refine go_lstore (show decode cX10_farAll 49 = .ok (.lstore 5, 2) by decide +kernel) (by decide) ?_
      show Go d MX10_farAll 51 [some (vI a0), some (vI a1), some (vI a2), some (vJ x2), none, some (vJ x4), none] [] S F G Q
      refine go_lload_n (show decode cX10_farAll 51 = .ok (.lload_n 3, 1) by decide +kernel) (by rfl) ?_
      refine go_lload_n (show decode cX10_farAll 52 = .ok (.lload_n 3, 1) by decide +kernel) (by rfl) ?_
      refine go_lconst (n := 1) (show decode cX10_farAll 53 = .ok (.lconst 1, 1) by decide +kernel) ?_
      show Go d MX10_farAll 54 [some (vI a0), some (vI a1), some (vI a2), some (vJ x2), none, some (vJ x4), none] [vJ 1, vJ x2, vJ x2] S F G Q
      obtain ⟨q5, h⟩ := h
      refine go_ladd (show decode cX10_farAll 54 = .ok (.ladd, 1) by decide +kernel) q5 ?_
      obtain ⟨q6, h⟩ := h
      refine go_lmul (show decode cX10_farAll 55 = .ok (.lmul, 1) by decide +kernel) q6 ?_
      refine go_lload (show decode cX10_farAll 56 = .ok (.lload 5, 2) by decide +kernel) (by rfl) ?_
      refine go_lload (show decode cX10_farAll 58 = .ok (.lload 5, 2) by decide +kernel) (by rfl) ?_
      refine go_lconst (n := 1) (show decode cX10_farAll 60 = .ok (.lconst 1, 1) by decide +kernel) ?_
      show Go d MX10_farAll 61 [some (vI a0), some (vI a1), some (vI a2), some (vJ x2), none, some (vJ x4), none] [vJ 1, vJ x4, vJ x4, vJ (x2 * (x2 + 1))] S F G Q
      obtain ⟨q7, h⟩ := h
      refine go_ladd (show decode cX10_farAll 61 = .ok (.ladd, 1) by decide +kernel) q7 ?_
      obtain ⟨q8, h⟩ := h
      refine go_lmul (show decode cX10_farAll 62 = .ok (.lmul, 1) by decide +kernel) q8 ?_
      obtain ⟨q9, h⟩ := h
      refine go_ladd (show decode cX10_farAll 63 = .ok (.ladd, 1) by decide +kernel) q9 ?_
      refine go_ldc2 (show decode cX10_farAll 64 = .ok (.ldc2_w 157, 3) by decide +kernel) lc_X10_157 (by decide) ?_
      obtain ⟨q10, h⟩ := h
      refine go_ldiv (show decode cX10_farAll 67 = .ok (.ldiv, 1) by decide +kernel) (by decide) q10 ?_
      exact go_lret (show decode cX10_farAll 68 = .ok (.lreturn, 1) by decide +kernel) rfl h
    · have h := hf hc
      refine go_iload_n (show decode cX10_farAll 20 = .ok (.iload_n 1, 1) by decide +kernel) (by rfl) ?_
      refine go_iload_n (show decode cX10_farAll 21 = .ok (.iload_n 0, 1) by decide +kernel) (by rfl) ?_
      obtain ⟨q11, h⟩ := h
      refine go_isub (show decode cX10_farAll 22 = .ok (.isub, 1) by decide +kernel) q11 ?_
      refine go_iconst (show decode cX10_farAll 23 = .ok (.iconst 1, 1) by decide +kernel) (by decide) ?_
      obtain ⟨q12, h⟩ := h
      refine go_iadd (show decode cX10_farAll 24 = .ok (.iadd, 1) by decide +kernel) q12 ?_
      refine go_i2l (show decode cX10_farAll 25 = .ok (.i2l, 1) by decide +kernel) ?_
      refine go_iload_n (show decode cX10_farAll 26 = .ok (.iload_n 0, 1) by decide +kernel) (by rfl) ?_
      refine go_iload_n (show decode cX10_farAll 27 = .ok (.iload_n 2, 1) by decide +kernel) (by rfl) ?_
      obtain ⟨q13, h⟩ := h
      refine go_isub (show decode cX10_farAll 28 = .ok (.isub, 1) by decide +kernel) q13 ?_
      refine go_iload_n (show decode cX10_farAll 29 = .ok (.iload_n 1, 1) by decide +kernel) (by rfl) ?_
      obtain ⟨q14, h⟩ := h
      refine go_iadd (show decode cX10_farAll 30 = .ok (.iadd, 1) by decide +kernel) q14 ?_
      refine go_iload_n (show decode cX10_farAll 31 = .ok (.iload_n 2, 1) by decide +kernel) (by rfl) ?_
      obtain ⟨q15, h⟩ := h
      refine go_isub (show decode cX10_farAll 32 = .ok (.isub, 1) by decide +kernel) q15 ?_
      refine go_i2l (show decode cX10_farAll 33 = .ok (.i2l, 1) by decide +kernel) ?_
      obtain ⟨q16, h⟩ := h
      refine go_lmul (show decode cX10_farAll 34 = .ok (.lmul, 1) by decide +kernel) q16 ?_
      refine go_ldc2 (show decode cX10_farAll 35 = .ok (.ldc2_w 157, 3) by decide +kernel) lc_X10_157 (by decide) ?_
      obtain ⟨q17, h⟩ := h
      refine go_ldiv (show decode cX10_farAll 38 = .ok (.ldiv, 1) by decide +kernel) (by decide) q17 ?_
      exact go_lret (show decode cX10_farAll 39 = .ok (.lreturn, 1) by decide +kernel) rfl h
  · have h := hf hc
    refine go_iload_n (show decode cX10_farAll 5 = .ok (.iload_n 1, 1) by decide +kernel) (by rfl) ?_
    obtain ⟨q18, h⟩ := h
    refine go_ineg (show decode cX10_farAll 6 = .ok (.ineg, 1) by decide +kernel) q18 ?_
    refine go_iload_n (show decode cX10_farAll 7 = .ok (.iload_n 0, 1) by decide +kernel) (by rfl) ?_
    obtain ⟨q19, h⟩ := h
    refine go_ineg (show decode cX10_farAll 8 = .ok (.ineg, 1) by decide +kernel) q19 ?_
    refine go_iload_n (show decode cX10_farAll 9 = .ok (.iload_n 2, 1) by decide +kernel) (by rfl) ?_
    obtain ⟨q20, h⟩ := h
    refine go_ineg (show decode cX10_farAll 10 = .ok (.ineg, 1) by decide +kernel) q20 ?_
    obtain ⟨q21, h⟩ := h
    obtain ⟨z26, p27, h⟩ := h
    refine go_callS (d2 := d - 1) (M2 := MX10_farAll) (n := 3) (av := [vI (-a1), vI (-a0), vI (-a2)]) (st := []) (show decode cX10_farAll 11 = .ok (.invokestatic 444, 3) by decide +kernel) ml_X10_444 mt_X10_farAll mst_X10_farAll rfl (Nat.le_of_ble_eq_true rfl) (by omega) (ok_mono p27 (fun w22 S23 F24 G25 e9 => ?_))
    obtain ⟨e1, e2, e3, e4⟩ := e9
    subst e1
    replace e2 := e2.symm; subst e2
    replace e3 := e3.symm; subst e3
    replace e4 := e4.symm; subst e4
    show Go d MX10_farAll 14 [some (vI a0), some (vI a1), some (vI a2), none, none, none, none] [vJ z26] S F G Q
    exact go_lret (show decode cX10_farAll 14 = .ok (.lreturn, 1) by decide +kernel) rfl h
def V_X10_window_263 (d : Nat) (S : AS) (F : AF) (G : AG) (Q : AQ) (a1 : Int) (a2 : Int) (a3 : Int) (a4 : Int) (a5 : Int) (a6 : Int) (a7 : Int) (a9 : Int) (a10 : Int) (a11 : Int) (a12 : Int) (a13 : Int) (a15 : Int) : Prop :=
  (r32 (a12 + 1)) ∧
  Go d MX10_window 161 [some (vR 53), some (vI a1), some (vI a2), some (vI a3), some (vI a4), some (vI a5), some (vI a6), some (vJ a7), none, some (vI a9), some (vI a10), some (vI a11), some (vI (a12 + 1)), none, none, none] [] S F G Q
theorem R_X10_window_263 {d : Nat} {S : AS} {F : AF} {G : AG} {Q : AQ} {a1 : Int} {a2 : Int} {a3 : Int} {a4 : Int} {a5 : Int} {a6 : Int} {a7 : Int} {a9 : Int} {a10 : Int} {a11 : Int} {a12 : Int} {a13 : Int} {a15 : Int} (hsm : ShM S) (h : V_X10_window_263 d S F G Q a1 a2 a3 a4 a5 a6 a7 a9 a10 a11 a12 a13 a15) : Go d MX10_window 263 [some (vR 53), some (vI a1), some (vI a2), some (vI a3), some (vI a4), some (vI a5), some (vI a6), some (vJ a7), none, some (vI a9), some (vI a10), some (vI a11), some (vI a12), some (vJ a13), none, some (vI a15)] [] S F G Q := by
  unfold V_X10_window_263 at h
  obtain ⟨q1, h⟩ := h
  refine go_iinc (show decode cX10_window 263 = .ok (.iinc 12 1, 3) by decide +kernel) (by rfl) q1 (by decide) ?_
  show Go d MX10_window 266 [some (vR 53), some (vI a1), some (vI a2), some (vI a3), some (vI a4), some (vI a5), some (vI a6), some (vJ a7), none, some (vI a9), some (vI a10), some (vI a11), some (vI (a12 + 1)), some (vJ a13), none, some (vI a15)] [] S F G Q
  refine go_goto (tgt := 161) (show decode cX10_window 266 = .ok (.goto (-105), 3) by decide +kernel) (by decide) ?_
  refine go_clr 13 ?_
  refine go_clr 15 ?_
  exact h
def V_X10_window_174 (d : Nat) (S : AS) (F : AF) (G : AG) (Q : AQ) (a1 : Int) (a2 : Int) (a3 : Int) (a4 : Int) (a5 : Int) (a6 : Int) (a7 : Int) (a9 : Int) (a10 : Int) (a11 : Int) (a12 : Int) (a13 : Int) (a15 : Int) : Prop :=
  ((G 55 0 ≤ a15) →
    ((a7 < a13) →
      ((0 : Int) ≤ a12) ∧
      ((a12 : Int) < 98) ∧
      ∀ x3 : Int, x3 = G 75 a12 →
      ((0 : Int) ≤ a11) ∧
      ((a11 : Int) < 98) ∧
      ∀ x6 : Int, x6 = G 76 a11 →
      V_X10_window_263 d S F G Q a1 a2 a3 a4 a5 a6 a13 x3 x6 a11 a12 a13 a15) ∧
    ((¬ a7 < a13) →
      V_X10_window_263 d S F G Q a1 a2 a3 a4 a5 a6 a7 a9 a10 a11 a12 a13 a15)) ∧
  ((¬ G 55 0 ≤ a15) →
    ((0 : Int) ≤ a15) ∧
    ((a15 : Int) < 48) ∧
    ((0 : Int) ≤ a12) ∧
    ((a12 : Int) < 98) ∧
    (r32 ((G 75 a12) + a2)) ∧
    (r32 (((G 75 a12) + a2) - 1)) ∧
    (1 ≤ d) ∧
    ∃ z18 : Int, Pu (d - 1) MX10_part [vR 53, vI 0, vI a15, vI (G 75 a12), vI (((G 75 a12) + a2) - 1)] S F G (some (vI z18)) ∧
    (r64 ((G 77 a15) * z18)) ∧
    (r64 (a13 + ((G 77 a15) * z18))) ∧
    ∀ x22 : Int, x22 = a13 + ((G 77 a15) * z18) →
    (r32 (a15 + 1)) ∧
    Go d MX10_window 174 [some (vR 53), some (vI a1), some (vI a2), some (vI a3), some (vI a4), some (vI a5), some (vI a6), some (vJ a7), none, some (vI a9), some (vI a10), some (vI a11), some (vI a12), some (vJ x22), none, some (vI (a15 + 1))] [] S F G Q)
theorem R_X10_window_174 {d : Nat} {S : AS} {F : AF} {G : AG} {Q : AQ} {a1 : Int} {a2 : Int} {a3 : Int} {a4 : Int} {a5 : Int} {a6 : Int} {a7 : Int} {a9 : Int} {a10 : Int} {a11 : Int} {a12 : Int} {a13 : Int} {a15 : Int} (hsm : ShM S) (h : V_X10_window_174 d S F G Q a1 a2 a3 a4 a5 a6 a7 a9 a10 a11 a12 a13 a15) : Go d MX10_window 174 [some (vR 53), some (vI a1), some (vI a2), some (vI a3), some (vI a4), some (vI a5), some (vI a6), some (vJ a7), none, some (vI a9), some (vI a10), some (vI a11), some (vI a12), some (vJ a13), none, some (vI a15)] [] S F G Q := by
  unfold V_X10_window_174 at h
  refine go_iload (show decode cX10_window 174 = .ok (.iload 15, 2) by decide +kernel) (by rfl) ?_
  refine go_aload_n (show decode cX10_window 176 = .ok (.aload_n 0, 1) by decide +kernel) (by rfl) ?_
  refine go_getRc (show decode cX10_window 177 = .ok (.getfield 29, 3) by decide +kernel) fl_X10_29 rfl (shm_k hsm 53 (by decide) (by decide)) (v := 55) (shm_r hsm 53 5 (by decide) (by decide)) ?_
  refine go_iconst (show decode cX10_window 180 = .ok (.iconst 0, 1) by decide +kernel) (by decide) ?_
  refine go_iaload (show decode cX10_window 181 = .ok (.iaload, 1) by decide +kernel) (shm_k hsm 55 (by decide) (by decide)) (by decide) (lt_n (m := 2) (by decide) (shm_n hsm 55 (by decide) (by decide))) ?_
  obtain ⟨ht, hf⟩ := h
  refine go_icmpge (tgt := 230) (show decode cX10_window 182 = .ok (.if_icmp .ge 48, 3) by decide +kernel) (by decide) (fun hc => ?_) (fun hc => ?_)
  · have h := ht hc
    refine go_lload (show decode cX10_window 230 = .ok (.lload 13, 2) by decide +kernel) (by rfl) ?_
    refine go_lload (show decode cX10_window 232 = .ok (.lload 7, 2) by decide +kernel) (by rfl) ?_
    obtain ⟨ht, hf⟩ := h
    refine go_jgt (tgt := 241) (show decode cX10_window 234 = .ok (.lcmp, 1) by decide +kernel) (show decode cX10_window 235 = .ok (.ifCond .gt 6, 3) by decide +kernel) (by decide) (fun hc => ?_) (fun hc => ?_)
    · have h := ht hc
      refine go_lload (show decode cX10_window 241 = .ok (.lload 13, 2) by decide +kernel) (by rfl) ?_
      refine go_lstore (show decode cX10_window 243 = .ok (.lstore 7, 2) by decide +kernel) (by decide) ?_
      show Go d MX10_window 245 [some (vR 53), some (vI a1), some (vI a2), some (vI a3), some (vI a4), some (vI a5), some (vI a6), some (vJ a13), none, some (vI a9), some (vI a10), some (vI a11), some (vI a12), some (vJ a13), none, some (vI a15)] [] S F G Q
      refine go_aload_n (show decode cX10_window 245 = .ok (.aload_n 0, 1) by decide +kernel) (by rfl) ?_
      refine go_getRc (show decode cX10_window 246 = .ok (.getfield 96, 3) by decide +kernel) fl_X10_96 rfl (shm_k hsm 53 (by decide) (by decide)) (v := 75) (shm_r hsm 53 48 (by decide) (by decide)) ?_
      refine go_iload (show decode cX10_window 249 = .ok (.iload 12, 2) by decide +kernel) (by rfl) ?_
      obtain ⟨q1, h⟩ := h
      obtain ⟨q2, h⟩ := h
      refine go_iaload (show decode cX10_window 251 = .ok (.iaload, 1) by decide +kernel) (shm_k hsm 75 (by decide) (by decide)) q1 (lt_n (m := 98) q2 (shm_n hsm 75 (by decide) (by decide))) ?_
      obtain ⟨x3, x3e⟩ : ∃ x3 : Int, x3 = G 75 a12 := ⟨_, rfl⟩
      have h := h x3 x3e
      rw [← x3e]
      refine go_istore (show decode cX10_window 252 = .ok (.istore 9, 2) by decide +kernel) (by decide) ?_
      show Go d MX10_window 254 [some (vR 53), some (vI a1), some (vI a2), some (vI a3), some (vI a4), some (vI a5), some (vI a6), some (vJ a13), none, some (vI x3), some (vI a10), some (vI a11), some (vI a12), some (vJ a13), none, some (vI a15)] [] S F G Q
      refine go_aload_n (show decode cX10_window 254 = .ok (.aload_n 0, 1) by decide +kernel) (by rfl) ?_
      refine go_getRc (show decode cX10_window 255 = .ok (.getfield 99, 3) by decide +kernel) fl_X10_99 rfl (shm_k hsm 53 (by decide) (by decide)) (v := 76) (shm_r hsm 53 49 (by decide) (by decide)) ?_
      refine go_iload (show decode cX10_window 258 = .ok (.iload 11, 2) by decide +kernel) (by rfl) ?_
      obtain ⟨q4, h⟩ := h
      obtain ⟨q5, h⟩ := h
      refine go_iaload (show decode cX10_window 260 = .ok (.iaload, 1) by decide +kernel) (shm_k hsm 76 (by decide) (by decide)) q4 (lt_n (m := 98) q5 (shm_n hsm 76 (by decide) (by decide))) ?_
      obtain ⟨x6, x6e⟩ : ∃ x6 : Int, x6 = G 76 a11 := ⟨_, rfl⟩
      have h := h x6 x6e
      rw [← x6e]
      refine go_istore (show decode cX10_window 261 = .ok (.istore 10, 2) by decide +kernel) (by decide) ?_
      show Go d MX10_window 263 [some (vR 53), some (vI a1), some (vI a2), some (vI a3), some (vI a4), some (vI a5), some (vI a6), some (vJ a13), none, some (vI x3), some (vI x6), some (vI a11), some (vI a12), some (vJ a13), none, some (vI a15)] [] S F G Q
      exact R_X10_window_263 hsm h
    · have h := hf hc
      refine go_goto (tgt := 263) (show decode cX10_window 238 = .ok (.goto 25, 3) by decide +kernel) (by decide) ?_
      exact R_X10_window_263 hsm h
  · have h := hf hc
    refine go_lload (show decode cX10_window 185 = .ok (.lload 13, 2) by decide +kernel) (by rfl) ?_
    refine go_aload_n (show decode cX10_window 187 = .ok (.aload_n 0, 1) by decide +kernel) (by rfl) ?_
    refine go_getRc (show decode cX10_window 188 = .ok (.getfield 102, 3) by decide +kernel) fl_X10_102 rfl (shm_k hsm 53 (by decide) (by decide)) (v := 77) (shm_r hsm 53 50 (by decide) (by decide)) ?_
    refine go_iload (show decode cX10_window 191 = .ok (.iload 15, 2) by decide +kernel) (by rfl) ?_
    obtain ⟨q7, h⟩ := h
    obtain ⟨q8, h⟩ := h
    refine go_laload (show decode cX10_window 193 = .ok (.laload, 1) by decide +kernel) (shm_k hsm 77 (by decide) (by decide)) q7 (lt_n (m := 48) q8 (shm_n hsm 77 (by decide) (by decide))) ?_
    refine go_aload_n (show decode cX10_window 194 = .ok (.aload_n 0, 1) by decide +kernel) (by rfl) ?_
    refine go_iconst (show decode cX10_window 195 = .ok (.iconst 0, 1) by decide +kernel) (by decide) ?_
    refine go_iload (show decode cX10_window 196 = .ok (.iload 15, 2) by decide +kernel) (by rfl) ?_
    refine go_aload_n (show decode cX10_window 198 = .ok (.aload_n 0, 1) by decide +kernel) (by rfl) ?_
    refine go_getRc (show decode cX10_window 199 = .ok (.getfield 96, 3) by decide +kernel) fl_X10_96 rfl (shm_k hsm 53 (by decide) (by decide)) (v := 75) (shm_r hsm 53 48 (by decide) (by decide)) ?_
    refine go_iload (show decode cX10_window 202 = .ok (.iload 12, 2) by decide +kernel) (by rfl) ?_
    obtain ⟨q9, h⟩ := h
    obtain ⟨q10, h⟩ := h
    refine go_iaload (show decode cX10_window 204 = .ok (.iaload, 1) by decide +kernel) (shm_k hsm 75 (by decide) (by decide)) q9 (lt_n (m := 98) q10 (shm_n hsm 75 (by decide) (by decide))) ?_
    refine go_aload_n (show decode cX10_window 205 = .ok (.aload_n 0, 1) by decide +kernel) (by rfl) ?_
    refine go_getRc (show decode cX10_window 206 = .ok (.getfield 96, 3) by decide +kernel) fl_X10_96 rfl (shm_k hsm 53 (by decide) (by decide)) (v := 75) (shm_r hsm 53 48 (by decide) (by decide)) ?_
    refine go_iload (show decode cX10_window 209 = .ok (.iload 12, 2) by decide +kernel) (by rfl) ?_
    refine go_iaload (show decode cX10_window 211 = .ok (.iaload, 1) by decide +kernel) (shm_k hsm 75 (by decide) (by decide)) q9 (lt_n (m := 98) q10 (shm_n hsm 75 (by decide) (by decide))) ?_
    refine go_iload_n (show decode cX10_window 212 = .ok (.iload_n 2, 1) by decide +kernel) (by rfl) ?_
    obtain ⟨q11, h⟩ := h
    refine go_iadd (show decode cX10_window 213 = .ok (.iadd, 1) by decide +kernel) q11 ?_
    refine go_iconst (show decode cX10_window 214 = .ok (.iconst 1, 1) by decide +kernel) (by decide) ?_
    obtain ⟨q12, h⟩ := h
    refine go_isub (show decode cX10_window 215 = .ok (.isub, 1) by decide +kernel) q12 ?_
    obtain ⟨q13, h⟩ := h
    obtain ⟨z18, p19, h⟩ := h
    refine go_callV (d2 := d - 1) (M2 := MX10_part) (n := 4) (ci := 10) (av := [vI 0, vI a15, vI (G 75 a12), vI (((G 75 a12) + a2) - 1)]) (st := [vJ (G 77 a15), vJ a13]) (show decode cX10_window 216 = .ok (.invokevirtual 159, 3) by decide +kernel) ml_X10_159 mt_X10_part min_X10_part mse_X10_part (by decide) (shm_k hsm 53 (by decide) (by decide)) rfl (Nat.le_of_ble_eq_true rfl) (by omega) (ok_mono p19 (fun w14 S15 F16 G17 e9 => ?_))
    obtain ⟨e1, e2, e3, e4⟩ := e9
    subst e1
    replace e2 := e2.symm; subst e2
    replace e3 := e3.symm; subst e3
    replace e4 := e4.symm; subst e4
    show Go d MX10_window 219 [some (vR 53), some (vI a1), some (vI a2), some (vI a3), some (vI a4), some (vI a5), some (vI a6), some (vJ a7), none, some (vI a9), some (vI a10), some (vI a11), some (vI a12), some (vJ a13), none, some (vI a15)] [vI z18, vJ (G 77 a15), vJ a13] S F G Q
    refine go_i2l (show decode cX10_window 219 = .ok (.i2l, 1) by decide +kernel) ?_
    obtain ⟨q20, h⟩ := h
    refine go_lmul (show decode cX10_window 220 = .ok (.lmul, 1) by decide +kernel) q20 ?_
    obtain ⟨q21, h⟩ := h
    refine go_ladd (show decode cX10_window 221 = .ok (.ladd, 1) by decide +kernel) q21 ?_
    obtain ⟨x22, x22e⟩ : ∃ x22 : Int, x22 = a13 + ((G 77 a15) * z18) := ⟨_, rfl⟩
    have h := h x22 x22e
    rw [← x22e]
    refine go_lstore (show decode cX10_window 222 = .ok (.lstore 13, 2) by decide +kernel) (by decide) ?_
    show Go d MX10_window 224 [some (vR 53), some (vI a1), some (vI a2), some (vI a3), some (vI a4), some (vI a5), some (vI a6), some (vJ a7), none, some (vI a9), some (vI a10), some (vI a11), some (vI a12), some (vJ x22), none, some (vI a15)] [] S F G Q
    obtain ⟨q23, h⟩ := h
    refine go_iinc (show decode cX10_window 224 = .ok (.iinc 15 1, 3) by decide +kernel) (by rfl) q23 (by decide) ?_
    show Go d MX10_window 227 [some (vR 53), some (vI a1), some (vI a2), some (vI a3), some (vI a4), some (vI a5), some (vI a6), some (vJ a7), none, some (vI a9), some (vI a10), some (vI a11), some (vI a12), some (vJ x22), none, some (vI (a15 + 1))] [] S F G Q
    refine go_goto (tgt := 174) (show decode cX10_window 227 = .ok (.goto (-53), 3) by decide +kernel) (by decide) ?_
    exact h
def V_X10_window_161 (d : Nat) (S : AS) (F : AF) (G : AG) (Q : AQ) (a1 : Int) (a2 : Int) (a3 : Int) (a4 : Int) (a5 : Int) (a6 : Int) (a7 : Int) (a9 : Int) (a10 : Int) (a11 : Int) (a12 : Int) : Prop :=
  ((a5 ≤ a12) →
    (r32 (a11 + 1)) ∧
    Go d MX10_window 99 [some (vR 53), some (vI a1), some (vI a2), some (vI a3), some (vI a4), some (vI a5), some (vI a6), some (vJ a7), none, some (vI a9), some (vI a10), some (vI (a11 + 1)), none, none, none, none] [] S F G Q) ∧
  ((¬ a5 ≤ a12) →
    Go d MX10_window 174 [some (vR 53), some (vI a1), some (vI a2), some (vI a3), some (vI a4), some (vI a5), some (vI a6), some (vJ a7), none, some (vI a9), some (vI a10), some (vI a11), some (vI a12), some (vJ 0), none, some (vI 0)] [] S F G Q)
theorem R_X10_window_161 {d : Nat} {S : AS} {F : AF} {G : AG} {Q : AQ} {a1 : Int} {a2 : Int} {a3 : Int} {a4 : Int} {a5 : Int} {a6 : Int} {a7 : Int} {a9 : Int} {a10 : Int} {a11 : Int} {a12 : Int} (hsm : ShM S) (h : V_X10_window_161 d S F G Q a1 a2 a3 a4 a5 a6 a7 a9 a10 a11 a12) : Go d MX10_window 161 [some (vR 53), some (vI a1), some (vI a2), some (vI a3), some (vI a4), some (vI a5), some (vI a6), some (vJ a7), none, some (vI a9), some (vI a10), some (vI a11), some (vI a12), none, none, none] [] S F G Q := by
  unfold V_X10_window_161 at h
  refine go_iload (show decode cX10_window 161 = .ok (.iload 12, 2) by decide +kernel) (by rfl) ?_
  refine go_iload (show decode cX10_window 163 = .ok (.iload 5, 2) by decide +kernel) (by rfl) ?_
  obtain ⟨ht, hf⟩ := h
  refine go_icmpge (tgt := 269) (show decode cX10_window 165 = .ok (.if_icmp .ge 104, 3) by decide +kernel) (by decide) (fun hc => ?_) (fun hc => ?_)
  · have h := ht hc
    obtain ⟨q1, h⟩ := h
    refine go_iinc (show decode cX10_window 269 = .ok (.iinc 11 1, 3) by decide +kernel) (by rfl) q1 (by decide) ?_
    show Go d MX10_window 272 [some (vR 53), some (vI a1), some (vI a2), some (vI a3), some (vI a4), some (vI a5), some (vI a6), some (vJ a7), none, some (vI a9), some (vI a10), some (vI (a11 + 1)), some (vI a12), none, none, none] [] S F G Q
    refine go_goto (tgt := 99) (show decode cX10_window 272 = .ok (.goto (-173), 3) by decide +kernel) (by decide) ?_
    refine go_clr 12 ?_
    exact h
  · have h := hf hc
    refine go_lconst (n := 0) (show decode cX10_window 168 = .ok (.lconst 0, 1) by decide +kernel) ?_
    show Go d MX10_window 169 [some (vR 53), some (vI a1), some (vI a2), some (vI a3), some (vI a4), some (vI a5), some (vI a6), some (vJ a7), none, some (vI a9), some (vI a10), some (vI a11), some (vI a12), none, none, none] [vJ 0] S F G Q
    refine go_lstore (show decode cX10_window 169 = .ok (.lstore 13, 2) by decide +kernel) (by decide) ?_
    show Go d MX10_window 171 [some (vR 53), some (vI a1), some (vI a2), some (vI a3), some (vI a4), some (vI a5), some (vI a6), some (vJ a7), none, some (vI a9), some (vI a10), some (vI a11), some (vI a12), some (vJ 0), none, none] [] S F G Q
    refine go_iconst (show decode cX10_window 171 = .ok (.iconst 0, 1) by decide +kernel) (by decide) ?_
    refine go_istore (show decode cX10_window 172 = .ok (.istore 15, 2) by decide +kernel) (by decide) ?_
    show Go d MX10_window 174 [some (vR 53), some (vI a1), some (vI a2), some (vI a3), some (vI a4), some (vI a5), some (vI a6), some (vJ a7), none, some (vI a9), some (vI a10), some (vI a11), some (vI a12), some (vJ 0), none, some (vI 0)] [] S F G Q
    exact h
def V_X10_window_109 (d : Nat) (S : AS) (F : AF) (G : AG) (Q : AQ) (a1 : Int) (a2 : Int) (a3 : Int) (a4 : Int) (a5 : Int) (a6 : Int) (a7 : Int) (a9 : Int) (a10 : Int) (a11 : Int) (a12 : Int) : Prop :=
  ((G 55 0 ≤ a12) →
    Go d MX10_window 161 [some (vR 53), some (vI a1), some (vI a2), some (vI a3), some (vI a4), some (vI a5), some (vI a6), some (vJ a7), none, some (vI a9), some (vI a10), some (vI a11), some (vI 0), none, none, none] [] S F G Q) ∧
  ((¬ G 55 0 ≤ a12) →
    ((0 : Int) ≤ a11) ∧
    ((a11 : Int) < 98) ∧
    (r32 ((G 76 a11) + a3)) ∧
    (r32 (((G 76 a11) + a3) - 1)) ∧
    (1 ≤ d) ∧
    ∃ z10 : Int, Pu (d - 1) MX10_downSum [vR 53, vI a1, vI a12, vI (G 76 a11), vI (((G 76 a11) + a3) - 1)] S F G (some (vJ z10)) ∧
    ((0 : Int) ≤ a12) ∧
    ((a12 : Int) < 48) ∧
    ∀ G14 : AG, G14 = gu G 77 a12 z10 →
    (r32 (a12 + 1)) ∧
    Go d MX10_window 109 [some (vR 53), some (vI a1), some (vI a2), some (vI a3), some (vI a4), some (vI a5), some (vI a6), some (vJ a7), none, some (vI a9), some (vI a10), some (vI a11), some (vI (a12 + 1)), none, none, none] [] S F G14 Q)
theorem R_X10_window_109 {d : Nat} {S : AS} {F : AF} {G : AG} {Q : AQ} {a1 : Int} {a2 : Int} {a3 : Int} {a4 : Int} {a5 : Int} {a6 : Int} {a7 : Int} {a9 : Int} {a10 : Int} {a11 : Int} {a12 : Int} (hsm : ShM S) (h : V_X10_window_109 d S F G Q a1 a2 a3 a4 a5 a6 a7 a9 a10 a11 a12) : Go d MX10_window 109 [some (vR 53), some (vI a1), some (vI a2), some (vI a3), some (vI a4), some (vI a5), some (vI a6), some (vJ a7), none, some (vI a9), some (vI a10), some (vI a11), some (vI a12), none, none, none] [] S F G Q := by
  unfold V_X10_window_109 at h
  refine go_iload (show decode cX10_window 109 = .ok (.iload 12, 2) by decide +kernel) (by rfl) ?_
  refine go_aload_n (show decode cX10_window 111 = .ok (.aload_n 0, 1) by decide +kernel) (by rfl) ?_
  refine go_getRc (show decode cX10_window 112 = .ok (.getfield 29, 3) by decide +kernel) fl_X10_29 rfl (shm_k hsm 53 (by decide) (by decide)) (v := 55) (shm_r hsm 53 5 (by decide) (by decide)) ?_
  refine go_iconst (show decode cX10_window 115 = .ok (.iconst 0, 1) by decide +kernel) (by decide) ?_
  refine go_iaload (show decode cX10_window 116 = .ok (.iaload, 1) by decide +kernel) (shm_k hsm 55 (by decide) (by decide)) (by decide) (lt_n (m := 2) (by decide) (shm_n hsm 55 (by decide) (by decide))) ?_
  obtain ⟨ht, hf⟩ := h
  refine go_icmpge (tgt := 158) (show decode cX10_window 117 = .ok (.if_icmp .ge 41, 3) by decide +kernel) (by decide) (fun hc => ?_) (fun hc => ?_)
  · have h := ht hc
    refine go_iconst (show decode cX10_window 158 = .ok (.iconst 0, 1) by decide +kernel) (by decide) ?_
    refine go_istore (show decode cX10_window 159 = .ok (.istore 12, 2) by decide +kernel) (by decide) ?_
    show Go d MX10_window 161 [some (vR 53), some (vI a1), some (vI a2), some (vI a3), some (vI a4), some (vI a5), some (vI a6), some (vJ a7), none, some (vI a9), some (vI a10), some (vI a11), some (vI 0), none, none, none] [] S F G Q
    exact h
  · have h := hf hc
    refine go_aload_n (show decode cX10_window 120 = .ok (.aload_n 0, 1) by decide +kernel) (by rfl) ?_
    refine go_getRc (show decode cX10_window 121 = .ok (.getfield 102, 3) by decide +kernel) fl_X10_102 rfl (shm_k hsm 53 (by decide) (by decide)) (v := 77) (shm_r hsm 53 50 (by decide) (by decide)) ?_
    refine go_iload (show decode cX10_window 124 = .ok (.iload 12, 2) by decide +kernel) (by rfl) ?_
    refine go_aload_n (show decode cX10_window 126 = .ok (.aload_n 0, 1) by decide +kernel) (by rfl) ?_
    refine go_iload_n (show decode cX10_window 127 = .ok (.iload_n 1, 1) by decide +kernel) (by rfl) ?_
    refine go_iload (show decode cX10_window 128 = .ok (.iload 12, 2) by decide +kernel) (by rfl) ?_
    refine go_aload_n (show decode cX10_window 130 = .ok (.aload_n 0, 1) by decide +kernel) (by rfl) ?_
    refine go_getRc (show decode cX10_window 131 = .ok (.getfield 99, 3) by decide +kernel) fl_X10_99 rfl (shm_k hsm 53 (by decide) (by decide)) (v := 76) (shm_r hsm 53 49 (by decide) (by decide)) ?_
    refine go_iload (show decode cX10_window 134 = .ok (.iload 11, 2) by decide +kernel) (by rfl) ?_
    obtain ⟨q1, h⟩ := h
    obtain ⟨q2, h⟩ := h
    refine go_iaload (show decode cX10_window 136 = .ok (.iaload, 1) by decide +kernel) (shm_k hsm 76 (by decide) (by decide)) q1 (lt_n (m := 98) q2 (shm_n hsm 76 (by decide) (by decide))) ?_
    refine go_aload_n (show decode cX10_window 137 = .ok (.aload_n 0, 1) by decide +kernel) (by rfl) ?_
    refine go_getRc (show decode cX10_window 138 = .ok (.getfield 99, 3) by decide +kernel) fl_X10_99 rfl (shm_k hsm 53 (by decide) (by decide)) (v := 76) (shm_r hsm 53 49 (by decide) (by decide)) ?_
    refine go_iload (show decode cX10_window 141 = .ok (.iload 11, 2) by decide +kernel) (by rfl) ?_
    refine go_iaload (show decode cX10_window 143 = .ok (.iaload, 1) by decide +kernel) (shm_k hsm 76 (by decide) (by decide)) q1 (lt_n (m := 98) q2 (shm_n hsm 76 (by decide) (by decide))) ?_
    refine go_iload_n (show decode cX10_window 144 = .ok (.iload_n 3, 1) by decide +kernel) (by rfl) ?_
    obtain ⟨q3, h⟩ := h
    refine go_iadd (show decode cX10_window 145 = .ok (.iadd, 1) by decide +kernel) q3 ?_
    refine go_iconst (show decode cX10_window 146 = .ok (.iconst 1, 1) by decide +kernel) (by decide) ?_
    obtain ⟨q4, h⟩ := h
    refine go_isub (show decode cX10_window 147 = .ok (.isub, 1) by decide +kernel) q4 ?_
    obtain ⟨q5, h⟩ := h
    obtain ⟨z10, p11, h⟩ := h
    refine go_callV (d2 := d - 1) (M2 := MX10_downSum) (n := 4) (ci := 10) (av := [vI a1, vI a12, vI (G 76 a11), vI (((G 76 a11) + a3) - 1)]) (st := [vI a12, vR 77]) (show decode cX10_window 148 = .ok (.invokevirtual 230, 3) by decide +kernel) ml_X10_230 mt_X10_downSum min_X10_downSum mse_X10_downSum (by decide) (shm_k hsm 53 (by decide) (by decide)) rfl (Nat.le_of_ble_eq_true rfl) (by omega) (ok_mono p11 (fun w6 S7 F8 G9 e9 => ?_))
    obtain ⟨e1, e2, e3, e4⟩ := e9
    subst e1
    replace e2 := e2.symm; subst e2
    replace e3 := e3.symm; subst e3
    replace e4 := e4.symm; subst e4
    show Go d MX10_window 151 [some (vR 53), some (vI a1), some (vI a2), some (vI a3), some (vI a4), some (vI a5), some (vI a6), some (vJ a7), none, some (vI a9), some (vI a10), some (vI a11), some (vI a12), none, none, none] [vJ z10, vI a12, vR 77] S F G Q
    obtain ⟨q12, h⟩ := h
    obtain ⟨q13, h⟩ := h
    refine go_lastore (show decode cX10_window 151 = .ok (.lastore, 1) by decide +kernel) (shm_k hsm 77 (by decide) (by decide)) q12 (lt_n (m := 48) q13 (shm_n hsm 77 (by decide) (by decide)))  ?_
    obtain ⟨G14, G14e⟩ : ∃ G14 : AG, G14 = gu G 77 a12 z10 := ⟨_, rfl⟩
    have h := h G14 G14e
    rw [← G14e]
    obtain ⟨q15, h⟩ := h
    refine go_iinc (show decode cX10_window 152 = .ok (.iinc 12 1, 3) by decide +kernel) (by rfl) q15 (by decide) ?_
    show Go d MX10_window 155 [some (vR 53), some (vI a1), some (vI a2), some (vI a3), some (vI a4), some (vI a5), some (vI a6), some (vJ a7), none, some (vI a9), some (vI a10), some (vI a11), some (vI (a12 + 1)), none, none, none] [] S F G14 Q
    refine go_goto (tgt := 109) (show decode cX10_window 155 = .ok (.goto (-46), 3) by decide +kernel) (by decide) ?_
    exact h
def V_X10_window_99 (d : Nat) (S : AS) (F : AF) (G : AG) (Q : AQ) (a1 : Int) (a2 : Int) (a3 : Int) (a4 : Int) (a5 : Int) (a6 : Int) (a7 : Int) (a9 : Int) (a10 : Int) (a11 : Int) : Prop :=
  ((a6 ≤ a11) →
    ((¬ a4 = 0) →
      ((¬ a4 = 1) →
        Q (some (vJ a7)) S F G) ∧
      ((a4 = 1) →
        Q (some (vJ a10)) S F G)) ∧
    ((a4 = 0) →
      Q (some (vJ a9)) S F G)) ∧
  ((¬ a6 ≤ a11) →
    Go d MX10_window 109 [some (vR 53), some (vI a1), some (vI a2), some (vI a3), some (vI a4), some (vI a5), some (vI a6), some (vJ a7), none, some (vI a9), some (vI a10), some (vI a11), some (vI 0), none, none, none] [] S F G Q)
theorem R_X10_window_99 {d : Nat} {S : AS} {F : AF} {G : AG} {Q : AQ} {a1 : Int} {a2 : Int} {a3 : Int} {a4 : Int} {a5 : Int} {a6 : Int} {a7 : Int} {a9 : Int} {a10 : Int} {a11 : Int} (hsm : ShM S) (h : V_X10_window_99 d S F G Q a1 a2 a3 a4 a5 a6 a7 a9 a10 a11) : Go d MX10_window 99 [some (vR 53), some (vI a1), some (vI a2), some (vI a3), some (vI a4), some (vI a5), some (vI a6), some (vJ a7), none, some (vI a9), some (vI a10), some (vI a11), none, none, none, none] [] S F G Q := by
  unfold V_X10_window_99 at h
  refine go_iload (show decode cX10_window 99 = .ok (.iload 11, 2) by decide +kernel) (by rfl) ?_
  refine go_iload (show decode cX10_window 101 = .ok (.iload 6, 2) by decide +kernel) (by rfl) ?_
  obtain ⟨ht, hf⟩ := h
  refine go_icmpge (tgt := 275) (show decode cX10_window 103 = .ok (.if_icmp .ge 172, 3) by decide +kernel) (by decide) (fun hc => ?_) (fun hc => ?_)
  · have h := ht hc
    refine go_iload (show decode cX10_window 275 = .ok (.iload 4, 2) by decide +kernel) (by rfl) ?_
    obtain ⟨ht, hf⟩ := h
    refine go_ifne (tgt := 286) (show decode cX10_window 277 = .ok (.ifCond .ne 9, 3) by decide +kernel) (by decide) (fun hc => ?_) (fun hc => ?_)
    · have h := ht hc
      refine go_iload (show decode cX10_window 286 = .ok (.iload 4, 2) by decide +kernel) (by rfl) ?_
      refine go_iconst (show decode cX10_window 288 = .ok (.iconst 1, 1) by decide +kernel) (by decide) ?_
      obtain ⟨ht, hf⟩ := h
      refine go_icmpne (tgt := 298) (show decode cX10_window 289 = .ok (.if_icmp .ne 9, 3) by decide +kernel) (by decide) (fun hc => ?_) (fun hc => ?_)
      · have h := ht hc
        refine go_lload (show decode cX10_window 298 = .ok (.lload 7, 2) by decide +kernel) (by rfl) ?_
        exact go_lret (show decode cX10_window 300 = .ok (.lreturn, 1) by decide +kernel) rfl h
      · have h := hf hc
        refine go_iload (show decode cX10_window 292 = .ok (.iload 10, 2) by decide +kernel) (by rfl) ?_
        refine go_i2l (show decode cX10_window 294 = .ok (.i2l, 1) by decide +kernel) ?_
        refine go_goto (tgt := 300) (show decode cX10_window 295 = .ok (.goto 5, 3) by decide +kernel) (by decide) ?_
        exact go_lret (show decode cX10_window 300 = .ok (.lreturn, 1) by decide +kernel) rfl h
    · have h := hf hc
      refine go_iload (show decode cX10_window 280 = .ok (.iload 9, 2) by decide +kernel) (by rfl) ?_
      refine go_i2l (show decode cX10_window 282 = .ok (.i2l, 1) by decide +kernel) ?_
      refine go_goto (tgt := 300) (show decode cX10_window 283 = .ok (.goto 17, 3) by decide +kernel) (by decide) ?_
      exact go_lret (show decode cX10_window 300 = .ok (.lreturn, 1) by decide +kernel) rfl h
  · have h := hf hc
    refine go_iconst (show decode cX10_window 106 = .ok (.iconst 0, 1) by decide +kernel) (by decide) ?_
    refine go_istore (show decode cX10_window 107 = .ok (.istore 12, 2) by decide +kernel) (by decide) ?_
    show Go d MX10_window 109 [some (vR 53), some (vI a1), some (vI a2), some (vI a3), some (vI a4), some (vI a5), some (vI a6), some (vJ a7), none, some (vI a9), some (vI a10), some (vI a11), some (vI 0), none, none, none] [] S F G Q
    exact h
def V_X10_window_0 (d : Nat) (S : AS) (F : AF) (G : AG) (Q : AQ) (a1 : Int) (a2 : Int) (a3 : Int) (a4 : Int) : Prop :=
  ∀ F1 : AF, F1 = fu F 53 0 0 →
  (1 ≤ d) ∧
  ∃ z7 : Int, Pu (d - 1) MX10_isGood [vI a1] S F1 G (some (vI z7)) ∧
  ((z7 = 0) →
    Q (some (vJ (-2))) S F1 G) ∧
  ((¬ z7 = 0) →
    ∃ z13 : Int, Pu (d - 1) MX10_isIn [vJ a4, vJ 0, vJ 2] S F1 G (some (vI z13)) ∧
    ((¬ z13 = 0) →
      ∃ z19 : Int, Pu (d - 1) MX10_isIn [vJ a2, vJ 1, vJ (F1 53 1)] S F1 G (some (vI z19)) ∧
      ((z19 = 0) →
        Q (some (vJ (-3))) S F1 G) ∧
      ((¬ z19 = 0) →
        ∃ z25 : Int, Pu (d - 1) MX10_isIn [vJ a3, vJ 1, vJ (F1 53 2)] S F1 G (some (vI z25)) ∧
        ((¬ z25 = 0) →
          Ok (d - 1) MX10_laysPlaces [vR 53, vI 0, vI a2, vR 75] S F1 G (fun w27 S28 F29 G30 =>
          S28 = S ∧
          ∃ z31 : Int, w27 = some (vI z31) ∧
          Ok (d - 1) MX10_laysPlaces [vR 53, vI 1, vI a3, vR 76] S F29 G30 (fun w32 S33 F34 G35 =>
          S33 = S ∧
          ∃ z36 : Int, w32 = some (vI z36) ∧
          Go d MX10_window 99 [some (vR 53), some (vI a1), some (vI a2), some (vI a3), some (vI a4), some (vI z31), some (vI z36), some (vJ (-1)), none, some (vI 0), some (vI 0), some (vI 0), none, none, none, none] [] S F34 G35 Q))) ∧
        ((z25 = 0) →
          Q (some (vJ (-3))) S F1 G))) ∧
    ((z13 = 0) →
      Q (some (vJ (-2))) S F1 G))
theorem R_X10_window_0 {d : Nat} {S : AS} {F : AF} {G : AG} {Q : AQ} {a1 : Int} {a2 : Int} {a3 : Int} {a4 : Int} (hsm : ShM S) (h : V_X10_window_0 d S F G Q a1 a2 a3 a4) : Go d MX10_window 0 [some (vR 53), some (vI a1), some (vI a2), some (vI a3), some (vI a4), none, none, none, none, none, none, none, none, none, none, none] [] S F G Q := by
  unfold V_X10_window_0 at h
  refine go_aload_n (show decode cX10_window 0 = .ok (.aload_n 0, 1) by decide +kernel) (by rfl) ?_
  refine go_iconst (show decode cX10_window 1 = .ok (.iconst 0, 1) by decide +kernel) (by decide) ?_
  refine go_putI (show decode cX10_window 2 = .ok (.putfield 1, 3) by decide +kernel) fl_X10_1 rfl (Or.inl rfl) (shm_k hsm 53 (by decide) (by decide)) ?_
  obtain ⟨F1, F1e⟩ : ∃ F1 : AF, F1 = fu F 53 0 0 := ⟨_, rfl⟩
  have h := h F1 F1e
  rw [← F1e]
  refine go_iload_n (show decode cX10_window 5 = .ok (.iload_n 1, 1) by decide +kernel) (by rfl) ?_
  obtain ⟨q2, h⟩ := h
  obtain ⟨z7, p8, h⟩ := h
  refine go_callS (d2 := d - 1) (M2 := MX10_isGood) (n := 1) (av := [vI a1]) (st := []) (show decode cX10_window 6 = .ok (.invokestatic 167, 3) by decide +kernel) ml_X10_167 mt_X10_isGood mst_X10_isGood rfl (Nat.le_of_ble_eq_true rfl) (by omega) (ok_mono p8 (fun w3 S4 F5 G6 e9 => ?_))
  obtain ⟨e1, e2, e3, e4⟩ := e9
  subst e1
  replace e2 := e2.symm; subst e2
  replace e3 := e3.symm; subst e3
  replace e4 := e4.symm; subst e4
  show Go d MX10_window 9 [some (vR 53), some (vI a1), some (vI a2), some (vI a3), some (vI a4), none, none, none, none, none, none, none, none, none, none, none] [vI z7] S F1 G Q
  obtain ⟨ht, hf⟩ := h
  refine go_ifeq (tgt := 25) (show decode cX10_window 9 = .ok (.ifCond .eq 16, 3) by decide +kernel) (by decide) (fun hc => ?_) (fun hc => ?_)
  · have h := ht hc
    refine go_ldc2 (show decode cX10_window 25 = .ok (.ldc2_w 174, 3) by decide +kernel) lc_X10_174 (by decide) ?_
    exact go_lret (show decode cX10_window 28 = .ok (.lreturn, 1) by decide +kernel) rfl h
  · have h := hf hc
    refine go_iload (show decode cX10_window 12 = .ok (.iload 4, 2) by decide +kernel) (by rfl) ?_
    refine go_i2l (show decode cX10_window 14 = .ok (.i2l, 1) by decide +kernel) ?_
    refine go_lconst (n := 0) (show decode cX10_window 15 = .ok (.lconst 0, 1) by decide +kernel) ?_
    show Go d MX10_window 16 [some (vR 53), some (vI a1), some (vI a2), some (vI a3), some (vI a4), none, none, none, none, none, none, none, none, none, none, none] [vJ 0, vJ a4] S F1 G Q
    refine go_ldc2 (show decode cX10_window 16 = .ok (.ldc2_w 157, 3) by decide +kernel) lc_X10_157 (by decide) ?_
    obtain ⟨z13, p14, h⟩ := h
    refine go_callS (d2 := d - 1) (M2 := MX10_isIn) (n := 3) (av := [vJ a4, vJ 0, vJ 2]) (st := []) (show decode cX10_window 19 = .ok (.invokestatic 116, 3) by decide +kernel) ml_X10_116 mt_X10_isIn mst_X10_isIn rfl (Nat.le_of_ble_eq_true rfl) (by omega) (ok_mono p14 (fun w9 S10 F11 G12 e9 => ?_))
    obtain ⟨e1, e2, e3, e4⟩ := e9
    subst e1
    replace e2 := e2.symm; subst e2
    replace e3 := e3.symm; subst e3
    replace e4 := e4.symm; subst e4
    show Go d MX10_window 22 [some (vR 53), some (vI a1), some (vI a2), some (vI a3), some (vI a4), none, none, none, none, none, none, none, none, none, none, none] [vI z13] S F1 G Q
    obtain ⟨ht, hf⟩ := h
    refine go_ifne (tgt := 29) (show decode cX10_window 22 = .ok (.ifCond .ne 7, 3) by decide +kernel) (by decide) (fun hc => ?_) (fun hc => ?_)
    · have h := ht hc
      refine go_iload_n (show decode cX10_window 29 = .ok (.iload_n 2, 1) by decide +kernel) (by rfl) ?_
      refine go_i2l (show decode cX10_window 30 = .ok (.i2l, 1) by decide +kernel) ?_
      refine go_lconst (n := 1) (show decode cX10_window 31 = .ok (.lconst 1, 1) by decide +kernel) ?_
      show Go d MX10_window 32 [some (vR 53), some (vI a1), some (vI a2), some (vI a3), some (vI a4), none, none, none, none, none, none, none, none, none, none, none] [vJ 1, vJ a2] S F1 G Q
      refine go_aload_n (show decode cX10_window 32 = .ok (.aload_n 0, 1) by decide +kernel) (by rfl) ?_
      refine go_getI (show decode cX10_window 33 = .ok (.getfield 13, 3) by decide +kernel) fl_X10_13 (Or.inl rfl) (shm_k hsm 53 (by decide) (by decide)) ?_
      refine go_i2l (show decode cX10_window 36 = .ok (.i2l, 1) by decide +kernel) ?_
      obtain ⟨z19, p20, h⟩ := h
      refine go_callS (d2 := d - 1) (M2 := MX10_isIn) (n := 3) (av := [vJ a2, vJ 1, vJ (F1 53 1)]) (st := []) (show decode cX10_window 37 = .ok (.invokestatic 116, 3) by decide +kernel) ml_X10_116 mt_X10_isIn mst_X10_isIn rfl (Nat.le_of_ble_eq_true rfl) (by omega) (ok_mono p20 (fun w15 S16 F17 G18 e9 => ?_))
      obtain ⟨e1, e2, e3, e4⟩ := e9
      subst e1
      replace e2 := e2.symm; subst e2
      replace e3 := e3.symm; subst e3
      replace e4 := e4.symm; subst e4
      show Go d MX10_window 40 [some (vR 53), some (vI a1), some (vI a2), some (vI a3), some (vI a4), none, none, none, none, none, none, none, none, none, none, none] [vI z19] S F1 G Q
      obtain ⟨ht, hf⟩ := h
      refine go_ifeq (tgt := 57) (show decode cX10_window 40 = .ok (.ifCond .eq 17, 3) by decide +kernel) (by decide) (fun hc => ?_) (fun hc => ?_)
      · have h := ht hc
        refine go_ldc2 (show decode cX10_window 57 = .ok (.ldc2_w 120, 3) by decide +kernel) lc_X10_120 (by decide) ?_
        exact go_lret (show decode cX10_window 60 = .ok (.lreturn, 1) by decide +kernel) rfl h
      · have h := hf hc
        refine go_iload_n (show decode cX10_window 43 = .ok (.iload_n 3, 1) by decide +kernel) (by rfl) ?_
        refine go_i2l (show decode cX10_window 44 = .ok (.i2l, 1) by decide +kernel) ?_
        refine go_lconst (n := 1) (show decode cX10_window 45 = .ok (.lconst 1, 1) by decide +kernel) ?_
        show Go d MX10_window 46 [some (vR 53), some (vI a1), some (vI a2), some (vI a3), some (vI a4), none, none, none, none, none, none, none, none, none, none, none] [vJ 1, vJ a3] S F1 G Q
        refine go_aload_n (show decode cX10_window 46 = .ok (.aload_n 0, 1) by decide +kernel) (by rfl) ?_
        refine go_getI (show decode cX10_window 47 = .ok (.getfield 16, 3) by decide +kernel) fl_X10_16 (Or.inl rfl) (shm_k hsm 53 (by decide) (by decide)) ?_
        refine go_i2l (show decode cX10_window 50 = .ok (.i2l, 1) by decide +kernel) ?_
        obtain ⟨z25, p26, h⟩ := h
        refine go_callS (d2 := d - 1) (M2 := MX10_isIn) (n := 3) (av := [vJ a3, vJ 1, vJ (F1 53 2)]) (st := []) (show decode cX10_window 51 = .ok (.invokestatic 116, 3) by decide +kernel) ml_X10_116 mt_X10_isIn mst_X10_isIn rfl (Nat.le_of_ble_eq_true rfl) (by omega) (ok_mono p26 (fun w21 S22 F23 G24 e9 => ?_))
        obtain ⟨e1, e2, e3, e4⟩ := e9
        subst e1
        replace e2 := e2.symm; subst e2
        replace e3 := e3.symm; subst e3
        replace e4 := e4.symm; subst e4
        show Go d MX10_window 54 [some (vR 53), some (vI a1), some (vI a2), some (vI a3), some (vI a4), none, none, none, none, none, none, none, none, none, none, none] [vI z25] S F1 G Q
        obtain ⟨ht, hf⟩ := h
        refine go_ifne (tgt := 61) (show decode cX10_window 54 = .ok (.ifCond .ne 7, 3) by decide +kernel) (by decide) (fun hc => ?_) (fun hc => ?_)
        · have h := ht hc
          refine go_aload_n (show decode cX10_window 61 = .ok (.aload_n 0, 1) by decide +kernel) (by rfl) ?_
          refine go_iconst (show decode cX10_window 62 = .ok (.iconst 0, 1) by decide +kernel) (by decide) ?_
          refine go_iload_n (show decode cX10_window 63 = .ok (.iload_n 2, 1) by decide +kernel) (by rfl) ?_
          refine go_aload_n (show decode cX10_window 64 = .ok (.aload_n 0, 1) by decide +kernel) (by rfl) ?_
          refine go_getRc (show decode cX10_window 65 = .ok (.getfield 96, 3) by decide +kernel) fl_X10_96 rfl (shm_k hsm 53 (by decide) (by decide)) (v := 75) (shm_r hsm 53 48 (by decide) (by decide)) ?_
          refine go_callV (d2 := d - 1) (M2 := MX10_laysPlaces) (n := 3) (ci := 10) (av := [vI 0, vI a2, vR 75]) (st := []) (show decode cX10_window 68 = .ok (.invokevirtual 453, 3) by decide +kernel) ml_X10_453 mt_X10_laysPlaces min_X10_laysPlaces mse_X10_laysPlaces (by decide) (shm_k hsm 53 (by decide) (by decide)) rfl (Nat.le_of_ble_eq_true rfl) (by omega) (ok_mono h (fun w27 S28 F29 G30 h => ?_))
          obtain ⟨e8, h⟩ := h
          replace e8 := e8.symm; subst e8
          obtain ⟨z31, e9, h⟩ := h
          subst e9
          show Go d MX10_window 71 [some (vR 53), some (vI a1), some (vI a2), some (vI a3), some (vI a4), none, none, none, none, none, none, none, none, none, none, none] [vI z31] S F29 G30 Q
          refine go_istore (show decode cX10_window 71 = .ok (.istore 5, 2) by decide +kernel) (by decide) ?_
          show Go d MX10_window 73 [some (vR 53), some (vI a1), some (vI a2), some (vI a3), some (vI a4), some (vI z31), none, none, none, none, none, none, none, none, none, none] [] S F29 G30 Q
          refine go_aload_n (show decode cX10_window 73 = .ok (.aload_n 0, 1) by decide +kernel) (by rfl) ?_
          refine go_iconst (show decode cX10_window 74 = .ok (.iconst 1, 1) by decide +kernel) (by decide) ?_
          refine go_iload_n (show decode cX10_window 75 = .ok (.iload_n 3, 1) by decide +kernel) (by rfl) ?_
          refine go_aload_n (show decode cX10_window 76 = .ok (.aload_n 0, 1) by decide +kernel) (by rfl) ?_
          refine go_getRc (show decode cX10_window 77 = .ok (.getfield 99, 3) by decide +kernel) fl_X10_99 rfl (shm_k hsm 53 (by decide) (by decide)) (v := 76) (shm_r hsm 53 49 (by decide) (by decide)) ?_
          refine go_callV (d2 := d - 1) (M2 := MX10_laysPlaces) (n := 3) (ci := 10) (av := [vI 1, vI a3, vR 76]) (st := []) (show decode cX10_window 80 = .ok (.invokevirtual 453, 3) by decide +kernel) ml_X10_453 mt_X10_laysPlaces min_X10_laysPlaces mse_X10_laysPlaces (by decide) (shm_k hsm 53 (by decide) (by decide)) rfl (Nat.le_of_ble_eq_true rfl) (by omega) (ok_mono h (fun w32 S33 F34 G35 h => ?_))
          obtain ⟨e8, h⟩ := h
          replace e8 := e8.symm; subst e8
          obtain ⟨z36, e9, h⟩ := h
          subst e9
          show Go d MX10_window 83 [some (vR 53), some (vI a1), some (vI a2), some (vI a3), some (vI a4), some (vI z31), none, none, none, none, none, none, none, none, none, none] [vI z36] S F34 G35 Q
          refine go_istore (show decode cX10_window 83 = .ok (.istore 6, 2) by decide +kernel) (by decide) ?_
          show Go d MX10_window 85 [some (vR 53), some (vI a1), some (vI a2), some (vI a3), some (vI a4), some (vI z31), some (vI z36), none, none, none, none, none, none, none, none, none] [] S F34 G35 Q
          refine go_ldc2 (show decode cX10_window 85 = .ok (.ldc2_w 311, 3) by decide +kernel) lc_X10_311 (by decide) ?_
          refine go_lstore (show decode cX10_window 88 = .ok (.lstore 7, 2) by decide +kernel) (by decide) ?_
          show Go d MX10_window 90 [some (vR 53), some (vI a1), some (vI a2), some (vI a3), some (vI a4), some (vI z31), some (vI z36), some (vJ (-1)), none, none, none, none, none, none, none, none] [] S F34 G35 Q
          refine go_iconst (show decode cX10_window 90 = .ok (.iconst 0, 1) by decide +kernel) (by decide) ?_
          refine go_istore (show decode cX10_window 91 = .ok (.istore 9, 2) by decide +kernel) (by decide) ?_
          show Go d MX10_window 93 [some (vR 53), some (vI a1), some (vI a2), some (vI a3), some (vI a4), some (vI z31), some (vI z36), some (vJ (-1)), none, some (vI 0), none, none, none, none, none, none] [] S F34 G35 Q
          refine go_iconst (show decode cX10_window 93 = .ok (.iconst 0, 1) by decide +kernel) (by decide) ?_
          refine go_istore (show decode cX10_window 94 = .ok (.istore 10, 2) by decide +kernel) (by decide) ?_
          show Go d MX10_window 96 [some (vR 53), some (vI a1), some (vI a2), some (vI a3), some (vI a4), some (vI z31), some (vI z36), some (vJ (-1)), none, some (vI 0), some (vI 0), none, none, none, none, none] [] S F34 G35 Q
          refine go_iconst (show decode cX10_window 96 = .ok (.iconst 0, 1) by decide +kernel) (by decide) ?_
          refine go_istore (show decode cX10_window 97 = .ok (.istore 11, 2) by decide +kernel) (by decide) ?_
          show Go d MX10_window 99 [some (vR 53), some (vI a1), some (vI a2), some (vI a3), some (vI a4), some (vI z31), some (vI z36), some (vJ (-1)), none, some (vI 0), some (vI 0), some (vI 0), none, none, none, none] [] S F34 G35 Q
          exact h
        · have h := hf hc
          refine go_ldc2 (show decode cX10_window 57 = .ok (.ldc2_w 120, 3) by decide +kernel) lc_X10_120 (by decide) ?_
          exact go_lret (show decode cX10_window 60 = .ok (.lreturn, 1) by decide +kernel) rfl h
    · have h := hf hc
      refine go_ldc2 (show decode cX10_window 25 = .ok (.ldc2_w 174, 3) by decide +kernel) lc_X10_174 (by decide) ?_
      exact go_lret (show decode cX10_window 28 = .ok (.lreturn, 1) by decide +kernel) rfl h
def V_X10_laysPlaces_91 (d : Nat) (S : AS) (F : AF) (G : AG) (Q : AQ) (a1 : Int) (a2 : Int) (a3 : Nat) (a4 : Int) (a5 : Int) (a6 : Int) (a7 : Int) (a8 : Int) (a9 : Int) : Prop :=
  (r32 (a8 + 1)) ∧
  Go d MX10_laysPlaces 29 [some (vR 53), some (vI a1), some (vI a2), some (vR a3), some (vI a4), some (vI a5), some (vI a6), some (vI a7), some (vI (a8 + 1)), none] [] S F G Q
theorem R_X10_laysPlaces_91 {d : Nat} {S : AS} {F : AF} {G : AG} {Q : AQ} {a1 : Int} {a2 : Int} {a3 : Nat} {a4 : Int} {a5 : Int} {a6 : Int} {a7 : Int} {a8 : Int} {a9 : Int} (hsm : ShM S) (hk3 : AtI S a3) (h : V_X10_laysPlaces_91 d S F G Q a1 a2 a3 a4 a5 a6 a7 a8 a9) : Go d MX10_laysPlaces 91 [some (vR 53), some (vI a1), some (vI a2), some (vR a3), some (vI a4), some (vI a5), some (vI a6), some (vI a7), some (vI a8), some (vI a9)] [] S F G Q := by
  unfold V_X10_laysPlaces_91 at h
  obtain ⟨q1, h⟩ := h
  refine go_iinc (show decode cX10_laysPlaces 91 = .ok (.iinc 8 1, 3) by decide +kernel) (by rfl) q1 (by decide) ?_
  show Go d MX10_laysPlaces 94 [some (vR 53), some (vI a1), some (vI a2), some (vR a3), some (vI a4), some (vI a5), some (vI a6), some (vI a7), some (vI (a8 + 1)), some (vI a9)] [] S F G Q
  refine go_goto (tgt := 29) (show decode cX10_laysPlaces 94 = .ok (.goto (-65), 3) by decide +kernel) (by decide) ?_
  refine go_clr 9 ?_
  exact h
def V_X10_laysPlaces_67 (d : Nat) (S : AS) (F : AF) (G : AG) (Q : AQ) (a1 : Int) (a2 : Int) (a3 : Nat) (a4 : Int) (a5 : Int) (a6 : Int) (a7 : Int) (a8 : Int) (a9 : Int) : Prop :=
  (r32 (a9 - a2)) ∧
  ((a9 - a2 ≤ a6) →
    V_X10_laysPlaces_91 d S F G Q a1 a2 a3 a4 a5 a6 a7 a8 a9) ∧
  ((¬ a9 - a2 ≤ a6) →
    ((a7 ≤ a9 - a2) →
      V_X10_laysPlaces_91 d S F G Q a1 a2 a3 a4 a5 a6 a7 a8 a9) ∧
    ((¬ a7 ≤ a9 - a2) →
      ∀ x2 : Int, x2 = a9 - a2 →
      V_X10_laysPlaces_91 d S F G Q a1 a2 a3 a4 a5 a6 x2 a8 a9))
theorem R_X10_laysPlaces_67 {d : Nat} {S : AS} {F : AF} {G : AG} {Q : AQ} {a1 : Int} {a2 : Int} {a3 : Nat} {a4 : Int} {a5 : Int} {a6 : Int} {a7 : Int} {a8 : Int} {a9 : Int} (hsm : ShM S) (hk3 : AtI S a3) (h : V_X10_laysPlaces_67 d S F G Q a1 a2 a3 a4 a5 a6 a7 a8 a9) : Go d MX10_laysPlaces 67 [some (vR 53), some (vI a1), some (vI a2), some (vR a3), some (vI a4), some (vI a5), some (vI a6), some (vI a7), some (vI a8), some (vI a9)] [] S F G Q := by
  unfold V_X10_laysPlaces_67 at h
  refine go_iload (show decode cX10_laysPlaces 67 = .ok (.iload 9, 2) by decide +kernel) (by rfl) ?_
  refine go_iload_n (show decode cX10_laysPlaces 69 = .ok (.iload_n 2, 1) by decide +kernel) (by rfl) ?_
  obtain ⟨q1, h⟩ := h
  refine go_isub (show decode cX10_laysPlaces 70 = .ok (.isub, 1) by decide +kernel) q1 ?_
  refine go_iload (show decode cX10_laysPlaces 71 = .ok (.iload 6, 2) by decide +kernel) (by rfl) ?_
  obtain ⟨ht, hf⟩ := h
  refine go_icmple (tgt := 91) (show decode cX10_laysPlaces 73 = .ok (.if_icmp .le 18, 3) by decide +kernel) (by decide) (fun hc => ?_) (fun hc => ?_)
  · have h := ht hc
    exact R_X10_laysPlaces_91 hsm hk3 h
  · have h := hf hc
    refine go_iload (show decode cX10_laysPlaces 76 = .ok (.iload 9, 2) by decide +kernel) (by rfl) ?_
    refine go_iload_n (show decode cX10_laysPlaces 78 = .ok (.iload_n 2, 1) by decide +kernel) (by rfl) ?_
    refine go_isub (show decode cX10_laysPlaces 79 = .ok (.isub, 1) by decide +kernel) q1 ?_
    refine go_iload (show decode cX10_laysPlaces 80 = .ok (.iload 7, 2) by decide +kernel) (by rfl) ?_
    obtain ⟨ht, hf⟩ := h
    refine go_icmpge (tgt := 91) (show decode cX10_laysPlaces 82 = .ok (.if_icmp .ge 9, 3) by decide +kernel) (by decide) (fun hc => ?_) (fun hc => ?_)
    · have h := ht hc
      exact R_X10_laysPlaces_91 hsm hk3 h
    · have h := hf hc
      refine go_iload (show decode cX10_laysPlaces 85 = .ok (.iload 9, 2) by decide +kernel) (by rfl) ?_
      refine go_iload_n (show decode cX10_laysPlaces 87 = .ok (.iload_n 2, 1) by decide +kernel) (by rfl) ?_
      refine go_isub (show decode cX10_laysPlaces 88 = .ok (.isub, 1) by decide +kernel) q1 ?_
      obtain ⟨x2, x2e⟩ : ∃ x2 : Int, x2 = a9 - a2 := ⟨_, rfl⟩
      have h := h x2 x2e
      rw [← x2e]
      refine go_istore (show decode cX10_laysPlaces 89 = .ok (.istore 7, 2) by decide +kernel) (by decide) ?_
      show Go d MX10_laysPlaces 91 [some (vR 53), some (vI a1), some (vI a2), some (vR a3), some (vI a4), some (vI a5), some (vI a6), some (vI x2), some (vI a8), some (vI a9)] [] S F G Q
      exact R_X10_laysPlaces_91 hsm hk3 h
def V_X10_laysPlaces_29 (d : Nat) (S : AS) (F : AF) (G : AG) (Q : AQ) (a1 : Int) (a2 : Int) (a3 : Nat) (a4 : Int) (a5 : Int) (a6 : Int) (a7 : Int) (a8 : Int) : Prop :=
  ((0 : Int) ≤ a1) ∧
  ((a1 : Int) < 2) ∧
  ((G 55 a1 < a8) →
    ((0 : Int) ≤ a5) ∧
    ((a5 : Int) < (sN S a3 : Int)) ∧
    ∀ G5 : AG, G5 = gu G a3 a5 a7 →
    (r32 (a5 + 1)) ∧
    Go d MX10_laysPlaces 15 [some (vR 53), some (vI a1), some (vI a2), some (vR a3), some (vI a4), some (vI (a5 + 1)), some (vI a7), none, none, none] [] S F G5 Q) ∧
  ((¬ G 55 a1 < a8) →
    (1 ≤ d) ∧
    ∃ z12 : Int, Pu (d - 1) MX10_edgeAt [vR 53, vI a1, vI a8] S F G (some (vI z12)) ∧
    ((z12 ≤ a6) →
      V_X10_laysPlaces_67 d S F G Q a1 a2 a3 a4 a5 a6 a7 a8 z12) ∧
    ((¬ z12 ≤ a6) →
      ((a7 ≤ z12) →
        V_X10_laysPlaces_67 d S F G Q a1 a2 a3 a4 a5 a6 a7 a8 z12) ∧
      ((¬ a7 ≤ z12) →
        V_X10_laysPlaces_67 d S F G Q a1 a2 a3 a4 a5 a6 z12 a8 z12)))
theorem R_X10_laysPlaces_29 {d : Nat} {S : AS} {F : AF} {G : AG} {Q : AQ} {a1 : Int} {a2 : Int} {a3 : Nat} {a4 : Int} {a5 : Int} {a6 : Int} {a7 : Int} {a8 : Int} (hsm : ShM S) (hk3 : AtI S a3) (h : V_X10_laysPlaces_29 d S F G Q a1 a2 a3 a4 a5 a6 a7 a8) : Go d MX10_laysPlaces 29 [some (vR 53), some (vI a1), some (vI a2), some (vR a3), some (vI a4), some (vI a5), some (vI a6), some (vI a7), some (vI a8), none] [] S F G Q := by
  unfold V_X10_laysPlaces_29 at h
  refine go_iload (show decode cX10_laysPlaces 29 = .ok (.iload 8, 2) by decide +kernel) (by rfl) ?_
  refine go_aload_n (show decode cX10_laysPlaces 31 = .ok (.aload_n 0, 1) by decide +kernel) (by rfl) ?_
  refine go_getRc (show decode cX10_laysPlaces 32 = .ok (.getfield 29, 3) by decide +kernel) fl_X10_29 rfl (shm_k hsm 53 (by decide) (by decide)) (v := 55) (shm_r hsm 53 5 (by decide) (by decide)) ?_
  refine go_iload_n (show decode cX10_laysPlaces 35 = .ok (.iload_n 1, 1) by decide +kernel) (by rfl) ?_
  obtain ⟨q1, h⟩ := h
  obtain ⟨q2, h⟩ := h
  refine go_iaload (show decode cX10_laysPlaces 36 = .ok (.iaload, 1) by decide +kernel) (shm_k hsm 55 (by decide) (by decide)) q1 (lt_n (m := 2) q2 (shm_n hsm 55 (by decide) (by decide))) ?_
  obtain ⟨ht, hf⟩ := h
  refine go_icmpgt (tgt := 97) (show decode cX10_laysPlaces 37 = .ok (.if_icmp .gt 60, 3) by decide +kernel) (by decide) (fun hc => ?_) (fun hc => ?_)
  · have h := ht hc
    refine go_aload_n (show decode cX10_laysPlaces 97 = .ok (.aload_n 3, 1) by decide +kernel) (by rfl) ?_
    refine go_iload (show decode cX10_laysPlaces 98 = .ok (.iload 5, 2) by decide +kernel) (by rfl) ?_
    refine go_iload (show decode cX10_laysPlaces 100 = .ok (.iload 7, 2) by decide +kernel) (by rfl) ?_
    obtain ⟨q3, h⟩ := h
    obtain ⟨q4, h⟩ := h
    refine go_iastore (show decode cX10_laysPlaces 102 = .ok (.iastore, 1) by decide +kernel) hk3 q3 q4  ?_
    obtain ⟨G5, G5e⟩ : ∃ G5 : AG, G5 = gu G a3 a5 a7 := ⟨_, rfl⟩
    have h := h G5 G5e
    rw [← G5e]
    obtain ⟨q6, h⟩ := h
    refine go_iinc (show decode cX10_laysPlaces 103 = .ok (.iinc 5 1, 3) by decide +kernel) (by rfl) q6 (by decide) ?_
    show Go d MX10_laysPlaces 106 [some (vR 53), some (vI a1), some (vI a2), some (vR a3), some (vI a4), some (vI (a5 + 1)), some (vI a6), some (vI a7), some (vI a8), none] [] S F G5 Q
    refine go_iload (show decode cX10_laysPlaces 106 = .ok (.iload 7, 2) by decide +kernel) (by rfl) ?_
    refine go_istore (show decode cX10_laysPlaces 108 = .ok (.istore 6, 2) by decide +kernel) (by decide) ?_
    show Go d MX10_laysPlaces 110 [some (vR 53), some (vI a1), some (vI a2), some (vR a3), some (vI a4), some (vI (a5 + 1)), some (vI a7), some (vI a7), some (vI a8), none] [] S F G5 Q
    refine go_goto (tgt := 15) (show decode cX10_laysPlaces 110 = .ok (.goto (-95), 3) by decide +kernel) (by decide) ?_
    refine go_clr 7 ?_
    refine go_clr 8 ?_
    exact h
  · have h := hf hc
    refine go_aload_n (show decode cX10_laysPlaces 40 = .ok (.aload_n 0, 1) by decide +kernel) (by rfl) ?_
    refine go_iload_n (show decode cX10_laysPlaces 41 = .ok (.iload_n 1, 1) by decide +kernel) (by rfl) ?_
    refine go_iload (show decode cX10_laysPlaces 42 = .ok (.iload 8, 2) by decide +kernel) (by rfl) ?_
    obtain ⟨q7, h⟩ := h
    obtain ⟨z12, p13, h⟩ := h
    refine go_callV (d2 := d - 1) (M2 := MX10_edgeAt) (n := 2) (ci := 10) (av := [vI a1, vI a8]) (st := []) (show decode cX10_laysPlaces 44 = .ok (.invokevirtual 126, 3) by decide +kernel) ml_X10_126 mt_X10_edgeAt min_X10_edgeAt mse_X10_edgeAt (by decide) (shm_k hsm 53 (by decide) (by decide)) rfl (Nat.le_of_ble_eq_true rfl) (by omega) (ok_mono p13 (fun w8 S9 F10 G11 e9 => ?_))
    obtain ⟨e1, e2, e3, e4⟩ := e9
    subst e1
    replace e2 := e2.symm; subst e2
    replace e3 := e3.symm; subst e3
    replace e4 := e4.symm; subst e4
    show Go d MX10_laysPlaces 47 [some (vR 53), some (vI a1), some (vI a2), some (vR a3), some (vI a4), some (vI a5), some (vI a6), some (vI a7), some (vI a8), none] [vI z12] S F G Q
    refine go_istore (show decode cX10_laysPlaces 47 = .ok (.istore 9, 2) by decide +kernel) (by decide) ?_
    show Go d MX10_laysPlaces 49 [some (vR 53), some (vI a1), some (vI a2), some (vR a3), some (vI a4), some (vI a5), some (vI a6), some (vI a7), some (vI a8), some (vI z12)] [] S F G Q
    refine go_iload (show decode cX10_laysPlaces 49 = .ok (.iload 9, 2) by decide +kernel) (by rfl) ?_
    refine go_iload (show decode cX10_laysPlaces 51 = .ok (.iload 6, 2) by decide +kernel) (by rfl) ?_
    obtain ⟨ht, hf⟩ := h
    refine go_icmple (tgt := 67) (show decode cX10_laysPlaces 53 = .ok (.if_icmp .le 14, 3) by decide +kernel) (by decide) (fun hc => ?_) (fun hc => ?_)
    · have h := ht hc
      exact R_X10_laysPlaces_67 hsm hk3 h
    · have h := hf hc
      refine go_iload (show decode cX10_laysPlaces 56 = .ok (.iload 9, 2) by decide +kernel) (by rfl) ?_
      refine go_iload (show decode cX10_laysPlaces 58 = .ok (.iload 7, 2) by decide +kernel) (by rfl) ?_
      obtain ⟨ht, hf⟩ := h
      refine go_icmpge (tgt := 67) (show decode cX10_laysPlaces 60 = .ok (.if_icmp .ge 7, 3) by decide +kernel) (by decide) (fun hc => ?_) (fun hc => ?_)
      · have h := ht hc
        exact R_X10_laysPlaces_67 hsm hk3 h
      · have h := hf hc
        refine go_iload (show decode cX10_laysPlaces 63 = .ok (.iload 9, 2) by decide +kernel) (by rfl) ?_
        refine go_istore (show decode cX10_laysPlaces 65 = .ok (.istore 7, 2) by decide +kernel) (by decide) ?_
        show Go d MX10_laysPlaces 67 [some (vR 53), some (vI a1), some (vI a2), some (vR a3), some (vI a4), some (vI a5), some (vI a6), some (vI z12), some (vI a8), some (vI z12)] [] S F G Q
        exact R_X10_laysPlaces_67 hsm hk3 h
def V_X10_laysPlaces_15 (d : Nat) (S : AS) (F : AF) (G : AG) (Q : AQ) (a1 : Int) (a2 : Int) (a3 : Nat) (a4 : Int) (a5 : Int) (a6 : Int) : Prop :=
  ((a4 ≤ a6) →
    Q (some (vI a5)) S F G) ∧
  ((¬ a4 ≤ a6) →
    Go d MX10_laysPlaces 29 [some (vR 53), some (vI a1), some (vI a2), some (vR a3), some (vI a4), some (vI a5), some (vI a6), some (vI a4), some (vI 0), none] [] S F G Q)
theorem R_X10_laysPlaces_15 {d : Nat} {S : AS} {F : AF} {G : AG} {Q : AQ} {a1 : Int} {a2 : Int} {a3 : Nat} {a4 : Int} {a5 : Int} {a6 : Int} (hsm : ShM S) (hk3 : AtI S a3) (h : V_X10_laysPlaces_15 d S F G Q a1 a2 a3 a4 a5 a6) : Go d MX10_laysPlaces 15 [some (vR 53), some (vI a1), some (vI a2), some (vR a3), some (vI a4), some (vI a5), some (vI a6), none, none, none] [] S F G Q := by
  unfold V_X10_laysPlaces_15 at h
  refine go_iload (show decode cX10_laysPlaces 15 = .ok (.iload 6, 2) by decide +kernel) (by rfl) ?_
  refine go_iload (show decode cX10_laysPlaces 17 = .ok (.iload 4, 2) by decide +kernel) (by rfl) ?_
  obtain ⟨ht, hf⟩ := h
  refine go_icmpge (tgt := 113) (show decode cX10_laysPlaces 19 = .ok (.if_icmp .ge 94, 3) by decide +kernel) (by decide) (fun hc => ?_) (fun hc => ?_)
  · have h := ht hc
    refine go_iload (show decode cX10_laysPlaces 113 = .ok (.iload 5, 2) by decide +kernel) (by rfl) ?_
    exact go_iret (show decode cX10_laysPlaces 115 = .ok (.ireturn, 1) by decide +kernel) rfl h
  · have h := hf hc
    refine go_iload (show decode cX10_laysPlaces 22 = .ok (.iload 4, 2) by decide +kernel) (by rfl) ?_
    refine go_istore (show decode cX10_laysPlaces 24 = .ok (.istore 7, 2) by decide +kernel) (by decide) ?_
    show Go d MX10_laysPlaces 26 [some (vR 53), some (vI a1), some (vI a2), some (vR a3), some (vI a4), some (vI a5), some (vI a6), some (vI a4), none, none] [] S F G Q
    refine go_iconst (show decode cX10_laysPlaces 26 = .ok (.iconst 0, 1) by decide +kernel) (by decide) ?_
    refine go_istore (show decode cX10_laysPlaces 27 = .ok (.istore 8, 2) by decide +kernel) (by decide) ?_
    show Go d MX10_laysPlaces 29 [some (vR 53), some (vI a1), some (vI a2), some (vR a3), some (vI a4), some (vI a5), some (vI a6), some (vI a4), some (vI 0), none] [] S F G Q
    exact h
def V_X10_laysPlaces_0 (d : Nat) (S : AS) (F : AF) (G : AG) (Q : AQ) (a1 : Int) (a2 : Int) (a3 : Nat) : Prop :=
  (1 ≤ d) ∧
  ∃ z6 : Int, Pu (d - 1) MX10_sizeOf [vR 53, vI a1] S F G (some (vI z6)) ∧
  (r32 (z6 - a2)) ∧
  ∀ x9 : Int, x9 = z6 - a2 →
  Go d MX10_laysPlaces 15 [some (vR 53), some (vI a1), some (vI a2), some (vR a3), some (vI x9), some (vI 0), some (vI (-1)), none, none, none] [] S F G Q
theorem R_X10_laysPlaces_0 {d : Nat} {S : AS} {F : AF} {G : AG} {Q : AQ} {a1 : Int} {a2 : Int} {a3 : Nat} (hsm : ShM S) (hk3 : AtI S a3) (h : V_X10_laysPlaces_0 d S F G Q a1 a2 a3) : Go d MX10_laysPlaces 0 [some (vR 53), some (vI a1), some (vI a2), some (vR a3), none, none, none, none, none, none] [] S F G Q := by
  unfold V_X10_laysPlaces_0 at h
  refine go_aload_n (show decode cX10_laysPlaces 0 = .ok (.aload_n 0, 1) by decide +kernel) (by rfl) ?_
  refine go_iload_n (show decode cX10_laysPlaces 1 = .ok (.iload_n 1, 1) by decide +kernel) (by rfl) ?_
  obtain ⟨q1, h⟩ := h
  obtain ⟨z6, p7, h⟩ := h
  refine go_callV (d2 := d - 1) (M2 := MX10_sizeOf) (n := 1) (ci := 10) (av := [vI a1]) (st := []) (show decode cX10_laysPlaces 2 = .ok (.invokevirtual 122, 3) by decide +kernel) ml_X10_122 mt_X10_sizeOf min_X10_sizeOf mse_X10_sizeOf (by decide) (shm_k hsm 53 (by decide) (by decide)) rfl (Nat.le_of_ble_eq_true rfl) (by omega) (ok_mono p7 (fun w2 S3 F4 G5 e9 => ?_))
  obtain ⟨e1, e2, e3, e4⟩ := e9
  subst e1
  replace e2 := e2.symm; subst e2
  replace e3 := e3.symm; subst e3
  replace e4 := e4.symm; subst e4
  show Go d MX10_laysPlaces 5 [some (vR 53), some (vI a1), some (vI a2), some (vR a3), none, none, none, none, none, none] [vI z6] S F G Q
  refine go_iload_n (show decode cX10_laysPlaces 5 = .ok (.iload_n 2, 1) by decide +kernel) (by rfl) ?_
  obtain ⟨q8, h⟩ := h
  refine go_isub (show decode cX10_laysPlaces 6 = .ok (.isub, 1) by decide +kernel) q8 ?_
  obtain ⟨x9, x9e⟩ : ∃ x9 : Int, x9 = z6 - a2 := ⟨_, rfl⟩
  have h := h x9 x9e
  rw [← x9e]
  refine go_istore (show decode cX10_laysPlaces 7 = .ok (.istore 4, 2) by decide +kernel) (by decide) ?_
  show Go d MX10_laysPlaces 9 [some (vR 53), some (vI a1), some (vI a2), some (vR a3), some (vI x9), none, none, none, none, none] [] S F G Q
  refine go_iconst (show decode cX10_laysPlaces 9 = .ok (.iconst 0, 1) by decide +kernel) (by decide) ?_
  refine go_istore (show decode cX10_laysPlaces 10 = .ok (.istore 5, 2) by decide +kernel) (by decide) ?_
  show Go d MX10_laysPlaces 12 [some (vR 53), some (vI a1), some (vI a2), some (vR a3), some (vI x9), some (vI 0), none, none, none, none] [] S F G Q
  refine go_iconst (show decode cX10_laysPlaces 12 = .ok (.iconst (-1), 1) by decide +kernel) (by decide) ?_
  refine go_istore (show decode cX10_laysPlaces 13 = .ok (.istore 6, 2) by decide +kernel) (by decide) ?_
  show Go d MX10_laysPlaces 15 [some (vR 53), some (vI a1), some (vI a2), some (vR a3), some (vI x9), some (vI 0), some (vI (-1)), none, none, none] [] S F G Q
  exact h
def V_X10_line_92 (d : Nat) (S : AS) (F : AF) (G : AG) (Q : AQ) (a1 : Int) (a2 : Int) (a3 : Int) (a4 : Int) (a6 : Int) (a7 : Int) (a8 : Int) : Prop :=
  (r32 (a7 + 1)) ∧
  Go d MX10_line 47 [some (vR 53), some (vI a1), some (vI a2), some (vI a3), some (vJ a4), none, some (vI a6), some (vI (a7 + 1)), none, none] [] S F G Q
theorem R_X10_line_92 {d : Nat} {S : AS} {F : AF} {G : AG} {Q : AQ} {a1 : Int} {a2 : Int} {a3 : Int} {a4 : Int} {a6 : Int} {a7 : Int} {a8 : Int} (hsm : ShM S) (h : V_X10_line_92 d S F G Q a1 a2 a3 a4 a6 a7 a8) : Go d MX10_line 92 [some (vR 53), some (vI a1), some (vI a2), some (vI a3), some (vJ a4), none, some (vI a6), some (vI a7), some (vJ a8), none] [] S F G Q := by
  unfold V_X10_line_92 at h
  obtain ⟨q1, h⟩ := h
  refine go_iinc (show decode cX10_line 92 = .ok (.iinc 7 1, 3) by decide +kernel) (by rfl) q1 (by decide) ?_
  show Go d MX10_line 95 [some (vR 53), some (vI a1), some (vI a2), some (vI a3), some (vJ a4), none, some (vI a6), some (vI (a7 + 1)), some (vJ a8), none] [] S F G Q
  refine go_goto (tgt := 47) (show decode cX10_line 95 = .ok (.goto (-48), 3) by decide +kernel) (by decide) ?_
  refine go_clr 8 ?_
  exact h
def V_X10_line_47 (d : Nat) (S : AS) (F : AF) (G : AG) (Q : AQ) (a1 : Int) (a2 : Int) (a3 : Int) (a4 : Int) (a6 : Int) (a7 : Int) : Prop :=
  ((0 : Int) ≤ a2) ∧
  ((a2 : Int) < 2) ∧
  ((G 55 a2 ≤ a7) →
    ((¬ a3 = 0) →
      Q (some (vJ a4)) S F G) ∧
    ((a3 = 0) →
      Q (some (vJ a6)) S F G)) ∧
  ((¬ G 55 a2 ≤ a7) →
    (1 ≤ d) ∧
    ∃ z8 : Int, Pu (d - 1) MX10_lineOf [vR 53, vI a1, vI a2, vI a7] S F G (some (vJ z8)) ∧
    ((a4 < z8) →
      ∃ z14 : Int, Pu (d - 1) MX10_edgeAt [vR 53, vI a2, vI a7] S F G (some (vI z14)) ∧
      V_X10_line_92 d S F G Q a1 a2 a3 z8 z14 a7 z8) ∧
    ((¬ a4 < z8) →
      V_X10_line_92 d S F G Q a1 a2 a3 a4 a6 a7 z8))
theorem R_X10_line_47 {d : Nat} {S : AS} {F : AF} {G : AG} {Q : AQ} {a1 : Int} {a2 : Int} {a3 : Int} {a4 : Int} {a6 : Int} {a7 : Int} (hsm : ShM S) (h : V_X10_line_47 d S F G Q a1 a2 a3 a4 a6 a7) : Go d MX10_line 47 [some (vR 53), some (vI a1), some (vI a2), some (vI a3), some (vJ a4), none, some (vI a6), some (vI a7), none, none] [] S F G Q := by
  unfold V_X10_line_47 at h
  refine go_iload (show decode cX10_line 47 = .ok (.iload 7, 2) by decide +kernel) (by rfl) ?_
  refine go_aload_n (show decode cX10_line 49 = .ok (.aload_n 0, 1) by decide +kernel) (by rfl) ?_
  refine go_getRc (show decode cX10_line 50 = .ok (.getfield 29, 3) by decide +kernel) fl_X10_29 rfl (shm_k hsm 53 (by decide) (by decide)) (v := 55) (shm_r hsm 53 5 (by decide) (by decide)) ?_
  refine go_iload_n (show decode cX10_line 53 = .ok (.iload_n 2, 1) by decide +kernel) (by rfl) ?_
  obtain ⟨q1, h⟩ := h
  obtain ⟨q2, h⟩ := h
  refine go_iaload (show decode cX10_line 54 = .ok (.iaload, 1) by decide +kernel) (shm_k hsm 55 (by decide) (by decide)) q1 (lt_n (m := 2) q2 (shm_n hsm 55 (by decide) (by decide))) ?_
  obtain ⟨ht, hf⟩ := h
  refine go_icmpge (tgt := 98) (show decode cX10_line 55 = .ok (.if_icmp .ge 43, 3) by decide +kernel) (by decide) (fun hc => ?_) (fun hc => ?_)
  · have h := ht hc
    refine go_iload_n (show decode cX10_line 98 = .ok (.iload_n 3, 1) by decide +kernel) (by rfl) ?_
    obtain ⟨ht, hf⟩ := h
    refine go_ifne (tgt := 108) (show decode cX10_line 99 = .ok (.ifCond .ne 9, 3) by decide +kernel) (by decide) (fun hc => ?_) (fun hc => ?_)
    · have h := ht hc
      refine go_lload (show decode cX10_line 108 = .ok (.lload 4, 2) by decide +kernel) (by rfl) ?_
      exact go_lret (show decode cX10_line 110 = .ok (.lreturn, 1) by decide +kernel) rfl h
    · have h := hf hc
      refine go_iload (show decode cX10_line 102 = .ok (.iload 6, 2) by decide +kernel) (by rfl) ?_
      refine go_i2l (show decode cX10_line 104 = .ok (.i2l, 1) by decide +kernel) ?_
      refine go_goto (tgt := 110) (show decode cX10_line 105 = .ok (.goto 5, 3) by decide +kernel) (by decide) ?_
      exact go_lret (show decode cX10_line 110 = .ok (.lreturn, 1) by decide +kernel) rfl h
  · have h := hf hc
    refine go_aload_n (show decode cX10_line 58 = .ok (.aload_n 0, 1) by decide +kernel) (by rfl) ?_
    refine go_iload_n (show decode cX10_line 59 = .ok (.iload_n 1, 1) by decide +kernel) (by rfl) ?_
    refine go_iload_n (show decode cX10_line 60 = .ok (.iload_n 2, 1) by decide +kernel) (by rfl) ?_
    refine go_iload (show decode cX10_line 61 = .ok (.iload 7, 2) by decide +kernel) (by rfl) ?_
    obtain ⟨q3, h⟩ := h
    obtain ⟨z8, p9, h⟩ := h
    refine go_callV (d2 := d - 1) (M2 := MX10_lineOf) (n := 3) (ci := 10) (av := [vI a1, vI a2, vI a7]) (st := []) (show decode cX10_line 63 = .ok (.invokevirtual 441, 3) by decide +kernel) ml_X10_441 mt_X10_lineOf min_X10_lineOf mse_X10_lineOf (by decide) (shm_k hsm 53 (by decide) (by decide)) rfl (Nat.le_of_ble_eq_true rfl) (by omega) (ok_mono p9 (fun w4 S5 F6 G7 e9 => ?_))
    obtain ⟨e1, e2, e3, e4⟩ := e9
    subst e1
    replace e2 := e2.symm; subst e2
    replace e3 := e3.symm; subst e3
    replace e4 := e4.symm; subst e4
    show Go d MX10_line 66 [some (vR 53), some (vI a1), some (vI a2), some (vI a3), some (vJ a4), none, some (vI a6), some (vI a7), none, none] [vJ z8] S F G Q
    refine go_lstore (show decode cX10_line 66 = .ok (.lstore 8, 2) by decide +kernel) (by decide) ?_
    show Go d MX10_line 68 [some (vR 53), some (vI a1), some (vI a2), some (vI a3), some (vJ a4), none, some (vI a6), some (vI a7), some (vJ z8), none] [] S F G Q
    refine go_lload (show decode cX10_line 68 = .ok (.lload 8, 2) by decide +kernel) (by rfl) ?_
    refine go_lload (show decode cX10_line 70 = .ok (.lload 4, 2) by decide +kernel) (by rfl) ?_
    obtain ⟨ht, hf⟩ := h
    refine go_jgt (tgt := 79) (show decode cX10_line 72 = .ok (.lcmp, 1) by decide +kernel) (show decode cX10_line 73 = .ok (.ifCond .gt 6, 3) by decide +kernel) (by decide) (fun hc => ?_) (fun hc => ?_)
    · have h := ht hc
      refine go_lload (show decode cX10_line 79 = .ok (.lload 8, 2) by decide +kernel) (by rfl) ?_
      refine go_lstore (show decode cX10_line 81 = .ok (.lstore 4, 2) by decide +kernel) (by decide) ?_
      show Go d MX10_line 83 [some (vR 53), some (vI a1), some (vI a2), some (vI a3), some (vJ z8), none, some (vI a6), some (vI a7), some (vJ z8), none] [] S F G Q
      refine go_aload_n (show decode cX10_line 83 = .ok (.aload_n 0, 1) by decide +kernel) (by rfl) ?_
      refine go_iload_n (show decode cX10_line 84 = .ok (.iload_n 2, 1) by decide +kernel) (by rfl) ?_
      refine go_iload (show decode cX10_line 85 = .ok (.iload 7, 2) by decide +kernel) (by rfl) ?_
      obtain ⟨z14, p15, h⟩ := h
      refine go_callV (d2 := d - 1) (M2 := MX10_edgeAt) (n := 2) (ci := 10) (av := [vI a2, vI a7]) (st := []) (show decode cX10_line 87 = .ok (.invokevirtual 126, 3) by decide +kernel) ml_X10_126 mt_X10_edgeAt min_X10_edgeAt mse_X10_edgeAt (by decide) (shm_k hsm 53 (by decide) (by decide)) rfl (Nat.le_of_ble_eq_true rfl) (by omega) (ok_mono p15 (fun w10 S11 F12 G13 e9 => ?_))
      obtain ⟨e1, e2, e3, e4⟩ := e9
      subst e1
      replace e2 := e2.symm; subst e2
      replace e3 := e3.symm; subst e3
      replace e4 := e4.symm; subst e4
      show Go d MX10_line 90 [some (vR 53), some (vI a1), some (vI a2), some (vI a3), some (vJ z8), none, some (vI a6), some (vI a7), some (vJ z8), none] [vI z14] S F G Q
      refine go_istore (show decode cX10_line 90 = .ok (.istore 6, 2) by decide +kernel) (by decide) ?_
      show Go d MX10_line 92 [some (vR 53), some (vI a1), some (vI a2), some (vI a3), some (vJ z8), none, some (vI z14), some (vI a7), some (vJ z8), none] [] S F G Q
      exact R_X10_line_92 hsm h
    · have h := hf hc
      refine go_goto (tgt := 92) (show decode cX10_line 76 = .ok (.goto 16, 3) by decide +kernel) (by decide) ?_
      exact R_X10_line_92 hsm h
def V_X10_line_0 (d : Nat) (S : AS) (F : AF) (G : AG) (Q : AQ) (a1 : Int) (a2 : Int) (a3 : Int) : Prop :=
  ∀ F1 : AF, F1 = fu F 53 0 0 →
  (1 ≤ d) ∧
  ∃ z7 : Int, Pu (d - 1) MX10_isGood [vI a1] S F1 G (some (vI z7)) ∧
  ((z7 = 0) →
    Q (some (vJ (-2))) S F1 G) ∧
  ((¬ z7 = 0) →
    ∃ z13 : Int, Pu (d - 1) MX10_isIn [vJ a2, vJ 0, vJ 1] S F1 G (some (vI z13)) ∧
    ((z13 = 0) →
      Q (some (vJ (-2))) S F1 G) ∧
    ((¬ z13 = 0) →
      ∃ z19 : Int, Pu (d - 1) MX10_isIn [vJ a3, vJ 0, vJ 1] S F1 G (some (vI z19)) ∧
      ((¬ z19 = 0) →
        Go d MX10_line 47 [some (vR 53), some (vI a1), some (vI a2), some (vI a3), some (vJ (-1)), none, some (vI 0), some (vI 0), none, none] [] S F1 G Q) ∧
      ((z19 = 0) →
        Q (some (vJ (-2))) S F1 G)))
theorem R_X10_line_0 {d : Nat} {S : AS} {F : AF} {G : AG} {Q : AQ} {a1 : Int} {a2 : Int} {a3 : Int} (hsm : ShM S) (h : V_X10_line_0 d S F G Q a1 a2 a3) : Go d MX10_line 0 [some (vR 53), some (vI a1), some (vI a2), some (vI a3), none, none, none, none, none, none] [] S F G Q := by
  unfold V_X10_line_0 at h
  refine go_aload_n (show decode cX10_line 0 = .ok (.aload_n 0, 1) by decide +kernel) (by rfl) ?_
  refine go_iconst (show decode cX10_line 1 = .ok (.iconst 0, 1) by decide +kernel) (by decide) ?_
  refine go_putI (show decode cX10_line 2 = .ok (.putfield 1, 3) by decide +kernel) fl_X10_1 rfl (Or.inl rfl) (shm_k hsm 53 (by decide) (by decide)) ?_
  obtain ⟨F1, F1e⟩ : ∃ F1 : AF, F1 = fu F 53 0 0 := ⟨_, rfl⟩
  have h := h F1 F1e
  rw [← F1e]
  refine go_iload_n (show decode cX10_line 5 = .ok (.iload_n 1, 1) by decide +kernel) (by rfl) ?_
  obtain ⟨q2, h⟩ := h
  obtain ⟨z7, p8, h⟩ := h
  refine go_callS (d2 := d - 1) (M2 := MX10_isGood) (n := 1) (av := [vI a1]) (st := []) (show decode cX10_line 6 = .ok (.invokestatic 167, 3) by decide +kernel) ml_X10_167 mt_X10_isGood mst_X10_isGood rfl (Nat.le_of_ble_eq_true rfl) (by omega) (ok_mono p8 (fun w3 S4 F5 G6 e9 => ?_))
  obtain ⟨e1, e2, e3, e4⟩ := e9
  subst e1
  replace e2 := e2.symm; subst e2
  replace e3 := e3.symm; subst e3
  replace e4 := e4.symm; subst e4
  show Go d MX10_line 9 [some (vR 53), some (vI a1), some (vI a2), some (vI a3), none, none, none, none, none, none] [vI z7] S F1 G Q
  obtain ⟨ht, hf⟩ := h
  refine go_ifeq (tgt := 32) (show decode cX10_line 9 = .ok (.ifCond .eq 23, 3) by decide +kernel) (by decide) (fun hc => ?_) (fun hc => ?_)
  · have h := ht hc
    refine go_ldc2 (show decode cX10_line 32 = .ok (.ldc2_w 174, 3) by decide +kernel) lc_X10_174 (by decide) ?_
    exact go_lret (show decode cX10_line 35 = .ok (.lreturn, 1) by decide +kernel) rfl h
  · have h := hf hc
    refine go_iload_n (show decode cX10_line 12 = .ok (.iload_n 2, 1) by decide +kernel) (by rfl) ?_
    refine go_i2l (show decode cX10_line 13 = .ok (.i2l, 1) by decide +kernel) ?_
    refine go_lconst (n := 0) (show decode cX10_line 14 = .ok (.lconst 0, 1) by decide +kernel) ?_
    show Go d MX10_line 15 [some (vR 53), some (vI a1), some (vI a2), some (vI a3), none, none, none, none, none, none] [vJ 0, vJ a2] S F1 G Q
    refine go_lconst (n := 1) (show decode cX10_line 15 = .ok (.lconst 1, 1) by decide +kernel) ?_
    show Go d MX10_line 16 [some (vR 53), some (vI a1), some (vI a2), some (vI a3), none, none, none, none, none, none] [vJ 1, vJ 0, vJ a2] S F1 G Q
    obtain ⟨z13, p14, h⟩ := h
    refine go_callS (d2 := d - 1) (M2 := MX10_isIn) (n := 3) (av := [vJ a2, vJ 0, vJ 1]) (st := []) (show decode cX10_line 16 = .ok (.invokestatic 116, 3) by decide +kernel) ml_X10_116 mt_X10_isIn mst_X10_isIn rfl (Nat.le_of_ble_eq_true rfl) (by omega) (ok_mono p14 (fun w9 S10 F11 G12 e9 => ?_))
    obtain ⟨e1, e2, e3, e4⟩ := e9
    subst e1
    replace e2 := e2.symm; subst e2
    replace e3 := e3.symm; subst e3
    replace e4 := e4.symm; subst e4
    show Go d MX10_line 19 [some (vR 53), some (vI a1), some (vI a2), some (vI a3), none, none, none, none, none, none] [vI z13] S F1 G Q
    obtain ⟨ht, hf⟩ := h
    refine go_ifeq (tgt := 32) (show decode cX10_line 19 = .ok (.ifCond .eq 13, 3) by decide +kernel) (by decide) (fun hc => ?_) (fun hc => ?_)
    · have h := ht hc
      refine go_ldc2 (show decode cX10_line 32 = .ok (.ldc2_w 174, 3) by decide +kernel) lc_X10_174 (by decide) ?_
      exact go_lret (show decode cX10_line 35 = .ok (.lreturn, 1) by decide +kernel) rfl h
    · have h := hf hc
      refine go_iload_n (show decode cX10_line 22 = .ok (.iload_n 3, 1) by decide +kernel) (by rfl) ?_
      refine go_i2l (show decode cX10_line 23 = .ok (.i2l, 1) by decide +kernel) ?_
      refine go_lconst (n := 0) (show decode cX10_line 24 = .ok (.lconst 0, 1) by decide +kernel) ?_
      show Go d MX10_line 25 [some (vR 53), some (vI a1), some (vI a2), some (vI a3), none, none, none, none, none, none] [vJ 0, vJ a3] S F1 G Q
      refine go_lconst (n := 1) (show decode cX10_line 25 = .ok (.lconst 1, 1) by decide +kernel) ?_
      show Go d MX10_line 26 [some (vR 53), some (vI a1), some (vI a2), some (vI a3), none, none, none, none, none, none] [vJ 1, vJ 0, vJ a3] S F1 G Q
      obtain ⟨z19, p20, h⟩ := h
      refine go_callS (d2 := d - 1) (M2 := MX10_isIn) (n := 3) (av := [vJ a3, vJ 0, vJ 1]) (st := []) (show decode cX10_line 26 = .ok (.invokestatic 116, 3) by decide +kernel) ml_X10_116 mt_X10_isIn mst_X10_isIn rfl (Nat.le_of_ble_eq_true rfl) (by omega) (ok_mono p20 (fun w15 S16 F17 G18 e9 => ?_))
      obtain ⟨e1, e2, e3, e4⟩ := e9
      subst e1
      replace e2 := e2.symm; subst e2
      replace e3 := e3.symm; subst e3
      replace e4 := e4.symm; subst e4
      show Go d MX10_line 29 [some (vR 53), some (vI a1), some (vI a2), some (vI a3), none, none, none, none, none, none] [vI z19] S F1 G Q
      obtain ⟨ht, hf⟩ := h
      refine go_ifne (tgt := 36) (show decode cX10_line 29 = .ok (.ifCond .ne 7, 3) by decide +kernel) (by decide) (fun hc => ?_) (fun hc => ?_)
      · have h := ht hc
        refine go_ldc2 (show decode cX10_line 36 = .ok (.ldc2_w 311, 3) by decide +kernel) lc_X10_311 (by decide) ?_
        refine go_lstore (show decode cX10_line 39 = .ok (.lstore 4, 2) by decide +kernel) (by decide) ?_
        show Go d MX10_line 41 [some (vR 53), some (vI a1), some (vI a2), some (vI a3), some (vJ (-1)), none, none, none, none, none] [] S F1 G Q
        refine go_iconst (show decode cX10_line 41 = .ok (.iconst 0, 1) by decide +kernel) (by decide) ?_
        refine go_istore (show decode cX10_line 42 = .ok (.istore 6, 2) by decide +kernel) (by decide) ?_
        show Go d MX10_line 44 [some (vR 53), some (vI a1), some (vI a2), some (vI a3), some (vJ (-1)), none, some (vI 0), none, none, none] [] S F1 G Q
        refine go_iconst (show decode cX10_line 44 = .ok (.iconst 0, 1) by decide +kernel) (by decide) ?_
        refine go_istore (show decode cX10_line 45 = .ok (.istore 7, 2) by decide +kernel) (by decide) ?_
        show Go d MX10_line 47 [some (vR 53), some (vI a1), some (vI a2), some (vI a3), some (vJ (-1)), none, some (vI 0), some (vI 0), none, none] [] S F1 G Q
        exact h
      · have h := hf hc
        refine go_ldc2 (show decode cX10_line 32 = .ok (.ldc2_w 174, 3) by decide +kernel) lc_X10_174 (by decide) ?_
        exact go_lret (show decode cX10_line 35 = .ok (.lreturn, 1) by decide +kernel) rfl h
def V_X10_borders_0 (d : Nat) (S : AS) (F : AF) (G : AG) (Q : AQ) (a1 : Int) (a2 : Int) : Prop :=
  ∀ F1 : AF, F1 = fu F 53 0 0 →
  (1 ≤ d) ∧
  ∃ z7 : Int, Pu (d - 1) MX10_isIn [vJ a1, vJ 0, vJ 1] S F1 G (some (vI z7)) ∧
  ((z7 = 0) →
    Q (some (vI (-2))) S F1 G) ∧
  ((¬ z7 = 0) →
    ∃ z13 : Int, Pu (d - 1) MX10_isIn [vJ a2, vJ 0, vJ 1] S F1 G (some (vI z13)) ∧
    ((¬ z13 = 0) →
      ((¬ a2 = 0) →
        ((0 : Int) ≤ a1) ∧
        ((a1 : Int) < 2) ∧
        Q (some (vI (G 56 a1))) S F1 G) ∧
      ((a2 = 0) →
        ((0 : Int) ≤ a1) ∧
        ((a1 : Int) < 2) ∧
        Q (some (vI (G 55 a1))) S F1 G)) ∧
    ((z13 = 0) →
      Q (some (vI (-2))) S F1 G))
theorem R_X10_borders_0 {d : Nat} {S : AS} {F : AF} {G : AG} {Q : AQ} {a1 : Int} {a2 : Int} (hsm : ShM S) (h : V_X10_borders_0 d S F G Q a1 a2) : Go d MX10_borders 0 [some (vR 53), some (vI a1), some (vI a2)] [] S F G Q := by
  unfold V_X10_borders_0 at h
  refine go_aload_n (show decode cX10_borders 0 = .ok (.aload_n 0, 1) by decide +kernel) (by rfl) ?_
  refine go_iconst (show decode cX10_borders 1 = .ok (.iconst 0, 1) by decide +kernel) (by decide) ?_
  refine go_putI (show decode cX10_borders 2 = .ok (.putfield 1, 3) by decide +kernel) fl_X10_1 rfl (Or.inl rfl) (shm_k hsm 53 (by decide) (by decide)) ?_
  obtain ⟨F1, F1e⟩ : ∃ F1 : AF, F1 = fu F 53 0 0 := ⟨_, rfl⟩
  have h := h F1 F1e
  rw [← F1e]
  refine go_iload_n (show decode cX10_borders 5 = .ok (.iload_n 1, 1) by decide +kernel) (by rfl) ?_
  refine go_i2l (show decode cX10_borders 6 = .ok (.i2l, 1) by decide +kernel) ?_
  refine go_lconst (n := 0) (show decode cX10_borders 7 = .ok (.lconst 0, 1) by decide +kernel) ?_
  show Go d MX10_borders 8 [some (vR 53), some (vI a1), some (vI a2)] [vJ 0, vJ a1] S F1 G Q
  refine go_lconst (n := 1) (show decode cX10_borders 8 = .ok (.lconst 1, 1) by decide +kernel) ?_
  show Go d MX10_borders 9 [some (vR 53), some (vI a1), some (vI a2)] [vJ 1, vJ 0, vJ a1] S F1 G Q
  obtain ⟨q2, h⟩ := h
  obtain ⟨z7, p8, h⟩ := h
  refine go_callS (d2 := d - 1) (M2 := MX10_isIn) (n := 3) (av := [vJ a1, vJ 0, vJ 1]) (st := []) (show decode cX10_borders 9 = .ok (.invokestatic 116, 3) by decide +kernel) ml_X10_116 mt_X10_isIn mst_X10_isIn rfl (Nat.le_of_ble_eq_true rfl) (by omega) (ok_mono p8 (fun w3 S4 F5 G6 e9 => ?_))
  obtain ⟨e1, e2, e3, e4⟩ := e9
  subst e1
  replace e2 := e2.symm; subst e2
  replace e3 := e3.symm; subst e3
  replace e4 := e4.symm; subst e4
  show Go d MX10_borders 12 [some (vR 53), some (vI a1), some (vI a2)] [vI z7] S F1 G Q
  obtain ⟨ht, hf⟩ := h
  refine go_ifeq (tgt := 25) (show decode cX10_borders 12 = .ok (.ifCond .eq 13, 3) by decide +kernel) (by decide) (fun hc => ?_) (fun hc => ?_)
  · have h := ht hc
    refine go_bipush (show decode cX10_borders 25 = .ok (.bipush (-2), 2) by decide +kernel) (by decide) ?_
    exact go_iret (show decode cX10_borders 27 = .ok (.ireturn, 1) by decide +kernel) rfl h
  · have h := hf hc
    refine go_iload_n (show decode cX10_borders 15 = .ok (.iload_n 2, 1) by decide +kernel) (by rfl) ?_
    refine go_i2l (show decode cX10_borders 16 = .ok (.i2l, 1) by decide +kernel) ?_
    refine go_lconst (n := 0) (show decode cX10_borders 17 = .ok (.lconst 0, 1) by decide +kernel) ?_
    show Go d MX10_borders 18 [some (vR 53), some (vI a1), some (vI a2)] [vJ 0, vJ a2] S F1 G Q
    refine go_lconst (n := 1) (show decode cX10_borders 18 = .ok (.lconst 1, 1) by decide +kernel) ?_
    show Go d MX10_borders 19 [some (vR 53), some (vI a1), some (vI a2)] [vJ 1, vJ 0, vJ a2] S F1 G Q
    obtain ⟨z13, p14, h⟩ := h
    refine go_callS (d2 := d - 1) (M2 := MX10_isIn) (n := 3) (av := [vJ a2, vJ 0, vJ 1]) (st := []) (show decode cX10_borders 19 = .ok (.invokestatic 116, 3) by decide +kernel) ml_X10_116 mt_X10_isIn mst_X10_isIn rfl (Nat.le_of_ble_eq_true rfl) (by omega) (ok_mono p14 (fun w9 S10 F11 G12 e9 => ?_))
    obtain ⟨e1, e2, e3, e4⟩ := e9
    subst e1
    replace e2 := e2.symm; subst e2
    replace e3 := e3.symm; subst e3
    replace e4 := e4.symm; subst e4
    show Go d MX10_borders 22 [some (vR 53), some (vI a1), some (vI a2)] [vI z13] S F1 G Q
    obtain ⟨ht, hf⟩ := h
    refine go_ifne (tgt := 28) (show decode cX10_borders 22 = .ok (.ifCond .ne 6, 3) by decide +kernel) (by decide) (fun hc => ?_) (fun hc => ?_)
    · have h := ht hc
      refine go_iload_n (show decode cX10_borders 28 = .ok (.iload_n 2, 1) by decide +kernel) (by rfl) ?_
      obtain ⟨ht, hf⟩ := h
      refine go_ifne (tgt := 41) (show decode cX10_borders 29 = .ok (.ifCond .ne 12, 3) by decide +kernel) (by decide) (fun hc => ?_) (fun hc => ?_)
      · have h := ht hc
        refine go_aload_n (show decode cX10_borders 41 = .ok (.aload_n 0, 1) by decide +kernel) (by rfl) ?_
        refine go_getRc (show decode cX10_borders 42 = .ok (.getfield 32, 3) by decide +kernel) fl_X10_32 rfl (shm_k hsm 53 (by decide) (by decide)) (v := 56) (shm_r hsm 53 6 (by decide) (by decide)) ?_
        refine go_iload_n (show decode cX10_borders 45 = .ok (.iload_n 1, 1) by decide +kernel) (by rfl) ?_
        obtain ⟨q15, h⟩ := h
        obtain ⟨q16, h⟩ := h
        refine go_iaload (show decode cX10_borders 46 = .ok (.iaload, 1) by decide +kernel) (shm_k hsm 56 (by decide) (by decide)) q15 (lt_n (m := 2) q16 (shm_n hsm 56 (by decide) (by decide))) ?_
        exact go_iret (show decode cX10_borders 47 = .ok (.ireturn, 1) by decide +kernel) rfl h
      · have h := hf hc
        refine go_aload_n (show decode cX10_borders 32 = .ok (.aload_n 0, 1) by decide +kernel) (by rfl) ?_
        refine go_getRc (show decode cX10_borders 33 = .ok (.getfield 29, 3) by decide +kernel) fl_X10_29 rfl (shm_k hsm 53 (by decide) (by decide)) (v := 55) (shm_r hsm 53 5 (by decide) (by decide)) ?_
        refine go_iload_n (show decode cX10_borders 36 = .ok (.iload_n 1, 1) by decide +kernel) (by rfl) ?_
        obtain ⟨q17, h⟩ := h
        obtain ⟨q18, h⟩ := h
        refine go_iaload (show decode cX10_borders 37 = .ok (.iaload, 1) by decide +kernel) (shm_k hsm 55 (by decide) (by decide)) q17 (lt_n (m := 2) q18 (shm_n hsm 55 (by decide) (by decide))) ?_
        refine go_goto (tgt := 47) (show decode cX10_borders 38 = .ok (.goto 9, 3) by decide +kernel) (by decide) ?_
        exact go_iret (show decode cX10_borders 47 = .ok (.ireturn, 1) by decide +kernel) rfl h
    · have h := hf hc
      refine go_bipush (show decode cX10_borders 25 = .ok (.bipush (-2), 2) by decide +kernel) (by decide) ?_
      exact go_iret (show decode cX10_borders 27 = .ok (.ireturn, 1) by decide +kernel) rfl h
def V_X10_border_0 (d : Nat) (S : AS) (F : AF) (G : AG) (Q : AQ) (a1 : Int) (a2 : Int) : Prop :=
  ∀ F1 : AF, F1 = fu F 53 0 0 →
  (1 ≤ d) ∧
  ∃ z7 : Int, Pu (d - 1) MX10_isIn [vJ a1, vJ 0, vJ 1] S F1 G (some (vI z7)) ∧
  ((¬ z7 = 0) →
    ((0 ≤ a2) →
      ((0 : Int) ≤ a1) ∧
      ((a1 : Int) < 2) ∧
      ((G 55 a1 ≤ a2) →
        Q (some (vI (-1))) S F1 G) ∧
      ((¬ G 55 a1 ≤ a2) →
        (r32 (48 * a1)) ∧
        (r32 ((48 * a1) + a2)) ∧
        ((0 : Int) ≤ (48 * a1) + a2) ∧
        (((48 * a1) + a2 : Int) < 96) ∧
        Q (some (vI (G 54 ((48 * a1) + a2)))) S F1 G)) ∧
    ((¬ 0 ≤ a2) →
      Q (some (vI (-3))) S F1 G)) ∧
  ((z7 = 0) →
    Q (some (vI (-2))) S F1 G)
theorem R_X10_border_0 {d : Nat} {S : AS} {F : AF} {G : AG} {Q : AQ} {a1 : Int} {a2 : Int} (hsm : ShM S) (h : V_X10_border_0 d S F G Q a1 a2) : Go d MX10_border 0 [some (vR 53), some (vI a1), some (vI a2)] [] S F G Q := by
  unfold V_X10_border_0 at h
  refine go_aload_n (show decode cX10_border 0 = .ok (.aload_n 0, 1) by decide +kernel) (by rfl) ?_
  refine go_iconst (show decode cX10_border 1 = .ok (.iconst 0, 1) by decide +kernel) (by decide) ?_
  refine go_putI (show decode cX10_border 2 = .ok (.putfield 1, 3) by decide +kernel) fl_X10_1 rfl (Or.inl rfl) (shm_k hsm 53 (by decide) (by decide)) ?_
  obtain ⟨F1, F1e⟩ : ∃ F1 : AF, F1 = fu F 53 0 0 := ⟨_, rfl⟩
  have h := h F1 F1e
  rw [← F1e]
  refine go_iload_n (show decode cX10_border 5 = .ok (.iload_n 1, 1) by decide +kernel) (by rfl) ?_
  refine go_i2l (show decode cX10_border 6 = .ok (.i2l, 1) by decide +kernel) ?_
  refine go_lconst (n := 0) (show decode cX10_border 7 = .ok (.lconst 0, 1) by decide +kernel) ?_
  show Go d MX10_border 8 [some (vR 53), some (vI a1), some (vI a2)] [vJ 0, vJ a1] S F1 G Q
  refine go_lconst (n := 1) (show decode cX10_border 8 = .ok (.lconst 1, 1) by decide +kernel) ?_
  show Go d MX10_border 9 [some (vR 53), some (vI a1), some (vI a2)] [vJ 1, vJ 0, vJ a1] S F1 G Q
  obtain ⟨q2, h⟩ := h
  obtain ⟨z7, p8, h⟩ := h
  refine go_callS (d2 := d - 1) (M2 := MX10_isIn) (n := 3) (av := [vJ a1, vJ 0, vJ 1]) (st := []) (show decode cX10_border 9 = .ok (.invokestatic 116, 3) by decide +kernel) ml_X10_116 mt_X10_isIn mst_X10_isIn rfl (Nat.le_of_ble_eq_true rfl) (by omega) (ok_mono p8 (fun w3 S4 F5 G6 e9 => ?_))
  obtain ⟨e1, e2, e3, e4⟩ := e9
  subst e1
  replace e2 := e2.symm; subst e2
  replace e3 := e3.symm; subst e3
  replace e4 := e4.symm; subst e4
  show Go d MX10_border 12 [some (vR 53), some (vI a1), some (vI a2)] [vI z7] S F1 G Q
  obtain ⟨ht, hf⟩ := h
  refine go_ifne (tgt := 18) (show decode cX10_border 12 = .ok (.ifCond .ne 6, 3) by decide +kernel) (by decide) (fun hc => ?_) (fun hc => ?_)
  · have h := ht hc
    refine go_iload_n (show decode cX10_border 18 = .ok (.iload_n 2, 1) by decide +kernel) (by rfl) ?_
    obtain ⟨ht, hf⟩ := h
    refine go_ifge (tgt := 25) (show decode cX10_border 19 = .ok (.ifCond .ge 6, 3) by decide +kernel) (by decide) (fun hc => ?_) (fun hc => ?_)
    · have h := ht hc
      refine go_iload_n (show decode cX10_border 25 = .ok (.iload_n 2, 1) by decide +kernel) (by rfl) ?_
      refine go_aload_n (show decode cX10_border 26 = .ok (.aload_n 0, 1) by decide +kernel) (by rfl) ?_
      refine go_getRc (show decode cX10_border 27 = .ok (.getfield 29, 3) by decide +kernel) fl_X10_29 rfl (shm_k hsm 53 (by decide) (by decide)) (v := 55) (shm_r hsm 53 5 (by decide) (by decide)) ?_
      refine go_iload_n (show decode cX10_border 30 = .ok (.iload_n 1, 1) by decide +kernel) (by rfl) ?_
      obtain ⟨q9, h⟩ := h
      obtain ⟨q10, h⟩ := h
      refine go_iaload (show decode cX10_border 31 = .ok (.iaload, 1) by decide +kernel) (shm_k hsm 55 (by decide) (by decide)) q9 (lt_n (m := 2) q10 (shm_n hsm 55 (by decide) (by decide))) ?_
      obtain ⟨ht, hf⟩ := h
      refine go_icmpge (tgt := 49) (show decode cX10_border 32 = .ok (.if_icmp .ge 17, 3) by decide +kernel) (by decide) (fun hc => ?_) (fun hc => ?_)
      · have h := ht hc
        refine go_iconst (show decode cX10_border 49 = .ok (.iconst (-1), 1) by decide +kernel) (by decide) ?_
        exact go_iret (show decode cX10_border 50 = .ok (.ireturn, 1) by decide +kernel) rfl h
      · have h := hf hc
        refine go_aload_n (show decode cX10_border 35 = .ok (.aload_n 0, 1) by decide +kernel) (by rfl) ?_
        refine go_getRc (show decode cX10_border 36 = .ok (.getfield 25, 3) by decide +kernel) fl_X10_25 rfl (shm_k hsm 53 (by decide) (by decide)) (v := 54) (shm_r hsm 53 4 (by decide) (by decide)) ?_
        refine go_bipush (show decode cX10_border 39 = .ok (.bipush 48, 2) by decide +kernel) (by decide) ?_
        refine go_iload_n (show decode cX10_border 41 = .ok (.iload_n 1, 1) by decide +kernel) (by rfl) ?_
        obtain ⟨q11, h⟩ := h
        refine go_imul (show decode cX10_border 42 = .ok (.imul, 1) by decide +kernel) q11 ?_
        refine go_iload_n (show decode cX10_border 43 = .ok (.iload_n 2, 1) by decide +kernel) (by rfl) ?_
        obtain ⟨q12, h⟩ := h
        refine go_iadd (show decode cX10_border 44 = .ok (.iadd, 1) by decide +kernel) q12 ?_
        obtain ⟨q13, h⟩ := h
        obtain ⟨q14, h⟩ := h
        refine go_iaload (show decode cX10_border 45 = .ok (.iaload, 1) by decide +kernel) (shm_k hsm 54 (by decide) (by decide)) q13 (lt_n (m := 96) q14 (shm_n hsm 54 (by decide) (by decide))) ?_
        refine go_goto (tgt := 50) (show decode cX10_border 46 = .ok (.goto 4, 3) by decide +kernel) (by decide) ?_
        exact go_iret (show decode cX10_border 50 = .ok (.ireturn, 1) by decide +kernel) rfl h
    · have h := hf hc
      refine go_bipush (show decode cX10_border 22 = .ok (.bipush (-3), 2) by decide +kernel) (by decide) ?_
      exact go_iret (show decode cX10_border 24 = .ok (.ireturn, 1) by decide +kernel) rfl h
  · have h := hf hc
    refine go_bipush (show decode cX10_border 15 = .ok (.bipush (-2), 2) by decide +kernel) (by decide) ?_
    exact go_iret (show decode cX10_border 17 = .ok (.ireturn, 1) by decide +kernel) rfl h
def V_X10_act_0 (d : Nat) (S : AS) (F : AF) (G : AG) (Q : AQ) (a1 : Int) (a2 : Int) : Prop :=
  ∀ F1 : AF, F1 = fu F 53 0 0 →
  (r32 ((F1 53 14) - 1)) ∧
  (1 ≤ d) ∧
  ∃ z8 : Int, Pu (d - 1) MX10_isIn [vJ a1, vJ 0, vJ ((F1 53 14) - 1)] S F1 G (some (vI z8)) ∧
  ((z8 = 0) →
    Q (some (vJ (-2))) S F1 G) ∧
  ((¬ z8 = 0) →
    ∃ z14 : Int, Pu (d - 1) MX10_isIn [vJ a2, vJ 0, vJ 6] S F1 G (some (vI z14)) ∧
    ((z14 = 0) →
      Q (some (vJ (-2))) S F1 G) ∧
    ((¬ z14 = 0) →
      (r32 (7 * a1)) ∧
      (r32 ((7 * a1) + a2)) ∧
      ((0 : Int) ≤ (7 * a1) + a2) ∧
      (((7 * a1) + a2 : Int) < 280) ∧
      Q (some (vJ (G 62 ((7 * a1) + a2)))) S F1 G))
theorem R_X10_act_0 {d : Nat} {S : AS} {F : AF} {G : AG} {Q : AQ} {a1 : Int} {a2 : Int} (hsm : ShM S) (h : V_X10_act_0 d S F G Q a1 a2) : Go d MX10_act 0 [some (vR 53), some (vI a1), some (vI a2)] [] S F G Q := by
  unfold V_X10_act_0 at h
  refine go_aload_n (show decode cX10_act 0 = .ok (.aload_n 0, 1) by decide +kernel) (by rfl) ?_
  refine go_iconst (show decode cX10_act 1 = .ok (.iconst 0, 1) by decide +kernel) (by decide) ?_
  refine go_putI (show decode cX10_act 2 = .ok (.putfield 1, 3) by decide +kernel) fl_X10_1 rfl (Or.inl rfl) (shm_k hsm 53 (by decide) (by decide)) ?_
  obtain ⟨F1, F1e⟩ : ∃ F1 : AF, F1 = fu F 53 0 0 := ⟨_, rfl⟩
  have h := h F1 F1e
  rw [← F1e]
  refine go_iload_n (show decode cX10_act 5 = .ok (.iload_n 1, 1) by decide +kernel) (by rfl) ?_
  refine go_i2l (show decode cX10_act 6 = .ok (.i2l, 1) by decide +kernel) ?_
  refine go_lconst (n := 0) (show decode cX10_act 7 = .ok (.lconst 0, 1) by decide +kernel) ?_
  show Go d MX10_act 8 [some (vR 53), some (vI a1), some (vI a2)] [vJ 0, vJ a1] S F1 G Q
  refine go_aload_n (show decode cX10_act 8 = .ok (.aload_n 0, 1) by decide +kernel) (by rfl) ?_
  refine go_getI (show decode cX10_act 9 = .ok (.getfield 111, 3) by decide +kernel) fl_X10_111 (Or.inl rfl) (shm_k hsm 53 (by decide) (by decide)) ?_
  refine go_iconst (show decode cX10_act 12 = .ok (.iconst 1, 1) by decide +kernel) (by decide) ?_
  obtain ⟨q2, h⟩ := h
  refine go_isub (show decode cX10_act 13 = .ok (.isub, 1) by decide +kernel) q2 ?_
  refine go_i2l (show decode cX10_act 14 = .ok (.i2l, 1) by decide +kernel) ?_
  obtain ⟨q3, h⟩ := h
  obtain ⟨z8, p9, h⟩ := h
  refine go_callS (d2 := d - 1) (M2 := MX10_isIn) (n := 3) (av := [vJ a1, vJ 0, vJ ((F1 53 14) - 1)]) (st := []) (show decode cX10_act 15 = .ok (.invokestatic 116, 3) by decide +kernel) ml_X10_116 mt_X10_isIn mst_X10_isIn rfl (Nat.le_of_ble_eq_true rfl) (by omega) (ok_mono p9 (fun w4 S5 F6 G7 e9 => ?_))
  obtain ⟨e1, e2, e3, e4⟩ := e9
  subst e1
  replace e2 := e2.symm; subst e2
  replace e3 := e3.symm; subst e3
  replace e4 := e4.symm; subst e4
  show Go d MX10_act 18 [some (vR 53), some (vI a1), some (vI a2)] [vI z8] S F1 G Q
  obtain ⟨ht, hf⟩ := h
  refine go_ifeq (tgt := 47) (show decode cX10_act 18 = .ok (.ifCond .eq 29, 3) by decide +kernel) (by decide) (fun hc => ?_) (fun hc => ?_)
  · have h := ht hc
    refine go_ldc2 (show decode cX10_act 47 = .ok (.ldc2_w 174, 3) by decide +kernel) lc_X10_174 (by decide) ?_
    exact go_lret (show decode cX10_act 50 = .ok (.lreturn, 1) by decide +kernel) rfl h
  · have h := hf hc
    refine go_iload_n (show decode cX10_act 21 = .ok (.iload_n 2, 1) by decide +kernel) (by rfl) ?_
    refine go_i2l (show decode cX10_act 22 = .ok (.i2l, 1) by decide +kernel) ?_
    refine go_lconst (n := 0) (show decode cX10_act 23 = .ok (.lconst 0, 1) by decide +kernel) ?_
    show Go d MX10_act 24 [some (vR 53), some (vI a1), some (vI a2)] [vJ 0, vJ a2] S F1 G Q
    refine go_ldc2 (show decode cX10_act 24 = .ok (.ldc2_w 457, 3) by decide +kernel) lc_X10_457 (by decide) ?_
    obtain ⟨z14, p15, h⟩ := h
    refine go_callS (d2 := d - 1) (M2 := MX10_isIn) (n := 3) (av := [vJ a2, vJ 0, vJ 6]) (st := []) (show decode cX10_act 27 = .ok (.invokestatic 116, 3) by decide +kernel) ml_X10_116 mt_X10_isIn mst_X10_isIn rfl (Nat.le_of_ble_eq_true rfl) (by omega) (ok_mono p15 (fun w10 S11 F12 G13 e9 => ?_))
    obtain ⟨e1, e2, e3, e4⟩ := e9
    subst e1
    replace e2 := e2.symm; subst e2
    replace e3 := e3.symm; subst e3
    replace e4 := e4.symm; subst e4
    show Go d MX10_act 30 [some (vR 53), some (vI a1), some (vI a2)] [vI z14] S F1 G Q
    obtain ⟨ht, hf⟩ := h
    refine go_ifeq (tgt := 47) (show decode cX10_act 30 = .ok (.ifCond .eq 17, 3) by decide +kernel) (by decide) (fun hc => ?_) (fun hc => ?_)
    · have h := ht hc
      refine go_ldc2 (show decode cX10_act 47 = .ok (.ldc2_w 174, 3) by decide +kernel) lc_X10_174 (by decide) ?_
      exact go_lret (show decode cX10_act 50 = .ok (.lreturn, 1) by decide +kernel) rfl h
    · have h := hf hc
      refine go_aload_n (show decode cX10_act 33 = .ok (.aload_n 0, 1) by decide +kernel) (by rfl) ?_
      refine go_getRc (show decode cX10_act 34 = .ok (.getfield 52, 3) by decide +kernel) fl_X10_52 rfl (shm_k hsm 53 (by decide) (by decide)) (v := 62) (shm_r hsm 53 13 (by decide) (by decide)) ?_
      refine go_bipush (show decode cX10_act 37 = .ok (.bipush 7, 2) by decide +kernel) (by decide) ?_
      refine go_iload_n (show decode cX10_act 39 = .ok (.iload_n 1, 1) by decide +kernel) (by rfl) ?_
      obtain ⟨q16, h⟩ := h
      refine go_imul (show decode cX10_act 40 = .ok (.imul, 1) by decide +kernel) q16 ?_
      refine go_iload_n (show decode cX10_act 41 = .ok (.iload_n 2, 1) by decide +kernel) (by rfl) ?_
      obtain ⟨q17, h⟩ := h
      refine go_iadd (show decode cX10_act 42 = .ok (.iadd, 1) by decide +kernel) q17 ?_
      obtain ⟨q18, h⟩ := h
      obtain ⟨q19, h⟩ := h
      refine go_laload (show decode cX10_act 43 = .ok (.laload, 1) by decide +kernel) (shm_k hsm 62 (by decide) (by decide)) q18 (lt_n (m := 280) q19 (shm_n hsm 62 (by decide) (by decide))) ?_
      refine go_goto (tgt := 50) (show decode cX10_act 44 = .ok (.goto 6, 3) by decide +kernel) (by decide) ?_
      exact go_lret (show decode cX10_act 50 = .ok (.lreturn, 1) by decide +kernel) rfl h
