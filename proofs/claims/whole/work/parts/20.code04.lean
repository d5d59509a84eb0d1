def V_X9_zone_0 (d : Nat) (S : AS) (F : AF) (G : AG) (Q : AQ) (a0 : Nat) (a1 : Int) (a2 : Int) (a3 : Int) (a4 : Int) (a5 : Int) (a6 : Int) : Prop :=
  (sK S a0 = 9) ∧
  (1 ≤ d) ∧
  (sK S (sR S a0 0) = 2) ∧
  Ok (d - 1) MX2_zoneOf [vR (sR S a0 0), vI a1] S F G (fun w3 S4 F5 G6 =>
  ∃ z8 : Nat, w3 = some (vR z8) ∧
  ((z8 = 0) →
    Q (some (vJ (-2))) S4 F5 G6) ∧
  ((¬ z8 = 0) →
    (sK S4 a0 = 9) ∧
    Ok (d - 1) MX9_ask [vR a0, vI a2, vI a3, vI a4, vI a5] S4 F5 G6 (fun w9 S10 F11 G12 =>
    ∃ z14 : Int, w9 = some (vI z14) ∧
    ((¬ z14 = 0) →
      ((a6 < 0) →
        Q (some (vJ (-3))) S10 F11 G12) ∧
      ((¬ a6 < 0) →
        ((a6 ≤ 3000000000000000000) →
          (sK S10 a0 = 9) ∧
          (sK S10 (sR S10 a0 0) = 2) ∧
          Ok (d - 1) MX2_sumOf [vR (sR S10 a0 0), vI (-1), vR (sR S10 a0 4)] S10 F11 G12 (fun w16 S17 F18 G19 =>
          ∃ z21 : Int, w16 = some (vJ z21) ∧
          ((z21 ≤ a6) →
            (sK S17 z8 = 8) ∧
            (sK S17 (sR S17 z8 0) = 3) ∧
            Ok (d - 1) MX3_set [vR (sR S17 z8 0), vI a2, vI a3, vI a4, vI a5] S17 F18 G19 (fun w23 S24 F25 G26 =>
            w23 = none ∧
            (sK S24 z8 = 8) ∧
            ∀ F29 : AF, F29 = fu F25 z8 1 a6 →
            ∀ F30 : AF, F30 = fu F29 z8 2 1 →
            Q (some (vJ z21)) S24 F30 G26)) ∧
          ((¬ z21 ≤ a6) →
            Q (some (vJ (-9))) S17 F18 G19))) ∧
        ((¬ a6 ≤ 3000000000000000000) →
          Q (some (vJ (-3))) S10 F11 G12))) ∧
    ((z14 = 0) →
      Q (some (vJ (-2))) S10 F11 G12))))
theorem R_X9_zone_0 {d : Nat} {S : AS} {F : AF} {G : AG} {Q : AQ} {a0 : Nat} {a1 : Int} {a2 : Int} {a3 : Int} {a4 : Int} {a5 : Int} {a6 : Int} (h : V_X9_zone_0 d S F G Q a0 a1 a2 a3 a4 a5 a6) : Go d MX9_zone 0 [some (vR a0), some (vI a1), some (vI a2), some (vI a3), some (vI a4), some (vI a5), some (vJ a6), none, none, none, none] [] S F G Q := by
  unfold V_X9_zone_0 at h
  refine go_aload_n (show decode cX9_zone 0 = .ok (.aload_n 0, 1) by decide +kernel) (by rfl) ?_
  obtain ⟨q1, h⟩ := h
  refine go_getR (show decode cX9_zone 1 = .ok (.getfield 12, 3) by decide +kernel) fl_X9_12 rfl q1 ?_
  refine go_iload_n (show decode cX9_zone 4 = .ok (.iload_n 1, 1) by decide +kernel) (by rfl) ?_
  obtain ⟨q2, h⟩ := h
  obtain ⟨q7, h⟩ := h
  refine go_callV (d2 := d - 1) (M2 := MX2_zoneOf) (n := 1) (ci := 2) (av := [vI a1]) (st := []) (show decode cX9_zone 5 = .ok (.invokevirtual 200, 3) by decide +kernel) ml_X9_200 mt_X2_zoneOf min_X2_zoneOf mse_X2_zoneOf (by decide) q7 rfl (Nat.le_of_ble_eq_true rfl) (by omega) (ok_mono h (fun w3 S4 F5 G6 h => ?_))
  obtain ⟨z8, e9, h⟩ := h
  subst e9
  show Go d MX9_zone 8 [some (vR a0), some (vI a1), some (vI a2), some (vI a3), some (vI a4), some (vI a5), some (vJ a6), none, none, none, none] [vR z8] S4 F5 G6 Q
  refine go_astore (show decode cX9_zone 8 = .ok (.astore 8, 2) by decide +kernel) (by decide) ?_
  show Go d MX9_zone 10 [some (vR a0), some (vI a1), some (vI a2), some (vI a3), some (vI a4), some (vI a5), some (vJ a6), none, some (vR z8), none, none] [] S4 F5 G6 Q
  refine go_aload (show decode cX9_zone 10 = .ok (.aload 8, 2) by decide +kernel) (by rfl) ?_
  obtain ⟨ht, hf⟩ := h
  refine go_ifnull (tgt := 28) (show decode cX9_zone 12 = .ok (.ifnull 16, 3) by decide +kernel) (by decide) (fun hc => ?_) (fun hc => ?_)
  · have h := ht hc
    refine go_ldc2 (show decode cX9_zone 28 = .ok (.ldc2_w 74, 3) by decide +kernel) lc_X9_74 (by decide) ?_
    exact go_lret (show decode cX9_zone 31 = .ok (.lreturn, 1) by decide +kernel) rfl h
  · have h := hf hc
    refine go_aload_n (show decode cX9_zone 15 = .ok (.aload_n 0, 1) by decide +kernel) (by rfl) ?_
    refine go_iload_n (show decode cX9_zone 16 = .ok (.iload_n 2, 1) by decide +kernel) (by rfl) ?_
    refine go_iload_n (show decode cX9_zone 17 = .ok (.iload_n 3, 1) by decide +kernel) (by rfl) ?_
    refine go_iload (show decode cX9_zone 18 = .ok (.iload 4, 2) by decide +kernel) (by rfl) ?_
    refine go_iload (show decode cX9_zone 20 = .ok (.iload 5, 2) by decide +kernel) (by rfl) ?_
    obtain ⟨q13, h⟩ := h
    refine go_callV (d2 := d - 1) (M2 := MX9_ask) (n := 4) (ci := 9) (av := [vI a2, vI a3, vI a4, vI a5]) (st := []) (show decode cX9_zone 22 = .ok (.invokevirtual 70, 3) by decide +kernel) ml_X9_70 mt_X9_ask min_X9_ask mse_X9_ask (by decide) q13 rfl (Nat.le_of_ble_eq_true rfl) (by omega) (ok_mono h (fun w9 S10 F11 G12 h => ?_))
    obtain ⟨z14, e9, h⟩ := h
    subst e9
    show Go d MX9_zone 25 [some (vR a0), some (vI a1), some (vI a2), some (vI a3), some (vI a4), some (vI a5), some (vJ a6), none, some (vR z8), none, none] [vI z14] S10 F11 G12 Q
    obtain ⟨ht, hf⟩ := h
    refine go_ifne (tgt := 32) (show decode cX9_zone 25 = .ok (.ifCond .ne 7, 3) by decide +kernel) (by decide) (fun hc => ?_) (fun hc => ?_)
    · have h := ht hc
      refine go_lload (show decode cX9_zone 32 = .ok (.lload 6, 2) by decide +kernel) (by rfl) ?_
      refine go_lconst (n := 0) (show decode cX9_zone 34 = .ok (.lconst 0, 1) by decide +kernel) ?_
      show Go d MX9_zone 35 [some (vR a0), some (vI a1), some (vI a2), some (vI a3), some (vI a4), some (vI a5), some (vJ a6), none, some (vR z8), none, none] [vJ 0, vJ a6] S10 F11 G12 Q
      obtain ⟨ht, hf⟩ := h
      refine go_jlt (tgt := 48) (show decode cX9_zone 35 = .ok (.lcmp, 1) by decide +kernel) (show decode cX9_zone 36 = .ok (.ifCond .lt 12, 3) by decide +kernel) (by decide) (fun hc => ?_) (fun hc => ?_)
      · have h := ht hc
        refine go_ldc2 (show decode cX9_zone 48 = .ok (.ldc2_w 55, 3) by decide +kernel) lc_X9_55 (by decide) ?_
        exact go_lret (show decode cX9_zone 51 = .ok (.lreturn, 1) by decide +kernel) rfl h
      · have h := hf hc
        refine go_lload (show decode cX9_zone 39 = .ok (.lload 6, 2) by decide +kernel) (by rfl) ?_
        refine go_ldc2 (show decode cX9_zone 41 = .ok (.ldc2_w 107, 3) by decide +kernel) lc_X9_107 (by decide) ?_
        obtain ⟨ht, hf⟩ := h
        refine go_jle (tgt := 52) (show decode cX9_zone 44 = .ok (.lcmp, 1) by decide +kernel) (show decode cX9_zone 45 = .ok (.ifCond .le 7, 3) by decide +kernel) (by decide) (fun hc => ?_) (fun hc => ?_)
        · have h := ht hc
          refine go_aload_n (show decode cX9_zone 52 = .ok (.aload_n 0, 1) by decide +kernel) (by rfl) ?_
          obtain ⟨q15, h⟩ := h
          refine go_getR (show decode cX9_zone 53 = .ok (.getfield 12, 3) by decide +kernel) fl_X9_12 rfl q15 ?_
          refine go_iconst (show decode cX9_zone 56 = .ok (.iconst (-1), 1) by decide +kernel) (by decide) ?_
          refine go_aload_n (show decode cX9_zone 57 = .ok (.aload_n 0, 1) by decide +kernel) (by rfl) ?_
          refine go_getR (show decode cX9_zone 58 = .ok (.getfield 42, 3) by decide +kernel) fl_X9_42 rfl q15 ?_
          obtain ⟨q20, h⟩ := h
          refine go_callV (d2 := d - 1) (M2 := MX2_sumOf) (n := 2) (ci := 2) (av := [vI (-1), vR (sR S10 a0 4)]) (st := []) (show decode cX9_zone 61 = .ok (.invokevirtual 103, 3) by decide +kernel) ml_X9_103 mt_X2_sumOf min_X2_sumOf mse_X2_sumOf (by decide) q20 rfl (Nat.le_of_ble_eq_true rfl) (by omega) (ok_mono h (fun w16 S17 F18 G19 h => ?_))
          obtain ⟨z21, e9, h⟩ := h
          subst e9
          show Go d MX9_zone 64 [some (vR a0), some (vI a1), some (vI a2), some (vI a3), some (vI a4), some (vI a5), some (vJ a6), none, some (vR z8), none, none] [vJ z21] S17 F18 G19 Q
          refine go_lstore (show decode cX9_zone 64 = .ok (.lstore 9, 2) by decide +kernel) (by decide) ?_
          show Go d MX9_zone 66 [some (vR a0), some (vI a1), some (vI a2), some (vI a3), some (vI a4), some (vI a5), some (vJ a6), none, some (vR z8), some (vJ z21), none] [] S17 F18 G19 Q
          refine go_lload (show decode cX9_zone 66 = .ok (.lload 9, 2) by decide +kernel) (by rfl) ?_
          refine go_lload (show decode cX9_zone 68 = .ok (.lload 6, 2) by decide +kernel) (by rfl) ?_
          obtain ⟨ht, hf⟩ := h
          refine go_jle (tgt := 78) (show decode cX9_zone 70 = .ok (.lcmp, 1) by decide +kernel) (show decode cX9_zone 71 = .ok (.ifCond .le 7, 3) by decide +kernel) (by decide) (fun hc => ?_) (fun hc => ?_)
          · have h := ht hc
            refine go_aload (show decode cX9_zone 78 = .ok (.aload 8, 2) by decide +kernel) (by rfl) ?_
            obtain ⟨q22, h⟩ := h
            refine go_getR (show decode cX9_zone 80 = .ok (.getfield 206, 3) by decide +kernel) fl_X9_206 rfl q22 ?_
            refine go_iload_n (show decode cX9_zone 83 = .ok (.iload_n 2, 1) by decide +kernel) (by rfl) ?_
            refine go_iload_n (show decode cX9_zone 84 = .ok (.iload_n 3, 1) by decide +kernel) (by rfl) ?_
            refine go_iload (show decode cX9_zone 85 = .ok (.iload 4, 2) by decide +kernel) (by rfl) ?_
            refine go_iload (show decode cX9_zone 87 = .ok (.iload 5, 2) by decide +kernel) (by rfl) ?_
            obtain ⟨q27, h⟩ := h
            refine go_callV (d2 := d - 1) (M2 := MX3_set) (n := 4) (ci := 3) (av := [vI a2, vI a3, vI a4, vI a5]) (st := []) (show decode cX9_zone 89 = .ok (.invokevirtual 150, 3) by decide +kernel) ml_X9_150 mt_X3_set min_X3_set mse_X3_set (by decide) q27 rfl (Nat.le_of_ble_eq_true rfl) (by omega) (ok_mono h (fun w23 S24 F25 G26 h => ?_))
            obtain ⟨e9, h⟩ := h
            subst e9
            show Go d MX9_zone 92 [some (vR a0), some (vI a1), some (vI a2), some (vI a3), some (vI a4), some (vI a5), some (vJ a6), none, some (vR z8), some (vJ z21), none] [] S24 F25 G26 Q
            refine go_aload (show decode cX9_zone 92 = .ok (.aload 8, 2) by decide +kernel) (by rfl) ?_
            refine go_lload (show decode cX9_zone 94 = .ok (.lload 6, 2) by decide +kernel) (by rfl) ?_
            obtain ⟨q28, h⟩ := h
            refine go_putJ (show decode cX9_zone 96 = .ok (.putfield 211, 3) by decide +kernel) fl_X9_211 rfl (Or.inl rfl) q28 ?_
            obtain ⟨F29, F29e⟩ : ∃ F29 : AF, F29 = fu F25 z8 1 a6 := ⟨_, rfl⟩
            have h := h F29 F29e
            rw [← F29e]
            refine go_aload (show decode cX9_zone 99 = .ok (.aload 8, 2) by decide +kernel) (by rfl) ?_
            refine go_iconst (show decode cX9_zone 101 = .ok (.iconst 1, 1) by decide +kernel) (by decide) ?_
            refine go_putB (show decode cX9_zone 102 = .ok (.putfield 214, 3) by decide +kernel) fl_X9_214 rfl (Or.inl rfl) q28 (by decide) ?_
            obtain ⟨F30, F30e⟩ : ∃ F30 : AF, F30 = fu F29 z8 2 1 := ⟨_, rfl⟩
            have h := h F30 F30e
            rw [← F30e]
            refine go_lload (show decode cX9_zone 105 = .ok (.lload 9, 2) by decide +kernel) (by rfl) ?_
            exact go_lret (show decode cX9_zone 107 = .ok (.lreturn, 1) by decide +kernel) rfl h
          · have h := hf hc
            refine go_ldc2 (show decode cX9_zone 74 = .ok (.ldc2_w 204, 3) by decide +kernel) lc_X9_204 (by decide) ?_
            exact go_lret (show decode cX9_zone 77 = .ok (.lreturn, 1) by decide +kernel) rfl h
        · have h := hf hc
          refine go_ldc2 (show decode cX9_zone 48 = .ok (.ldc2_w 55, 3) by decide +kernel) lc_X9_55 (by decide) ?_
          exact go_lret (show decode cX9_zone 51 = .ok (.lreturn, 1) by decide +kernel) rfl h
    · have h := hf hc
      refine go_ldc2 (show decode cX9_zone 28 = .ok (.ldc2_w 74, 3) by decide +kernel) lc_X9_74 (by decide) ?_
      exact go_lret (show decode cX9_zone 31 = .ok (.lreturn, 1) by decide +kernel) rfl h
def V_X9_zoneAt_0 (d : Nat) (S : AS) (F : AF) (G : AG) (Q : AQ) (a0 : Nat) (a1 : Int) (a2 : Int) : Prop :=
  (sK S a0 = 9) ∧
  (1 ≤ d) ∧
  (sK S (sR S a0 0) = 2) ∧
  Ok (d - 1) MX2_zoneOf [vR (sR S a0 0), vI a1] S F G (fun w3 S4 F5 G6 =>
  ∃ z8 : Nat, w3 = some (vR z8) ∧
  ((z8 = 0) →
    Q (some (vJ (-2))) S4 F5 G6) ∧
  ((¬ z8 = 0) →
    ((a2 < 0) →
      Q (some (vJ (-2))) S4 F5 G6) ∧
    ((¬ a2 < 0) →
      ((a2 ≤ 5) →
        (sK S4 z8 = 8) ∧
        ((¬ F5 z8 2 = 0) →
          ((4 ≤ a2) →
            ((¬ a2 = 4) →
              (sK S4 a0 = 9) ∧
              (sK S4 (sR S4 a0 0) = 2) ∧
              Ok (d - 1) MX2_sumOf [vR (sR S4 a0 0), vI (-1), vR (sR S4 z8 0)] S4 F5 G6 (fun w11 S12 F13 G14 =>
              ∃ z16 : Int, w11 = some (vJ z16) ∧
              (r64 ((F5 z8 1) - z16)) ∧
              Q (some (vJ (max 0 ((F5 z8 1) - z16)))) S12 F13 G14)) ∧
            ((a2 = 4) →
              Q (some (vJ (F5 z8 1))) S4 F5 G6)) ∧
          ((¬ 4 ≤ a2) →
            (sK S4 (sR S4 z8 0) = 3) ∧
            Ok (d - 1) MX3_side [vR (sR S4 z8 0), vI a2] S4 F5 G6 (fun w18 S19 F20 G21 =>
            ∃ z23 : Int, w18 = some (vI z23) ∧
            Q (some (vJ z23)) S19 F20 G21))) ∧
        ((F5 z8 2 = 0) →
          Q (some (vJ (-1))) S4 F5 G6)) ∧
      ((¬ a2 ≤ 5) →
        Q (some (vJ (-2))) S4 F5 G6))))
theorem R_X9_zoneAt_0 {d : Nat} {S : AS} {F : AF} {G : AG} {Q : AQ} {a0 : Nat} {a1 : Int} {a2 : Int} (h : V_X9_zoneAt_0 d S F G Q a0 a1 a2) : Go d MX9_zoneAt 0 [some (vR a0), some (vI a1), some (vI a2), none] [] S F G Q := by
  unfold V_X9_zoneAt_0 at h
  refine go_aload_n (show decode cX9_zoneAt 0 = .ok (.aload_n 0, 1) by decide +kernel) (by rfl) ?_
  obtain ⟨q1, h⟩ := h
  refine go_getR (show decode cX9_zoneAt 1 = .ok (.getfield 12, 3) by decide +kernel) fl_X9_12 rfl q1 ?_
  refine go_iload_n (show decode cX9_zoneAt 4 = .ok (.iload_n 1, 1) by decide +kernel) (by rfl) ?_
  obtain ⟨q2, h⟩ := h
  obtain ⟨q7, h⟩ := h
  refine go_callV (d2 := d - 1) (M2 := MX2_zoneOf) (n := 1) (ci := 2) (av := [vI a1]) (st := []) (show decode cX9_zoneAt 5 = .ok (.invokevirtual 200, 3) by decide +kernel) ml_X9_200 mt_X2_zoneOf min_X2_zoneOf mse_X2_zoneOf (by decide) q7 rfl (Nat.le_of_ble_eq_true rfl) (by omega) (ok_mono h (fun w3 S4 F5 G6 h => ?_))
  obtain ⟨z8, e9, h⟩ := h
  subst e9
  show Go d MX9_zoneAt 8 [some (vR a0), some (vI a1), some (vI a2), none] [vR z8] S4 F5 G6 Q
  refine go_astore_n (show decode cX9_zoneAt 8 = .ok (.astore_n 3, 1) by decide +kernel) (by decide) ?_
  show Go d MX9_zoneAt 9 [some (vR a0), some (vI a1), some (vI a2), some (vR z8)] [] S4 F5 G6 Q
  refine go_aload_n (show decode cX9_zoneAt 9 = .ok (.aload_n 3, 1) by decide +kernel) (by rfl) ?_
  obtain ⟨ht, hf⟩ := h
  refine go_ifnull (tgt := 22) (show decode cX9_zoneAt 10 = .ok (.ifnull 12, 3) by decide +kernel) (by decide) (fun hc => ?_) (fun hc => ?_)
  · have h := ht hc
    refine go_ldc2 (show decode cX9_zoneAt 22 = .ok (.ldc2_w 74, 3) by decide +kernel) lc_X9_74 (by decide) ?_
    exact go_lret (show decode cX9_zoneAt 25 = .ok (.lreturn, 1) by decide +kernel) rfl h
  · have h := hf hc
    refine go_iload_n (show decode cX9_zoneAt 13 = .ok (.iload_n 2, 1) by decide +kernel) (by rfl) ?_
    obtain ⟨ht, hf⟩ := h
    refine go_iflt (tgt := 22) (show decode cX9_zoneAt 14 = .ok (.ifCond .lt 8, 3) by decide +kernel) (by decide) (fun hc => ?_) (fun hc => ?_)
    · have h := ht hc
      refine go_ldc2 (show decode cX9_zoneAt 22 = .ok (.ldc2_w 74, 3) by decide +kernel) lc_X9_74 (by decide) ?_
      exact go_lret (show decode cX9_zoneAt 25 = .ok (.lreturn, 1) by decide +kernel) rfl h
    · have h := hf hc
      refine go_iload_n (show decode cX9_zoneAt 17 = .ok (.iload_n 2, 1) by decide +kernel) (by rfl) ?_
      refine go_iconst (show decode cX9_zoneAt 18 = .ok (.iconst 5, 1) by decide +kernel) (by decide) ?_
      obtain ⟨ht, hf⟩ := h
      refine go_icmple (tgt := 26) (show decode cX9_zoneAt 19 = .ok (.if_icmp .le 7, 3) by decide +kernel) (by decide) (fun hc => ?_) (fun hc => ?_)
      · have h := ht hc
        refine go_aload_n (show decode cX9_zoneAt 26 = .ok (.aload_n 3, 1) by decide +kernel) (by rfl) ?_
        obtain ⟨q9, h⟩ := h
        refine go_getI (show decode cX9_zoneAt 27 = .ok (.getfield 214, 3) by decide +kernel) fl_X9_214 (Or.inr rfl) q9 ?_
        obtain ⟨ht, hf⟩ := h
        refine go_ifne (tgt := 37) (show decode cX9_zoneAt 30 = .ok (.ifCond .ne 7, 3) by decide +kernel) (by decide) (fun hc => ?_) (fun hc => ?_)
        · have h := ht hc
          refine go_iload_n (show decode cX9_zoneAt 37 = .ok (.iload_n 2, 1) by decide +kernel) (by rfl) ?_
          refine go_iconst (show decode cX9_zoneAt 38 = .ok (.iconst 4, 1) by decide +kernel) (by decide) ?_
          obtain ⟨ht, hf⟩ := h
          refine go_icmpge (tgt := 52) (show decode cX9_zoneAt 39 = .ok (.if_icmp .ge 13, 3) by decide +kernel) (by decide) (fun hc => ?_) (fun hc => ?_)
          · have h := ht hc
            refine go_iload_n (show decode cX9_zoneAt 52 = .ok (.iload_n 2, 1) by decide +kernel) (by rfl) ?_
            refine go_iconst (show decode cX9_zoneAt 53 = .ok (.iconst 4, 1) by decide +kernel) (by decide) ?_
            obtain ⟨ht, hf⟩ := h
            refine go_icmpne (tgt := 62) (show decode cX9_zoneAt 54 = .ok (.if_icmp .ne 8, 3) by decide +kernel) (by decide) (fun hc => ?_) (fun hc => ?_)
            · have h := ht hc
              refine go_lconst (n := 0) (show decode cX9_zoneAt 62 = .ok (.lconst 0, 1) by decide +kernel) ?_
              show Go d MX9_zoneAt 63 [some (vR a0), some (vI a1), some (vI a2), some (vR z8)] [vJ 0] S4 F5 G6 Q
              refine go_aload_n (show decode cX9_zoneAt 63 = .ok (.aload_n 3, 1) by decide +kernel) (by rfl) ?_
              refine go_getJ (show decode cX9_zoneAt 64 = .ok (.getfield 211, 3) by decide +kernel) fl_X9_211 rfl q9 ?_
              refine go_aload_n (show decode cX9_zoneAt 67 = .ok (.aload_n 0, 1) by decide +kernel) (by rfl) ?_
              obtain ⟨q10, h⟩ := h
              refine go_getR (show decode cX9_zoneAt 68 = .ok (.getfield 12, 3) by decide +kernel) fl_X9_12 rfl q10 ?_
              refine go_iconst (show decode cX9_zoneAt 71 = .ok (.iconst (-1), 1) by decide +kernel) (by decide) ?_
              refine go_aload_n (show decode cX9_zoneAt 72 = .ok (.aload_n 3, 1) by decide +kernel) (by rfl) ?_
              refine go_getR (show decode cX9_zoneAt 73 = .ok (.getfield 206, 3) by decide +kernel) fl_X9_206 rfl q9 ?_
              obtain ⟨q15, h⟩ := h
              refine go_callV (d2 := d - 1) (M2 := MX2_sumOf) (n := 2) (ci := 2) (av := [vI (-1), vR (sR S4 z8 0)]) (st := [vJ (F5 z8 1), vJ 0]) (show decode cX9_zoneAt 76 = .ok (.invokevirtual 103, 3) by decide +kernel) ml_X9_103 mt_X2_sumOf min_X2_sumOf mse_X2_sumOf (by decide) q15 rfl (Nat.le_of_ble_eq_true rfl) (by omega) (ok_mono h (fun w11 S12 F13 G14 h => ?_))
              obtain ⟨z16, e9, h⟩ := h
              subst e9
              show Go d MX9_zoneAt 79 [some (vR a0), some (vI a1), some (vI a2), some (vR z8)] [vJ z16, vJ (F5 z8 1), vJ 0] S12 F13 G14 Q
              obtain ⟨q17, h⟩ := h
              refine go_lsub (show decode cX9_zoneAt 79 = .ok (.lsub, 1) by decide +kernel) q17 ?_
              refine go_maxJm (show decode cX9_zoneAt 80 = .ok (.invokestatic 178, 3) by decide +kernel) ml_X9_178 mh_maxJ_s mh_i mh_maxJ_c (Nat.le_of_ble_eq_true rfl) q2 ?_
              exact go_lret (show decode cX9_zoneAt 83 = .ok (.lreturn, 1) by decide +kernel) rfl h
            · have h := hf hc
              refine go_aload_n (show decode cX9_zoneAt 57 = .ok (.aload_n 3, 1) by decide +kernel) (by rfl) ?_
              refine go_getJ (show decode cX9_zoneAt 58 = .ok (.getfield 211, 3) by decide +kernel) fl_X9_211 rfl q9 ?_
              exact go_lret (show decode cX9_zoneAt 61 = .ok (.lreturn, 1) by decide +kernel) rfl h
          · have h := hf hc
            refine go_aload_n (show decode cX9_zoneAt 42 = .ok (.aload_n 3, 1) by decide +kernel) (by rfl) ?_
            refine go_getR (show decode cX9_zoneAt 43 = .ok (.getfield 206, 3) by decide +kernel) fl_X9_206 rfl q9 ?_
            refine go_iload_n (show decode cX9_zoneAt 46 = .ok (.iload_n 2, 1) by decide +kernel) (by rfl) ?_
            obtain ⟨q22, h⟩ := h
            refine go_callV (d2 := d - 1) (M2 := MX3_side) (n := 1) (ci := 3) (av := [vI a2]) (st := []) (show decode cX9_zoneAt 47 = .ok (.invokevirtual 220, 3) by decide +kernel) ml_X9_220 mt_X3_side min_X3_side mse_X3_side (by decide) q22 rfl (Nat.le_of_ble_eq_true rfl) (by omega) (ok_mono h (fun w18 S19 F20 G21 h => ?_))
            obtain ⟨z23, e9, h⟩ := h
            subst e9
            show Go d MX9_zoneAt 50 [some (vR a0), some (vI a1), some (vI a2), some (vR z8)] [vI z23] S19 F20 G21 Q
            refine go_i2l (show decode cX9_zoneAt 50 = .ok (.i2l, 1) by decide +kernel) ?_
            exact go_lret (show decode cX9_zoneAt 51 = .ok (.lreturn, 1) by decide +kernel) rfl h
        · have h := hf hc
          refine go_ldc2 (show decode cX9_zoneAt 33 = .ok (.ldc2_w 218, 3) by decide +kernel) lc_X9_218 (by decide) ?_
          exact go_lret (show decode cX9_zoneAt 36 = .ok (.lreturn, 1) by decide +kernel) rfl h
      · have h := hf hc
        refine go_ldc2 (show decode cX9_zoneAt 22 = .ok (.ldc2_w 74, 3) by decide +kernel) lc_X9_74 (by decide) ?_
        exact go_lret (show decode cX9_zoneAt 25 = .ok (.lreturn, 1) by decide +kernel) rfl h
def V_X9_begin_0 (d : Nat) (S : AS) (F : AF) (G : AG) (Q : AQ) (a0 : Nat) : Prop :=
  (sK S a0 = 9) ∧
  (sK S (sR S a0 0) = 2) ∧
  ((F (sR S a0 0) 8 < 8) →
    (1 ≤ d) ∧
    Ok (d - 1) MX2_save [vR (sR S a0 0)] S F G (fun w4 S5 F6 G7 =>
    w4 = none ∧
    (sK S5 a0 = 9) ∧
    (sK S5 (sR S5 a0 0) = 2) ∧
    Q (some (vI (F6 (sR S5 a0 0) 8))) S5 F6 G7)) ∧
  ((¬ F (sR S a0 0) 8 < 8) →
    Q (some (vI (-4))) S F G)
theorem R_X9_begin_0 {d : Nat} {S : AS} {F : AF} {G : AG} {Q : AQ} {a0 : Nat} (h : V_X9_begin_0 d S F G Q a0) : Go d MX9_begin 0 [some (vR a0)] [] S F G Q := by
  unfold V_X9_begin_0 at h
  refine go_aload_n (show decode cX9_begin 0 = .ok (.aload_n 0, 1) by decide +kernel) (by rfl) ?_
  obtain ⟨q1, h⟩ := h
  refine go_getR (show decode cX9_begin 1 = .ok (.getfield 12, 3) by decide +kernel) fl_X9_12 rfl q1 ?_
  obtain ⟨q2, h⟩ := h
  refine go_getI (show decode cX9_begin 4 = .ok (.getfield 223, 3) by decide +kernel) fl_X9_223 (Or.inl rfl) q2 ?_
  refine go_bipush (show decode cX9_begin 7 = .ok (.bipush 8, 2) by decide +kernel) (by decide) ?_
  obtain ⟨ht, hf⟩ := h
  refine go_icmplt (tgt := 15) (show decode cX9_begin 9 = .ok (.if_icmp .lt 6, 3) by decide +kernel) (by decide) (fun hc => ?_) (fun hc => ?_)
  · have h := ht hc
    refine go_aload_n (show decode cX9_begin 15 = .ok (.aload_n 0, 1) by decide +kernel) (by rfl) ?_
    refine go_getR (show decode cX9_begin 16 = .ok (.getfield 12, 3) by decide +kernel) fl_X9_12 rfl q1 ?_
    obtain ⟨q3, h⟩ := h
    refine go_callV (d2 := d - 1) (M2 := MX2_save) (n := 0) (ci := 2) (av := []) (st := []) (show decode cX9_begin 19 = .ok (.invokevirtual 226, 3) by decide +kernel) ml_X9_226 mt_X2_save min_X2_save mse_X2_save (by decide) q2 rfl (Nat.le_of_ble_eq_true rfl) (by omega) (ok_mono h (fun w4 S5 F6 G7 h => ?_))
    obtain ⟨e9, h⟩ := h
    subst e9
    show Go d MX9_begin 22 [some (vR a0)] [] S5 F6 G7 Q
    refine go_aload_n (show decode cX9_begin 22 = .ok (.aload_n 0, 1) by decide +kernel) (by rfl) ?_
    obtain ⟨q8, h⟩ := h
    refine go_getR (show decode cX9_begin 23 = .ok (.getfield 12, 3) by decide +kernel) fl_X9_12 rfl q8 ?_
    obtain ⟨q9, h⟩ := h
    refine go_getI (show decode cX9_begin 26 = .ok (.getfield 223, 3) by decide +kernel) fl_X9_223 (Or.inl rfl) q9 ?_
    exact go_iret (show decode cX9_begin 29 = .ok (.ireturn, 1) by decide +kernel) rfl h
  · have h := hf hc
    refine go_bipush (show decode cX9_begin 12 = .ok (.bipush (-4), 2) by decide +kernel) (by decide) ?_
    exact go_iret (show decode cX9_begin 14 = .ok (.ireturn, 1) by decide +kernel) rfl h
def V_X9_commit_0 (d : Nat) (S : AS) (F : AF) (G : AG) (Q : AQ) (a0 : Nat) : Prop :=
  (sK S a0 = 9) ∧
  (sK S (sR S a0 0) = 2) ∧
  ((1 ≤ F (sR S a0 0) 8) →
    (1 ≤ d) ∧
    Ok (d - 1) MX2_joinInnermost [vR (sR S a0 0)] S F G (fun w4 S5 F6 G7 =>
    w4 = none ∧
    (sK S5 a0 = 9) ∧
    (sK S5 (sR S5 a0 0) = 2) ∧
    Q (some (vI (F6 (sR S5 a0 0) 8))) S5 F6 G7)) ∧
  ((¬ 1 ≤ F (sR S a0 0) 8) →
    Q (some (vI (-8))) S F G)
theorem R_X9_commit_0 {d : Nat} {S : AS} {F : AF} {G : AG} {Q : AQ} {a0 : Nat} (h : V_X9_commit_0 d S F G Q a0) : Go d MX9_commit 0 [some (vR a0)] [] S F G Q := by
  unfold V_X9_commit_0 at h
  refine go_aload_n (show decode cX9_commit 0 = .ok (.aload_n 0, 1) by decide +kernel) (by rfl) ?_
  obtain ⟨q1, h⟩ := h
  refine go_getR (show decode cX9_commit 1 = .ok (.getfield 12, 3) by decide +kernel) fl_X9_12 rfl q1 ?_
  obtain ⟨q2, h⟩ := h
  refine go_getI (show decode cX9_commit 4 = .ok (.getfield 223, 3) by decide +kernel) fl_X9_223 (Or.inl rfl) q2 ?_
  refine go_iconst (show decode cX9_commit 7 = .ok (.iconst 1, 1) by decide +kernel) (by decide) ?_
  obtain ⟨ht, hf⟩ := h
  refine go_icmpge (tgt := 14) (show decode cX9_commit 8 = .ok (.if_icmp .ge 6, 3) by decide +kernel) (by decide) (fun hc => ?_) (fun hc => ?_)
  · have h := ht hc
    refine go_aload_n (show decode cX9_commit 14 = .ok (.aload_n 0, 1) by decide +kernel) (by rfl) ?_
    refine go_getR (show decode cX9_commit 15 = .ok (.getfield 12, 3) by decide +kernel) fl_X9_12 rfl q1 ?_
    obtain ⟨q3, h⟩ := h
    refine go_callV (d2 := d - 1) (M2 := MX2_joinInnermost) (n := 0) (ci := 2) (av := []) (st := []) (show decode cX9_commit 18 = .ok (.invokevirtual 229, 3) by decide +kernel) ml_X9_229 mt_X2_joinInnermost min_X2_joinInnermost mse_X2_joinInnermost (by decide) q2 rfl (Nat.le_of_ble_eq_true rfl) (by omega) (ok_mono h (fun w4 S5 F6 G7 h => ?_))
    obtain ⟨e9, h⟩ := h
    subst e9
    show Go d MX9_commit 21 [some (vR a0)] [] S5 F6 G7 Q
    refine go_aload_n (show decode cX9_commit 21 = .ok (.aload_n 0, 1) by decide +kernel) (by rfl) ?_
    obtain ⟨q8, h⟩ := h
    refine go_getR (show decode cX9_commit 22 = .ok (.getfield 12, 3) by decide +kernel) fl_X9_12 rfl q8 ?_
    obtain ⟨q9, h⟩ := h
    refine go_getI (show decode cX9_commit 25 = .ok (.getfield 223, 3) by decide +kernel) fl_X9_223 (Or.inl rfl) q9 ?_
    exact go_iret (show decode cX9_commit 28 = .ok (.ireturn, 1) by decide +kernel) rfl h
  · have h := hf hc
    refine go_bipush (show decode cX9_commit 11 = .ok (.bipush (-8), 2) by decide +kernel) (by decide) ?_
    exact go_iret (show decode cX9_commit 13 = .ok (.ireturn, 1) by decide +kernel) rfl h
def V_X9_cancel_0 (d : Nat) (S : AS) (F : AF) (G : AG) (Q : AQ) (a0 : Nat) : Prop :=
  (sK S a0 = 9) ∧
  (sK S (sR S a0 0) = 2) ∧
  ((1 ≤ F (sR S a0 0) 8) →
    (1 ≤ d) ∧
    Ok (d - 1) MX2_restore [vR (sR S a0 0)] S F G (fun w4 S5 F6 G7 =>
    ∃ z8 : Int, w4 = some (vI z8) ∧
    (sK S5 a0 = 9) ∧
    (sK S5 (sR S5 a0 2) = 6) ∧
    Ok (d - 1) MX6_dropLatest [vR (sR S5 a0 2), vI z8] S5 F6 G7 (fun w10 S11 F12 G13 =>
    w10 = none ∧
    Q (some (vI z8)) S11 F12 G13))) ∧
  ((¬ 1 ≤ F (sR S a0 0) 8) →
    Q (some (vI (-8))) S F G)
theorem R_X9_cancel_0 {d : Nat} {S : AS} {F : AF} {G : AG} {Q : AQ} {a0 : Nat} (h : V_X9_cancel_0 d S F G Q a0) : Go d MX9_cancel 0 [some (vR a0), none] [] S F G Q := by
  unfold V_X9_cancel_0 at h
  refine go_aload_n (show decode cX9_cancel 0 = .ok (.aload_n 0, 1) by decide +kernel) (by rfl) ?_
  obtain ⟨q1, h⟩ := h
  refine go_getR (show decode cX9_cancel 1 = .ok (.getfield 12, 3) by decide +kernel) fl_X9_12 rfl q1 ?_
  obtain ⟨q2, h⟩ := h
  refine go_getI (show decode cX9_cancel 4 = .ok (.getfield 223, 3) by decide +kernel) fl_X9_223 (Or.inl rfl) q2 ?_
  refine go_iconst (show decode cX9_cancel 7 = .ok (.iconst 1, 1) by decide +kernel) (by decide) ?_
  obtain ⟨ht, hf⟩ := h
  refine go_icmpge (tgt := 14) (show decode cX9_cancel 8 = .ok (.if_icmp .ge 6, 3) by decide +kernel) (by decide) (fun hc => ?_) (fun hc => ?_)
  · have h := ht hc
    refine go_aload_n (show decode cX9_cancel 14 = .ok (.aload_n 0, 1) by decide +kernel) (by rfl) ?_
    refine go_getR (show decode cX9_cancel 15 = .ok (.getfield 12, 3) by decide +kernel) fl_X9_12 rfl q1 ?_
    obtain ⟨q3, h⟩ := h
    refine go_callV (d2 := d - 1) (M2 := MX2_restore) (n := 0) (ci := 2) (av := []) (st := []) (show decode cX9_cancel 18 = .ok (.invokevirtual 232, 3) by decide +kernel) ml_X9_232 mt_X2_restore min_X2_restore mse_X2_restore (by decide) q2 rfl (Nat.le_of_ble_eq_true rfl) (by omega) (ok_mono h (fun w4 S5 F6 G7 h => ?_))
    obtain ⟨z8, e9, h⟩ := h
    subst e9
    show Go d MX9_cancel 21 [some (vR a0), none] [vI z8] S5 F6 G7 Q
    refine go_istore_n (show decode cX9_cancel 21 = .ok (.istore_n 1, 1) by decide +kernel) (by decide) ?_
    show Go d MX9_cancel 22 [some (vR a0), some (vI z8)] [] S5 F6 G7 Q
    refine go_aload_n (show decode cX9_cancel 22 = .ok (.aload_n 0, 1) by decide +kernel) (by rfl) ?_
    obtain ⟨q9, h⟩ := h
    refine go_getR (show decode cX9_cancel 23 = .ok (.getfield 28, 3) by decide +kernel) fl_X9_28 rfl q9 ?_
    refine go_iload_n (show decode cX9_cancel 26 = .ok (.iload_n 1, 1) by decide +kernel) (by rfl) ?_
    obtain ⟨q14, h⟩ := h
    refine go_callV (d2 := d - 1) (M2 := MX6_dropLatest) (n := 1) (ci := 6) (av := [vI z8]) (st := []) (show decode cX9_cancel 27 = .ok (.invokevirtual 235, 3) by decide +kernel) ml_X9_235 mt_X6_dropLatest min_X6_dropLatest mse_X6_dropLatest (by decide) q14 rfl (Nat.le_of_ble_eq_true rfl) (by omega) (ok_mono h (fun w10 S11 F12 G13 h => ?_))
    obtain ⟨e9, h⟩ := h
    subst e9
    show Go d MX9_cancel 30 [some (vR a0), some (vI z8)] [] S11 F12 G13 Q
    refine go_iload_n (show decode cX9_cancel 30 = .ok (.iload_n 1, 1) by decide +kernel) (by rfl) ?_
    exact go_iret (show decode cX9_cancel 31 = .ok (.ireturn, 1) by decide +kernel) rfl h
  · have h := hf hc
    refine go_bipush (show decode cX9_cancel 11 = .ok (.bipush (-8), 2) by decide +kernel) (by decide) ?_
    exact go_iret (show decode cX9_cancel 13 = .ok (.ireturn, 1) by decide +kernel) rfl h
def V_X9_feed_0 (d : Nat) (S : AS) (F : AF) (G : AG) (Q : AQ) (a0 : Nat) (a1 : Int) (a2 : Int) (a3 : Int) (a4 : Int) (a5 : Int) : Prop :=
  (sK S a0 = 9) ∧
  (1 ≤ d) ∧
  (sK S (sR S a0 3) = 5) ∧
  Ok (d - 1) MX5_hasRoom [vR (sR S a0 3)] S F G (fun w3 S4 F5 G6 =>
  ∃ z8 : Int, w3 = some (vI z8) ∧
  ((¬ z8 = 0) →
    (sK S4 a0 = 9) ∧
    (sK S4 (sR S4 a0 3) = 5) ∧
    Ok (d - 1) MX5_put [vR (sR S4 a0 3), vI a1] S4 F5 G6 (fun w10 S11 F12 G13 =>
    w10 = none ∧
    (sK S11 a0 = 9) ∧
    (sK S11 (sR S11 a0 3) = 5) ∧
    Ok (d - 1) MX5_put [vR (sR S11 a0 3), vI a2] S11 F12 G13 (fun w16 S17 F18 G19 =>
    w16 = none ∧
    (sK S17 a0 = 9) ∧
    (sK S17 (sR S17 a0 3) = 5) ∧
    Ok (d - 1) MX5_put [vR (sR S17 a0 3), vI a3] S17 F18 G19 (fun w22 S23 F24 G25 =>
    w22 = none ∧
    (sK S23 a0 = 9) ∧
    (sK S23 (sR S23 a0 3) = 5) ∧
    Ok (d - 1) MX5_put [vR (sR S23 a0 3), vI a4] S23 F24 G25 (fun w28 S29 F30 G31 =>
    w28 = none ∧
    (sK S29 a0 = 9) ∧
    (sK S29 (sR S29 a0 3) = 5) ∧
    Ok (d - 1) MX5_put [vR (sR S29 a0 3), vI a5] S29 F30 G31 (fun w34 S35 F36 G37 =>
    w34 = none ∧
    (sK S35 a0 = 9) ∧
    (sK S35 (sR S35 a0 3) = 5) ∧
    Q (some (vI (F36 (sR S35 a0 3) 1))) S35 F36 G37)))))) ∧
  ((z8 = 0) →
    Q (some (vI (-4))) S4 F5 G6))
theorem R_X9_feed_0 {d : Nat} {S : AS} {F : AF} {G : AG} {Q : AQ} {a0 : Nat} {a1 : Int} {a2 : Int} {a3 : Int} {a4 : Int} {a5 : Int} (h : V_X9_feed_0 d S F G Q a0 a1 a2 a3 a4 a5) : Go d MX9_feed 0 [some (vR a0), some (vI a1), some (vI a2), some (vI a3), some (vI a4), some (vI a5)] [] S F G Q := by
  unfold V_X9_feed_0 at h
  refine go_aload_n (show decode cX9_feed 0 = .ok (.aload_n 0, 1) by decide +kernel) (by rfl) ?_
  obtain ⟨q1, h⟩ := h
  refine go_getR (show decode cX9_feed 1 = .ok (.getfield 35, 3) by decide +kernel) fl_X9_35 rfl q1 ?_
  obtain ⟨q2, h⟩ := h
  obtain ⟨q7, h⟩ := h
  refine go_callV (d2 := d - 1) (M2 := MX5_hasRoom) (n := 0) (ci := 5) (av := []) (st := []) (show decode cX9_feed 4 = .ok (.invokevirtual 238, 3) by decide +kernel) ml_X9_238 mt_X5_hasRoom min_X5_hasRoom mse_X5_hasRoom (by decide) q7 rfl (Nat.le_of_ble_eq_true rfl) (by omega) (ok_mono h (fun w3 S4 F5 G6 h => ?_))
  obtain ⟨z8, e9, h⟩ := h
  subst e9
  show Go d MX9_feed 7 [some (vR a0), some (vI a1), some (vI a2), some (vI a3), some (vI a4), some (vI a5)] [vI z8] S4 F5 G6 Q
  obtain ⟨ht, hf⟩ := h
  refine go_ifne (tgt := 13) (show decode cX9_feed 7 = .ok (.ifCond .ne 6, 3) by decide +kernel) (by decide) (fun hc => ?_) (fun hc => ?_)
  · have h := ht hc
    refine go_aload_n (show decode cX9_feed 13 = .ok (.aload_n 0, 1) by decide +kernel) (by rfl) ?_
    obtain ⟨q9, h⟩ := h
    refine go_getR (show decode cX9_feed 14 = .ok (.getfield 35, 3) by decide +kernel) fl_X9_35 rfl q9 ?_
    refine go_iload_n (show decode cX9_feed 17 = .ok (.iload_n 1, 1) by decide +kernel) (by rfl) ?_
    obtain ⟨q14, h⟩ := h
    refine go_callV (d2 := d - 1) (M2 := MX5_put) (n := 1) (ci := 5) (av := [vI a1]) (st := []) (show decode cX9_feed 18 = .ok (.invokevirtual 241, 3) by decide +kernel) ml_X9_241 mt_X5_put min_X5_put mse_X5_put (by decide) q14 rfl (Nat.le_of_ble_eq_true rfl) (by omega) (ok_mono h (fun w10 S11 F12 G13 h => ?_))
    obtain ⟨e9, h⟩ := h
    subst e9
    show Go d MX9_feed 21 [some (vR a0), some (vI a1), some (vI a2), some (vI a3), some (vI a4), some (vI a5)] [] S11 F12 G13 Q
    refine go_aload_n (show decode cX9_feed 21 = .ok (.aload_n 0, 1) by decide +kernel) (by rfl) ?_
    obtain ⟨q15, h⟩ := h
    refine go_getR (show decode cX9_feed 22 = .ok (.getfield 35, 3) by decide +kernel) fl_X9_35 rfl q15 ?_
    refine go_iload_n (show decode cX9_feed 25 = .ok (.iload_n 2, 1) by decide +kernel) (by rfl) ?_
    obtain ⟨q20, h⟩ := h
    refine go_callV (d2 := d - 1) (M2 := MX5_put) (n := 1) (ci := 5) (av := [vI a2]) (st := []) (show decode cX9_feed 26 = .ok (.invokevirtual 241, 3) by decide +kernel) ml_X9_241 mt_X5_put min_X5_put mse_X5_put (by decide) q20 rfl (Nat.le_of_ble_eq_true rfl) (by omega) (ok_mono h (fun w16 S17 F18 G19 h => ?_))
    obtain ⟨e9, h⟩ := h
    subst e9
    show Go d MX9_feed 29 [some (vR a0), some (vI a1), some (vI a2), some (vI a3), some (vI a4), some (vI a5)] [] S17 F18 G19 Q
    refine go_aload_n (show decode cX9_feed 29 = .ok (.aload_n 0, 1) by decide +kernel) (by rfl) ?_
    obtain ⟨q21, h⟩ := h
    refine go_getR (show decode cX9_feed 30 = .ok (.getfield 35, 3) by decide +kernel) fl_X9_35 rfl q21 ?_
    refine go_iload_n (show decode cX9_feed 33 = .ok (.iload_n 3, 1) by decide +kernel) (by rfl) ?_
    obtain ⟨q26, h⟩ := h
    refine go_callV (d2 := d - 1) (M2 := MX5_put) (n := 1) (ci := 5) (av := [vI a3]) (st := []) (show decode cX9_feed 34 = .ok (.invokevirtual 241, 3) by decide +kernel) ml_X9_241 mt_X5_put min_X5_put mse_X5_put (by decide) q26 rfl (Nat.le_of_ble_eq_true rfl) (by omega) (ok_mono h (fun w22 S23 F24 G25 h => ?_))
    obtain ⟨e9, h⟩ := h
    subst e9
    show Go d MX9_feed 37 [some (vR a0), some (vI a1), some (vI a2), some (vI a3), some (vI a4), some (vI a5)] [] S23 F24 G25 Q
    refine go_aload_n (show decode cX9_feed 37 = .ok (.aload_n 0, 1) by decide +kernel) (by rfl) ?_
    obtain ⟨q27, h⟩ := h
    refine go_getR (show decode cX9_feed 38 = .ok (.getfield 35, 3) by decide +kernel) fl_X9_35 rfl q27 ?_
    refine go_iload (show decode cX9_feed 41 = .ok (.iload 4, 2) by decide +kernel) (by rfl) ?_
    obtain ⟨q32, h⟩ := h
    refine go_callV (d2 := d - 1) (M2 := MX5_put) (n := 1) (ci := 5) (av := [vI a4]) (st := []) (show decode cX9_feed 43 = .ok (.invokevirtual 241, 3) by decide +kernel) ml_X9_241 mt_X5_put min_X5_put mse_X5_put (by decide) q32 rfl (Nat.le_of_ble_eq_true rfl) (by omega) (ok_mono h (fun w28 S29 F30 G31 h => ?_))
    obtain ⟨e9, h⟩ := h
    subst e9
    show Go d MX9_feed 46 [some (vR a0), some (vI a1), some (vI a2), some (vI a3), some (vI a4), some (vI a5)] [] S29 F30 G31 Q
    refine go_aload_n (show decode cX9_feed 46 = .ok (.aload_n 0, 1) by decide +kernel) (by rfl) ?_
    obtain ⟨q33, h⟩ := h
    refine go_getR (show decode cX9_feed 47 = .ok (.getfield 35, 3) by decide +kernel) fl_X9_35 rfl q33 ?_
    refine go_iload (show decode cX9_feed 50 = .ok (.iload 5, 2) by decide +kernel) (by rfl) ?_
    obtain ⟨q38, h⟩ := h
    refine go_callV (d2 := d - 1) (M2 := MX5_put) (n := 1) (ci := 5) (av := [vI a5]) (st := []) (show decode cX9_feed 52 = .ok (.invokevirtual 241, 3) by decide +kernel) ml_X9_241 mt_X5_put min_X5_put mse_X5_put (by decide) q38 rfl (Nat.le_of_ble_eq_true rfl) (by omega) (ok_mono h (fun w34 S35 F36 G37 h => ?_))
    obtain ⟨e9, h⟩ := h
    subst e9
    show Go d MX9_feed 55 [some (vR a0), some (vI a1), some (vI a2), some (vI a3), some (vI a4), some (vI a5)] [] S35 F36 G37 Q
    refine go_aload_n (show decode cX9_feed 55 = .ok (.aload_n 0, 1) by decide +kernel) (by rfl) ?_
    obtain ⟨q39, h⟩ := h
    refine go_getR (show decode cX9_feed 56 = .ok (.getfield 35, 3) by decide +kernel) fl_X9_35 rfl q39 ?_
    obtain ⟨q40, h⟩ := h
    refine go_getI (show decode cX9_feed 59 = .ok (.getfield 242, 3) by decide +kernel) fl_X9_242 (Or.inl rfl) q40 ?_
    exact go_iret (show decode cX9_feed 62 = .ok (.ireturn, 1) by decide +kernel) rfl h
  · have h := hf hc
    refine go_bipush (show decode cX9_feed 10 = .ok (.bipush (-4), 2) by decide +kernel) (by decide) ?_
    exact go_iret (show decode cX9_feed 12 = .ok (.ireturn, 1) by decide +kernel) rfl h
def V_X9_run_51 (d : Nat) (S : AS) (F : AF) (G : AG) (Q : AQ) (a0 : Nat) (a1 : Int) (a2 : Int) (a3 : Int) : Prop :=
  (sK S a0 = 9) ∧
  (sK S (sR S a0 3) = 5) ∧
  ((F (sR S a0 3) 9 ≤ a3) →
    Q (some (vI (F (sR S a0 3) 9))) S F G) ∧
  ((¬ F (sR S a0 3) 9 ≤ a3) →
    (1 ≤ d) ∧
    Ok (d - 1) MX9_doTold [vR a0, vI a3] S F G (fun w4 S5 F6 G7 =>
    ∃ z8 : Int, w4 = some (vJ z8) ∧
    ((0 ≤ z8) →
      (r32 (a3 + 1)) ∧
      Go d MX9_run 51 [some (vR a0), some (vI a1), some (vI a2), some (vI (a3 + 1)), none, none] [] S5 F6 G7 Q) ∧
    ((¬ 0 ≤ z8) →
      (r32 (z8)) ∧
      (sK S5 a0 = 9) ∧
      ∀ F12 : AF, F12 = fu F6 a0 6 z8 →
      Q (some (vI a3)) S5 F12 G7)))
theorem R_X9_run_51 {d : Nat} {S : AS} {F : AF} {G : AG} {Q : AQ} {a0 : Nat} {a1 : Int} {a2 : Int} {a3 : Int} (h : V_X9_run_51 d S F G Q a0 a1 a2 a3) : Go d MX9_run 51 [some (vR a0), some (vI a1), some (vI a2), some (vI a3), none, none] [] S F G Q := by
  unfold V_X9_run_51 at h
  refine go_iload_n (show decode cX9_run 51 = .ok (.iload_n 3, 1) by decide +kernel) (by rfl) ?_
  refine go_aload_n (show decode cX9_run 52 = .ok (.aload_n 0, 1) by decide +kernel) (by rfl) ?_
  obtain ⟨q1, h⟩ := h
  refine go_getR (show decode cX9_run 53 = .ok (.getfield 35, 3) by decide +kernel) fl_X9_35 rfl q1 ?_
  obtain ⟨q2, h⟩ := h
  refine go_getI (show decode cX9_run 56 = .ok (.getfield 251, 3) by decide +kernel) fl_X9_251 (Or.inl rfl) q2 ?_
  obtain ⟨ht, hf⟩ := h
  refine go_icmpge (tgt := 91) (show decode cX9_run 59 = .ok (.if_icmp .ge 32, 3) by decide +kernel) (by decide) (fun hc => ?_) (fun hc => ?_)
  · have h := ht hc
    refine go_aload_n (show decode cX9_run 91 = .ok (.aload_n 0, 1) by decide +kernel) (by rfl) ?_
    refine go_getR (show decode cX9_run 92 = .ok (.getfield 35, 3) by decide +kernel) fl_X9_35 rfl q1 ?_
    refine go_getI (show decode cX9_run 95 = .ok (.getfield 251, 3) by decide +kernel) fl_X9_251 (Or.inl rfl) q2 ?_
    exact go_iret (show decode cX9_run 98 = .ok (.ireturn, 1) by decide +kernel) rfl h
  · have h := hf hc
    refine go_aload_n (show decode cX9_run 62 = .ok (.aload_n 0, 1) by decide +kernel) (by rfl) ?_
    refine go_iload_n (show decode cX9_run 63 = .ok (.iload_n 3, 1) by decide +kernel) (by rfl) ?_
    obtain ⟨q3, h⟩ := h
    refine go_callV (d2 := d - 1) (M2 := MX9_doTold) (n := 1) (ci := 9) (av := [vI a3]) (st := []) (show decode cX9_run 64 = .ok (.invokevirtual 254, 3) by decide +kernel) ml_X9_254 mt_X9_doTold min_X9_doTold mse_X9_doTold (by decide) q1 rfl (Nat.le_of_ble_eq_true rfl) (by omega) (ok_mono h (fun w4 S5 F6 G7 h => ?_))
    obtain ⟨z8, e9, h⟩ := h
    subst e9
    show Go d MX9_run 67 [some (vR a0), some (vI a1), some (vI a2), some (vI a3), none, none] [vJ z8] S5 F6 G7 Q
    refine go_lstore (show decode cX9_run 67 = .ok (.lstore 4, 2) by decide +kernel) (by decide) ?_
    show Go d MX9_run 69 [some (vR a0), some (vI a1), some (vI a2), some (vI a3), some (vJ z8), none] [] S5 F6 G7 Q
    refine go_lload (show decode cX9_run 69 = .ok (.lload 4, 2) by decide +kernel) (by rfl) ?_
    refine go_lconst (n := 0) (show decode cX9_run 71 = .ok (.lconst 0, 1) by decide +kernel) ?_
    show Go d MX9_run 72 [some (vR a0), some (vI a1), some (vI a2), some (vI a3), some (vJ z8), none] [vJ 0, vJ z8] S5 F6 G7 Q
    obtain ⟨ht, hf⟩ := h
    refine go_jge (tgt := 85) (show decode cX9_run 72 = .ok (.lcmp, 1) by decide +kernel) (show decode cX9_run 73 = .ok (.ifCond .ge 12, 3) by decide +kernel) (by decide) (fun hc => ?_) (fun hc => ?_)
    · have h := ht hc
      obtain ⟨q9, h⟩ := h
      refine go_iinc (show decode cX9_run 85 = .ok (.iinc 3 1, 3) by decide +kernel) (by rfl) q9 (by decide) ?_
      show Go d MX9_run 88 [some (vR a0), some (vI a1), some (vI a2), some (vI (a3 + 1)), some (vJ z8), none] [] S5 F6 G7 Q
      refine go_goto (tgt := 51) (show decode cX9_run 88 = .ok (.goto (-37), 3) by decide +kernel) (by decide) ?_
      refine go_clr 4 ?_
      exact h
    · have h := hf hc
      refine go_aload_n (show decode cX9_run 76 = .ok (.aload_n 0, 1) by decide +kernel) (by rfl) ?_
      refine go_lload (show decode cX9_run 77 = .ok (.lload 4, 2) by decide +kernel) (by rfl) ?_
      obtain ⟨q10, h⟩ := h
      refine go_l2i (show decode cX9_run 79 = .ok (.l2i, 1) by decide +kernel) q10 ?_
      obtain ⟨q11, h⟩ := h
      refine go_putI (show decode cX9_run 80 = .ok (.putfield 248, 3) by decide +kernel) fl_X9_248 rfl (Or.inl rfl) q11 ?_
      obtain ⟨F12, F12e⟩ : ∃ F12 : AF, F12 = fu F6 a0 6 z8 := ⟨_, rfl⟩
      have h := h F12 F12e
      rw [← F12e]
      refine go_iload_n (show decode cX9_run 83 = .ok (.iload_n 3, 1) by decide +kernel) (by rfl) ?_
      exact go_iret (show decode cX9_run 84 = .ok (.ireturn, 1) by decide +kernel) rfl h
def V_X9_run_0 (d : Nat) (S : AS) (F : AF) (G : AG) (Q : AQ) (a0 : Nat) (a1 : Int) : Prop :=
  ((a1 < 0) →
    Q (some (vI (-3))) S F G) ∧
  ((¬ a1 < 0) →
    (sK S a0 = 9) ∧
    (sK S (sR S a0 3) = 5) ∧
    ((a1 ≤ F (sR S a0 3) 1) →
      (1 ≤ d) ∧
      Ok (d - 1) MX5_read [vR (sR S a0 3), vI a1] S F G (fun w4 S5 F6 G7 =>
      ∃ z8 : Int, w4 = some (vI z8) ∧
      (sK S5 a0 = 9) ∧
      (sK S5 (sR S5 a0 3) = 5) ∧
      ∀ F11 : AF, F11 = fu F6 (sR S5 a0 3) 1 0 →
      ∀ F12 : AF, F12 = fu F11 a0 6 0 →
      ((z8 = 0) →
        Go d MX9_run 51 [some (vR a0), some (vI a1), some (vI z8), some (vI 0), none, none] [] S5 F12 G7 Q) ∧
      ((¬ z8 = 0) →
        (r32 ((-30) - z8)) ∧
        Q (some (vI ((-30) - z8))) S5 F12 G7))) ∧
    ((¬ a1 ≤ F (sR S a0 3) 1) →
      Q (some (vI (-3))) S F G))
theorem R_X9_run_0 {d : Nat} {S : AS} {F : AF} {G : AG} {Q : AQ} {a0 : Nat} {a1 : Int} (h : V_X9_run_0 d S F G Q a0 a1) : Go d MX9_run 0 [some (vR a0), some (vI a1), none, none, none, none] [] S F G Q := by
  unfold V_X9_run_0 at h
  refine go_iload_n (show decode cX9_run 0 = .ok (.iload_n 1, 1) by decide +kernel) (by rfl) ?_
  obtain ⟨ht, hf⟩ := h
  refine go_iflt (tgt := 15) (show decode cX9_run 1 = .ok (.ifCond .lt 14, 3) by decide +kernel) (by decide) (fun hc => ?_) (fun hc => ?_)
  · have h := ht hc
    refine go_bipush (show decode cX9_run 15 = .ok (.bipush (-3), 2) by decide +kernel) (by decide) ?_
    exact go_iret (show decode cX9_run 17 = .ok (.ireturn, 1) by decide +kernel) rfl h
  · have h := hf hc
    refine go_iload_n (show decode cX9_run 4 = .ok (.iload_n 1, 1) by decide +kernel) (by rfl) ?_
    refine go_aload_n (show decode cX9_run 5 = .ok (.aload_n 0, 1) by decide +kernel) (by rfl) ?_
    obtain ⟨q1, h⟩ := h
    refine go_getR (show decode cX9_run 6 = .ok (.getfield 35, 3) by decide +kernel) fl_X9_35 rfl q1 ?_
    obtain ⟨q2, h⟩ := h
    refine go_getI (show decode cX9_run 9 = .ok (.getfield 242, 3) by decide +kernel) fl_X9_242 (Or.inl rfl) q2 ?_
    obtain ⟨ht, hf⟩ := h
    refine go_icmple (tgt := 18) (show decode cX9_run 12 = .ok (.if_icmp .le 6, 3) by decide +kernel) (by decide) (fun hc => ?_) (fun hc => ?_)
    · have h := ht hc
      refine go_aload_n (show decode cX9_run 18 = .ok (.aload_n 0, 1) by decide +kernel) (by rfl) ?_
      refine go_getR (show decode cX9_run 19 = .ok (.getfield 35, 3) by decide +kernel) fl_X9_35 rfl q1 ?_
      refine go_iload_n (show decode cX9_run 22 = .ok (.iload_n 1, 1) by decide +kernel) (by rfl) ?_
      obtain ⟨q3, h⟩ := h
      refine go_callV (d2 := d - 1) (M2 := MX5_read) (n := 1) (ci := 5) (av := [vI a1]) (st := []) (show decode cX9_run 23 = .ok (.invokevirtual 245, 3) by decide +kernel) ml_X9_245 mt_X5_read min_X5_read mse_X5_read (by decide) q2 rfl (Nat.le_of_ble_eq_true rfl) (by omega) (ok_mono h (fun w4 S5 F6 G7 h => ?_))
      obtain ⟨z8, e9, h⟩ := h
      subst e9
      show Go d MX9_run 26 [some (vR a0), some (vI a1), none, none, none, none] [vI z8] S5 F6 G7 Q
      refine go_istore_n (show decode cX9_run 26 = .ok (.istore_n 2, 1) by decide +kernel) (by decide) ?_
      show Go d MX9_run 27 [some (vR a0), some (vI a1), some (vI z8), none, none, none] [] S5 F6 G7 Q
      refine go_aload_n (show decode cX9_run 27 = .ok (.aload_n 0, 1) by decide +kernel) (by rfl) ?_
      obtain ⟨q9, h⟩ := h
      refine go_getR (show decode cX9_run 28 = .ok (.getfield 35, 3) by decide +kernel) fl_X9_35 rfl q9 ?_
      refine go_iconst (show decode cX9_run 31 = .ok (.iconst 0, 1) by decide +kernel) (by decide) ?_
      obtain ⟨q10, h⟩ := h
      refine go_putI (show decode cX9_run 32 = .ok (.putfield 242, 3) by decide +kernel) fl_X9_242 rfl (Or.inl rfl) q10 ?_
      obtain ⟨F11, F11e⟩ : ∃ F11 : AF, F11 = fu F6 (sR S5 a0 3) 1 0 := ⟨_, rfl⟩
      have h := h F11 F11e
      rw [← F11e]
      refine go_aload_n (show decode cX9_run 35 = .ok (.aload_n 0, 1) by decide +kernel) (by rfl) ?_
      refine go_iconst (show decode cX9_run 36 = .ok (.iconst 0, 1) by decide +kernel) (by decide) ?_
      refine go_putI (show decode cX9_run 37 = .ok (.putfield 248, 3) by decide +kernel) fl_X9_248 rfl (Or.inl rfl) q9 ?_
      obtain ⟨F12, F12e⟩ : ∃ F12 : AF, F12 = fu F11 a0 6 0 := ⟨_, rfl⟩
      have h := h F12 F12e
      rw [← F12e]
      refine go_iload_n (show decode cX9_run 40 = .ok (.iload_n 2, 1) by decide +kernel) (by rfl) ?_
      obtain ⟨ht, hf⟩ := h
      refine go_ifeq (tgt := 49) (show decode cX9_run 41 = .ok (.ifCond .eq 8, 3) by decide +kernel) (by decide) (fun hc => ?_) (fun hc => ?_)
      · have h := ht hc
        refine go_iconst (show decode cX9_run 49 = .ok (.iconst 0, 1) by decide +kernel) (by decide) ?_
        refine go_istore_n (show decode cX9_run 50 = .ok (.istore_n 3, 1) by decide +kernel) (by decide) ?_
        show Go d MX9_run 51 [some (vR a0), some (vI a1), some (vI z8), some (vI 0), none, none] [] S5 F12 G7 Q
        exact h
      · have h := hf hc
        refine go_bipush (show decode cX9_run 44 = .ok (.bipush (-30), 2) by decide +kernel) (by decide) ?_
        refine go_iload_n (show decode cX9_run 46 = .ok (.iload_n 2, 1) by decide +kernel) (by rfl) ?_
        obtain ⟨q13, h⟩ := h
        refine go_isub (show decode cX9_run 47 = .ok (.isub, 1) by decide +kernel) q13 ?_
        exact go_iret (show decode cX9_run 48 = .ok (.ireturn, 1) by decide +kernel) rfl h
    · have h := hf hc
      refine go_bipush (show decode cX9_run 15 = .ok (.bipush (-3), 2) by decide +kernel) (by decide) ?_
      exact go_iret (show decode cX9_run 17 = .ok (.ireturn, 1) by decide +kernel) rfl h
def V_X9_doTold_0 (d : Nat) (S : AS) (F : AF) (G : AG) (Q : AQ) (a0 : Nat) (a1 : Int) : Prop :=
  (sK S a0 = 9) ∧
  (1 ≤ d) ∧
  (sK S (sR S a0 3) = 5) ∧
  Ok (d - 1) MX5_amount [vR (sR S a0 3), vI a1] S F G (fun w3 S4 F5 G6 =>
  ∃ z8 : Int, w3 = some (vJ z8) ∧
  (sK S4 a0 = 9) ∧
  (sK S4 (sR S4 a0 3) = 5) ∧
  Ok (d - 1) MX5_kind [vR (sR S4 a0 3), vI a1] S4 F5 G6 (fun w10 S11 F12 G13 =>
  ∃ z15 : Int, w10 = some (vI z15) ∧
  ((z15 = 0) →
    (sK S11 a0 = 9) ∧
    (sK S11 (sR S11 a0 3) = 5) ∧
    Ok (d - 1) MX5_number [vR (sR S11 a0 3), vI a1, vI 0] S11 F12 G13 (fun w17 S18 F19 G20 =>
    ∃ z22 : Int, w17 = some (vI z22) ∧
    (sK S18 a0 = 9) ∧
    (sK S18 (sR S18 a0 3) = 5) ∧
    Ok (d - 1) MX5_number [vR (sR S18 a0 3), vI a1, vI 1] S18 F19 G20 (fun w24 S25 F26 G27 =>
    ∃ z29 : Int, w24 = some (vI z29) ∧
    (sK S25 a0 = 9) ∧
    (sK S25 (sR S25 a0 3) = 5) ∧
    Ok (d - 1) MX5_number [vR (sR S25 a0 3), vI a1, vI 2] S25 F26 G27 (fun w31 S32 F33 G34 =>
    ∃ z36 : Int, w31 = some (vI z36) ∧
    (sK S32 a0 = 9) ∧
    (sK S32 (sR S32 a0 3) = 5) ∧
    Ok (d - 1) MX5_number [vR (sR S32 a0 3), vI a1, vI 3] S32 F33 G34 (fun w38 S39 F40 G41 =>
    ∃ z43 : Int, w38 = some (vI z43) ∧
    (sK S39 a0 = 9) ∧
    (sK S39 (sR S39 a0 3) = 5) ∧
    Ok (d - 1) MX5_number [vR (sR S39 a0 3), vI a1, vI 4] S39 F40 G41 (fun w45 S46 F47 G48 =>
    ∃ z50 : Int, w45 = some (vI z50) ∧
    (r32 (z8)) ∧
    (sK S46 a0 = 9) ∧
    Ok (d - 1) MX9_add [vR a0, vI z22, vI z29, vI z36, vI z43, vI z50, vI z8] S46 F47 G48 (fun w52 S53 F54 G55 =>
    ∃ z57 : Int, w52 = some (vJ z57) ∧
    Q (some (vJ z57)) S53 F54 G55))))))) ∧
  ((z15 = 1) →
    (sK S11 a0 = 9) ∧
    (sK S11 (sR S11 a0 3) = 5) ∧
    Ok (d - 1) MX5_number [vR (sR S11 a0 3), vI a1, vI 0] S11 F12 G13 (fun w59 S60 F61 G62 =>
    ∃ z64 : Int, w59 = some (vI z64) ∧
    (sK S60 a0 = 9) ∧
    (sK S60 (sR S60 a0 3) = 5) ∧
    Ok (d - 1) MX5_number [vR (sR S60 a0 3), vI a1, vI 1] S60 F61 G62 (fun w66 S67 F68 G69 =>
    ∃ z71 : Int, w66 = some (vI z71) ∧
    (sK S67 a0 = 9) ∧
    (sK S67 (sR S67 a0 3) = 5) ∧
    Ok (d - 1) MX5_number [vR (sR S67 a0 3), vI a1, vI 2] S67 F68 G69 (fun w73 S74 F75 G76 =>
    ∃ z78 : Int, w73 = some (vI z78) ∧
    (sK S74 a0 = 9) ∧
    (sK S74 (sR S74 a0 3) = 5) ∧
    Ok (d - 1) MX5_number [vR (sR S74 a0 3), vI a1, vI 3] S74 F75 G76 (fun w80 S81 F82 G83 =>
    ∃ z85 : Int, w80 = some (vI z85) ∧
    (sK S81 a0 = 9) ∧
    (sK S81 (sR S81 a0 3) = 5) ∧
    Ok (d - 1) MX5_number [vR (sR S81 a0 3), vI a1, vI 4] S81 F82 G83 (fun w87 S88 F89 G90 =>
    ∃ z92 : Int, w87 = some (vI z92) ∧
    (sK S88 a0 = 9) ∧
    Ok (d - 1) MX9_pick [vR a0, vI z64, vI z71, vI z78, vI z85, vI z92, vJ z8] S88 F89 G90 (fun w93 S94 F95 G96 =>
    ∃ z98 : Int, w93 = some (vJ z98) ∧
    Q (some (vJ z98)) S94 F95 G96))))))) ∧
  ((z15 = 2) →
    (sK S11 a0 = 9) ∧
    Ok (d - 1) MX9_begin [vR a0] S11 F12 G13 (fun w99 S100 F101 G102 =>
    ∃ z104 : Int, w99 = some (vI z104) ∧
    Q (some (vJ z104)) S100 F101 G102)) ∧
  ((z15 = 3) →
    (sK S11 a0 = 9) ∧
    Ok (d - 1) MX9_commit [vR a0] S11 F12 G13 (fun w105 S106 F107 G108 =>
    ∃ z110 : Int, w105 = some (vI z110) ∧
    Q (some (vJ z110)) S106 F107 G108)) ∧
  ((z15 < 0 ∨ 3 < z15) →
    (sK S11 a0 = 9) ∧
    Ok (d - 1) MX9_cancel [vR a0] S11 F12 G13 (fun w111 S112 F113 G114 =>
    ∃ z116 : Int, w111 = some (vI z116) ∧
    Q (some (vJ z116)) S112 F113 G114))))
theorem R_X9_doTold_0 {d : Nat} {S : AS} {F : AF} {G : AG} {Q : AQ} {a0 : Nat} {a1 : Int} (h : V_X9_doTold_0 d S F G Q a0 a1) : Go d MX9_doTold 0 [some (vR a0), some (vI a1), none, none] [] S F G Q := by
  unfold V_X9_doTold_0 at h
  refine go_aload_n (show decode cX9_doTold 0 = .ok (.aload_n 0, 1) by decide +kernel) (by rfl) ?_
  obtain ⟨q1, h⟩ := h
  refine go_getR (show decode cX9_doTold 1 = .ok (.getfield 35, 3) by decide +kernel) fl_X9_35 rfl q1 ?_
  refine go_iload_n (show decode cX9_doTold 4 = .ok (.iload_n 1, 1) by decide +kernel) (by rfl) ?_
  obtain ⟨q2, h⟩ := h
  obtain ⟨q7, h⟩ := h
  refine go_callV (d2 := d - 1) (M2 := MX5_amount) (n := 1) (ci := 5) (av := [vI a1]) (st := []) (show decode cX9_doTold 5 = .ok (.invokevirtual 365, 3) by decide +kernel) ml_X9_365 mt_X5_amount min_X5_amount mse_X5_amount (by decide) q7 rfl (Nat.le_of_ble_eq_true rfl) (by omega) (ok_mono h (fun w3 S4 F5 G6 h => ?_))
  obtain ⟨z8, e9, h⟩ := h
  subst e9
  show Go d MX9_doTold 8 [some (vR a0), some (vI a1), none, none] [vJ z8] S4 F5 G6 Q
  refine go_lstore_n (show decode cX9_doTold 8 = .ok (.lstore_n 2, 1) by decide +kernel) (by decide) ?_
  show Go d MX9_doTold 9 [some (vR a0), some (vI a1), some (vJ z8), none] [] S4 F5 G6 Q
  refine go_aload_n (show decode cX9_doTold 9 = .ok (.aload_n 0, 1) by decide +kernel) (by rfl) ?_
  obtain ⟨q9, h⟩ := h
  refine go_getR (show decode cX9_doTold 10 = .ok (.getfield 35, 3) by decide +kernel) fl_X9_35 rfl q9 ?_
  refine go_iload_n (show decode cX9_doTold 13 = .ok (.iload_n 1, 1) by decide +kernel) (by rfl) ?_
  obtain ⟨q14, h⟩ := h
  refine go_callV (d2 := d - 1) (M2 := MX5_kind) (n := 1) (ci := 5) (av := [vI a1]) (st := []) (show decode cX9_doTold 14 = .ok (.invokevirtual 368, 3) by decide +kernel) ml_X9_368 mt_X5_kind min_X5_kind mse_X5_kind (by decide) q14 rfl (Nat.le_of_ble_eq_true rfl) (by omega) (ok_mono h (fun w10 S11 F12 G13 h => ?_))
  obtain ⟨z15, e9, h⟩ := h
  subst e9
  show Go d MX9_doTold 17 [some (vR a0), some (vI a1), some (vJ z8), none] [vI z15] S11 F12 G13 Q
  obtain ⟨h_0, h_1, h_2, h_3, h_d⟩ := h
  by_cases hd9 : z15 < 0 ∨ 3 < z15
  · have h := h_d hd9
    refine go_swOut (tgt := 163) (show decode cX9_doTold 17 = .ok (.tableswitch 146 0 3 #[31, 83, 134, 140], 31) by decide +kernel) hd9 (by decide) ?_
    refine go_aload_n (show decode cX9_doTold 163 = .ok (.aload_n 0, 1) by decide +kernel) (by rfl) ?_
    obtain ⟨q115, h⟩ := h
    refine go_callV (d2 := d - 1) (M2 := MX9_cancel) (n := 0) (ci := 9) (av := []) (st := []) (show decode cX9_doTold 164 = .ok (.invokevirtual 387, 3) by decide +kernel) ml_X9_387 mt_X9_cancel min_X9_cancel mse_X9_cancel (by decide) q115 rfl (Nat.le_of_ble_eq_true rfl) (by omega) (ok_mono h (fun w111 S112 F113 G114 h => ?_))
    obtain ⟨z116, e9, h⟩ := h
    subst e9
    show Go d MX9_doTold 167 [some (vR a0), some (vI a1), some (vJ z8), none] [vI z116] S112 F113 G114 Q
    refine go_i2l (show decode cX9_doTold 167 = .ok (.i2l, 1) by decide +kernel) ?_
    exact go_lret (show decode cX9_doTold 168 = .ok (.lreturn, 1) by decide +kernel) rfl h
  by_cases hc0 : z15 = 0
  · have h := h_0 hc0
    refine go_swIn (tgt := 48) (show decode cX9_doTold 17 = .ok (.tableswitch 146 0 3 #[31, 83, 134, 140], 31) by decide +kernel) (by omega) (by omega) (by rw [hc0]; rfl) (by decide) ?_
    refine go_aload_n (show decode cX9_doTold 48 = .ok (.aload_n 0, 1) by decide +kernel) (by rfl) ?_
    refine go_aload_n (show decode cX9_doTold 49 = .ok (.aload_n 0, 1) by decide +kernel) (by rfl) ?_
    obtain ⟨q16, h⟩ := h
    refine go_getR (show decode cX9_doTold 50 = .ok (.getfield 35, 3) by decide +kernel) fl_X9_35 rfl q16 ?_
    refine go_iload_n (show decode cX9_doTold 53 = .ok (.iload_n 1, 1) by decide +kernel) (by rfl) ?_
    refine go_iconst (show decode cX9_doTold 54 = .ok (.iconst 0, 1) by decide +kernel) (by decide) ?_
    obtain ⟨q21, h⟩ := h
    refine go_callV (d2 := d - 1) (M2 := MX5_number) (n := 2) (ci := 5) (av := [vI a1, vI 0]) (st := [vR a0]) (show decode cX9_doTold 55 = .ok (.invokevirtual 371, 3) by decide +kernel) ml_X9_371 mt_X5_number min_X5_number mse_X5_number (by decide) q21 rfl (Nat.le_of_ble_eq_true rfl) (by omega) (ok_mono h (fun w17 S18 F19 G20 h => ?_))
    obtain ⟨z22, e9, h⟩ := h
    subst e9
    show Go d MX9_doTold 58 [some (vR a0), some (vI a1), some (vJ z8), none] [vI z22, vR a0] S18 F19 G20 Q
    refine go_aload_n (show decode cX9_doTold 58 = .ok (.aload_n 0, 1) by decide +kernel) (by rfl) ?_
    obtain ⟨q23, h⟩ := h
    refine go_getR (show decode cX9_doTold 59 = .ok (.getfield 35, 3) by decide +kernel) fl_X9_35 rfl q23 ?_
    refine go_iload_n (show decode cX9_doTold 62 = .ok (.iload_n 1, 1) by decide +kernel) (by rfl) ?_
    refine go_iconst (show decode cX9_doTold 63 = .ok (.iconst 1, 1) by decide +kernel) (by decide) ?_
    obtain ⟨q28, h⟩ := h
    refine go_callV (d2 := d - 1) (M2 := MX5_number) (n := 2) (ci := 5) (av := [vI a1, vI 1]) (st := [vI z22, vR a0]) (show decode cX9_doTold 64 = .ok (.invokevirtual 371, 3) by decide +kernel) ml_X9_371 mt_X5_number min_X5_number mse_X5_number (by decide) q28 rfl (Nat.le_of_ble_eq_true rfl) (by omega) (ok_mono h (fun w24 S25 F26 G27 h => ?_))
    obtain ⟨z29, e9, h⟩ := h
    subst e9
    show Go d MX9_doTold 67 [some (vR a0), some (vI a1), some (vJ z8), none] [vI z29, vI z22, vR a0] S25 F26 G27 Q
    refine go_aload_n (show decode cX9_doTold 67 = .ok (.aload_n 0, 1) by decide +kernel) (by rfl) ?_
    obtain ⟨q30, h⟩ := h
    refine go_getR (show decode cX9_doTold 68 = .ok (.getfield 35, 3) by decide +kernel) fl_X9_35 rfl q30 ?_
    refine go_iload_n (show decode cX9_doTold 71 = .ok (.iload_n 1, 1) by decide +kernel) (by rfl) ?_
    refine go_iconst (show decode cX9_doTold 72 = .ok (.iconst 2, 1) by decide +kernel) (by decide) ?_
    obtain ⟨q35, h⟩ := h
    refine go_callV (d2 := d - 1) (M2 := MX5_number) (n := 2) (ci := 5) (av := [vI a1, vI 2]) (st := [vI z29, vI z22, vR a0]) (show decode cX9_doTold 73 = .ok (.invokevirtual 371, 3) by decide +kernel) ml_X9_371 mt_X5_number min_X5_number mse_X5_number (by decide) q35 rfl (Nat.le_of_ble_eq_true rfl) (by omega) (ok_mono h (fun w31 S32 F33 G34 h => ?_))
    obtain ⟨z36, e9, h⟩ := h
    subst e9
    show Go d MX9_doTold 76 [some (vR a0), some (vI a1), some (vJ z8), none] [vI z36, vI z29, vI z22, vR a0] S32 F33 G34 Q
    refine go_aload_n (show decode cX9_doTold 76 = .ok (.aload_n 0, 1) by decide +kernel) (by rfl) ?_
    obtain ⟨q37, h⟩ := h
    refine go_getR (show decode cX9_doTold 77 = .ok (.getfield 35, 3) by decide +kernel) fl_X9_35 rfl q37 ?_
    refine go_iload_n (show decode cX9_doTold 80 = .ok (.iload_n 1, 1) by decide +kernel) (by rfl) ?_
    refine go_iconst (show decode cX9_doTold 81 = .ok (.iconst 3, 1) by decide +kernel) (by decide) ?_
    obtain ⟨q42, h⟩ := h
    refine go_callV (d2 := d - 1) (M2 := MX5_number) (n := 2) (ci := 5) (av := [vI a1, vI 3]) (st := [vI z36, vI z29, vI z22, vR a0]) (show decode cX9_doTold 82 = .ok (.invokevirtual 371, 3) by decide +kernel) ml_X9_371 mt_X5_number min_X5_number mse_X5_number (by decide) q42 rfl (Nat.le_of_ble_eq_true rfl) (by omega) (ok_mono h (fun w38 S39 F40 G41 h => ?_))
    obtain ⟨z43, e9, h⟩ := h
    subst e9
    show Go d MX9_doTold 85 [some (vR a0), some (vI a1), some (vJ z8), none] [vI z43, vI z36, vI z29, vI z22, vR a0] S39 F40 G41 Q
    refine go_aload_n (show decode cX9_doTold 85 = .ok (.aload_n 0, 1) by decide +kernel) (by rfl) ?_
    obtain ⟨q44, h⟩ := h
    refine go_getR (show decode cX9_doTold 86 = .ok (.getfield 35, 3) by decide +kernel) fl_X9_35 rfl q44 ?_
    refine go_iload_n (show decode cX9_doTold 89 = .ok (.iload_n 1, 1) by decide +kernel) (by rfl) ?_
    refine go_iconst (show decode cX9_doTold 90 = .ok (.iconst 4, 1) by decide +kernel) (by decide) ?_
    obtain ⟨q49, h⟩ := h
    refine go_callV (d2 := d - 1) (M2 := MX5_number) (n := 2) (ci := 5) (av := [vI a1, vI 4]) (st := [vI z43, vI z36, vI z29, vI z22, vR a0]) (show decode cX9_doTold 91 = .ok (.invokevirtual 371, 3) by decide +kernel) ml_X9_371 mt_X5_number min_X5_number mse_X5_number (by decide) q49 rfl (Nat.le_of_ble_eq_true rfl) (by omega) (ok_mono h (fun w45 S46 F47 G48 h => ?_))
    obtain ⟨z50, e9, h⟩ := h
    subst e9
    show Go d MX9_doTold 94 [some (vR a0), some (vI a1), some (vJ z8), none] [vI z50, vI z43, vI z36, vI z29, vI z22, vR a0] S46 F47 G48 Q
    refine go_lload_n (show decode cX9_doTold 94 = .ok (.lload_n 2, 1) by decide +kernel) (by rfl) ?_
    obtain ⟨q51, h⟩ := h
    refine go_l2i (show decode cX9_doTold 95 = .ok (.l2i, 1) by decide +kernel) q51 ?_
    obtain ⟨q56, h⟩ := h
    refine go_callV (d2 := d - 1) (M2 := MX9_add) (n := 6) (ci := 9) (av := [vI z22, vI z29, vI z36, vI z43, vI z50, vI z8]) (st := []) (show decode cX9_doTold 96 = .ok (.invokevirtual 373, 3) by decide +kernel) ml_X9_373 mt_X9_add min_X9_add mse_X9_add (by decide) q56 rfl (Nat.le_of_ble_eq_true rfl) (by omega) (ok_mono h (fun w52 S53 F54 G55 h => ?_))
    obtain ⟨z57, e9, h⟩ := h
    subst e9
    show Go d MX9_doTold 99 [some (vR a0), some (vI a1), some (vJ z8), none] [vJ z57] S53 F54 G55 Q
    exact go_lret (show decode cX9_doTold 99 = .ok (.lreturn, 1) by decide +kernel) rfl h
  by_cases hc1 : z15 = 1
  · have h := h_1 hc1
    refine go_swIn (tgt := 100) (show decode cX9_doTold 17 = .ok (.tableswitch 146 0 3 #[31, 83, 134, 140], 31) by decide +kernel) (by omega) (by omega) (by rw [hc1]; rfl) (by decide) ?_
    refine go_aload_n (show decode cX9_doTold 100 = .ok (.aload_n 0, 1) by decide +kernel) (by rfl) ?_
    refine go_aload_n (show decode cX9_doTold 101 = .ok (.aload_n 0, 1) by decide +kernel) (by rfl) ?_
    obtain ⟨q58, h⟩ := h
    refine go_getR (show decode cX9_doTold 102 = .ok (.getfield 35, 3) by decide +kernel) fl_X9_35 rfl q58 ?_
    refine go_iload_n (show decode cX9_doTold 105 = .ok (.iload_n 1, 1) by decide +kernel) (by rfl) ?_
    refine go_iconst (show decode cX9_doTold 106 = .ok (.iconst 0, 1) by decide +kernel) (by decide) ?_
    obtain ⟨q63, h⟩ := h
    refine go_callV (d2 := d - 1) (M2 := MX5_number) (n := 2) (ci := 5) (av := [vI a1, vI 0]) (st := [vR a0]) (show decode cX9_doTold 107 = .ok (.invokevirtual 371, 3) by decide +kernel) ml_X9_371 mt_X5_number min_X5_number mse_X5_number (by decide) q63 rfl (Nat.le_of_ble_eq_true rfl) (by omega) (ok_mono h (fun w59 S60 F61 G62 h => ?_))
    obtain ⟨z64, e9, h⟩ := h
    subst e9
    show Go d MX9_doTold 110 [some (vR a0), some (vI a1), some (vJ z8), none] [vI z64, vR a0] S60 F61 G62 Q
    refine go_aload_n (show decode cX9_doTold 110 = .ok (.aload_n 0, 1) by decide +kernel) (by rfl) ?_
    obtain ⟨q65, h⟩ := h
    refine go_getR (show decode cX9_doTold 111 = .ok (.getfield 35, 3) by decide +kernel) fl_X9_35 rfl q65 ?_
    refine go_iload_n (show decode cX9_doTold 114 = .ok (.iload_n 1, 1) by decide +kernel) (by rfl) ?_
    refine go_iconst (show decode cX9_doTold 115 = .ok (.iconst 1, 1) by decide +kernel) (by decide) ?_
    obtain ⟨q70, h⟩ := h
    refine go_callV (d2 := d - 1) (M2 := MX5_number) (n := 2) (ci := 5) (av := [vI a1, vI 1]) (st := [vI z64, vR a0]) (show decode cX9_doTold 116 = .ok (.invokevirtual 371, 3) by decide +kernel) ml_X9_371 mt_X5_number min_X5_number mse_X5_number (by decide) q70 rfl (Nat.le_of_ble_eq_true rfl) (by omega) (ok_mono h (fun w66 S67 F68 G69 h => ?_))
    obtain ⟨z71, e9, h⟩ := h
    subst e9
    show Go d MX9_doTold 119 [some (vR a0), some (vI a1), some (vJ z8), none] [vI z71, vI z64, vR a0] S67 F68 G69 Q
    refine go_aload_n (show decode cX9_doTold 119 = .ok (.aload_n 0, 1) by decide +kernel) (by rfl) ?_
    obtain ⟨q72, h⟩ := h
    refine go_getR (show decode cX9_doTold 120 = .ok (.getfield 35, 3) by decide +kernel) fl_X9_35 rfl q72 ?_
    refine go_iload_n (show decode cX9_doTold 123 = .ok (.iload_n 1, 1) by decide +kernel) (by rfl) ?_
    refine go_iconst (show decode cX9_doTold 124 = .ok (.iconst 2, 1) by decide +kernel) (by decide) ?_
    obtain ⟨q77, h⟩ := h
    refine go_callV (d2 := d - 1) (M2 := MX5_number) (n := 2) (ci := 5) (av := [vI a1, vI 2]) (st := [vI z71, vI z64, vR a0]) (show decode cX9_doTold 125 = .ok (.invokevirtual 371, 3) by decide +kernel) ml_X9_371 mt_X5_number min_X5_number mse_X5_number (by decide) q77 rfl (Nat.le_of_ble_eq_true rfl) (by omega) (ok_mono h (fun w73 S74 F75 G76 h => ?_))
    obtain ⟨z78, e9, h⟩ := h
    subst e9
    show Go d MX9_doTold 128 [some (vR a0), some (vI a1), some (vJ z8), none] [vI z78, vI z71, vI z64, vR a0] S74 F75 G76 Q
    refine go_aload_n (show decode cX9_doTold 128 = .ok (.aload_n 0, 1) by decide +kernel) (by rfl) ?_
    obtain ⟨q79, h⟩ := h
    refine go_getR (show decode cX9_doTold 129 = .ok (.getfield 35, 3) by decide +kernel) fl_X9_35 rfl q79 ?_
    refine go_iload_n (show decode cX9_doTold 132 = .ok (.iload_n 1, 1) by decide +kernel) (by rfl) ?_
    refine go_iconst (show decode cX9_doTold 133 = .ok (.iconst 3, 1) by decide +kernel) (by decide) ?_
    obtain ⟨q84, h⟩ := h
    refine go_callV (d2 := d - 1) (M2 := MX5_number) (n := 2) (ci := 5) (av := [vI a1, vI 3]) (st := [vI z78, vI z71, vI z64, vR a0]) (show decode cX9_doTold 134 = .ok (.invokevirtual 371, 3) by decide +kernel) ml_X9_371 mt_X5_number min_X5_number mse_X5_number (by decide) q84 rfl (Nat.le_of_ble_eq_true rfl) (by omega) (ok_mono h (fun w80 S81 F82 G83 h => ?_))
    obtain ⟨z85, e9, h⟩ := h
    subst e9
    show Go d MX9_doTold 137 [some (vR a0), some (vI a1), some (vJ z8), none] [vI z85, vI z78, vI z71, vI z64, vR a0] S81 F82 G83 Q
    refine go_aload_n (show decode cX9_doTold 137 = .ok (.aload_n 0, 1) by decide +kernel) (by rfl) ?_
    obtain ⟨q86, h⟩ := h
    refine go_getR (show decode cX9_doTold 138 = .ok (.getfield 35, 3) by decide +kernel) fl_X9_35 rfl q86 ?_
    refine go_iload_n (show decode cX9_doTold 141 = .ok (.iload_n 1, 1) by decide +kernel) (by rfl) ?_
    refine go_iconst (show decode cX9_doTold 142 = .ok (.iconst 4, 1) by decide +kernel) (by decide) ?_
    obtain ⟨q91, h⟩ := h
    refine go_callV (d2 := d - 1) (M2 := MX5_number) (n := 2) (ci := 5) (av := [vI a1, vI 4]) (st := [vI z85, vI z78, vI z71, vI z64, vR a0]) (show decode cX9_doTold 143 = .ok (.invokevirtual 371, 3) by decide +kernel) ml_X9_371 mt_X5_number min_X5_number mse_X5_number (by decide) q91 rfl (Nat.le_of_ble_eq_true rfl) (by omega) (ok_mono h (fun w87 S88 F89 G90 h => ?_))
    obtain ⟨z92, e9, h⟩ := h
    subst e9
    show Go d MX9_doTold 146 [some (vR a0), some (vI a1), some (vJ z8), none] [vI z92, vI z85, vI z78, vI z71, vI z64, vR a0] S88 F89 G90 Q
    refine go_lload_n (show decode cX9_doTold 146 = .ok (.lload_n 2, 1) by decide +kernel) (by rfl) ?_
    obtain ⟨q97, h⟩ := h
    refine go_callV (d2 := d - 1) (M2 := MX9_pick) (n := 6) (ci := 9) (av := [vI z64, vI z71, vI z78, vI z85, vI z92, vJ z8]) (st := []) (show decode cX9_doTold 147 = .ok (.invokevirtual 377, 3) by decide +kernel) ml_X9_377 mt_X9_pick min_X9_pick mse_X9_pick (by decide) q97 rfl (Nat.le_of_ble_eq_true rfl) (by omega) (ok_mono h (fun w93 S94 F95 G96 h => ?_))
    obtain ⟨z98, e9, h⟩ := h
    subst e9
    show Go d MX9_doTold 150 [some (vR a0), some (vI a1), some (vJ z8), none] [vJ z98] S94 F95 G96 Q
    exact go_lret (show decode cX9_doTold 150 = .ok (.lreturn, 1) by decide +kernel) rfl h
  by_cases hc2 : z15 = 2
  · have h := h_2 hc2
    refine go_swIn (tgt := 151) (show decode cX9_doTold 17 = .ok (.tableswitch 146 0 3 #[31, 83, 134, 140], 31) by decide +kernel) (by omega) (by omega) (by rw [hc2]; rfl) (by decide) ?_
    refine go_aload_n (show decode cX9_doTold 151 = .ok (.aload_n 0, 1) by decide +kernel) (by rfl) ?_
    obtain ⟨q103, h⟩ := h
    refine go_callV (d2 := d - 1) (M2 := MX9_begin) (n := 0) (ci := 9) (av := []) (st := []) (show decode cX9_doTold 152 = .ok (.invokevirtual 381, 3) by decide +kernel) ml_X9_381 mt_X9_begin min_X9_begin mse_X9_begin (by decide) q103 rfl (Nat.le_of_ble_eq_true rfl) (by omega) (ok_mono h (fun w99 S100 F101 G102 h => ?_))
    obtain ⟨z104, e9, h⟩ := h
    subst e9
    show Go d MX9_doTold 155 [some (vR a0), some (vI a1), some (vJ z8), none] [vI z104] S100 F101 G102 Q
    refine go_i2l (show decode cX9_doTold 155 = .ok (.i2l, 1) by decide +kernel) ?_
    exact go_lret (show decode cX9_doTold 156 = .ok (.lreturn, 1) by decide +kernel) rfl h
  by_cases hc3 : z15 = 3
  · have h := h_3 hc3
    refine go_swIn (tgt := 157) (show decode cX9_doTold 17 = .ok (.tableswitch 146 0 3 #[31, 83, 134, 140], 31) by decide +kernel) (by omega) (by omega) (by rw [hc3]; rfl) (by decide) ?_
    refine go_aload_n (show decode cX9_doTold 157 = .ok (.aload_n 0, 1) by decide +kernel) (by rfl) ?_
    obtain ⟨q109, h⟩ := h
    refine go_callV (d2 := d - 1) (M2 := MX9_commit) (n := 0) (ci := 9) (av := []) (st := []) (show decode cX9_doTold 158 = .ok (.invokevirtual 384, 3) by decide +kernel) ml_X9_384 mt_X9_commit min_X9_commit mse_X9_commit (by decide) q109 rfl (Nat.le_of_ble_eq_true rfl) (by omega) (ok_mono h (fun w105 S106 F107 G108 h => ?_))
    obtain ⟨z110, e9, h⟩ := h
    subst e9
    show Go d MX9_doTold 161 [some (vR a0), some (vI a1), some (vJ z8), none] [vI z110] S106 F107 G108 Q
    refine go_i2l (show decode cX9_doTold 161 = .ok (.i2l, 1) by decide +kernel) ?_
    exact go_lret (show decode cX9_doTold 162 = .ok (.lreturn, 1) by decide +kernel) rfl h
  exact absurd hd9 (by omega)
def V_X9_fault_0 (d : Nat) (S : AS) (F : AF) (G : AG) (Q : AQ) (a0 : Nat) (a1 : Int) : Prop :=
  ((a1 = 0) →
    (sK S a0 = 9) ∧
    (sK S (sR S a0 3) = 5) ∧
    Q (some (vI (F (sR S a0 3) 10))) S F G) ∧
  ((a1 = 1) →
    (sK S a0 = 9) ∧
    (sK S (sR S a0 3) = 5) ∧
    Q (some (vI (F (sR S a0 3) 11))) S F G) ∧
  ((a1 = 2) →
    (sK S a0 = 9) ∧
    Q (some (vI (F a0 6))) S F G) ∧
  ((a1 < 0 ∨ 2 < a1) →
    Q (some (vI (-1))) S F G)
theorem R_X9_fault_0 {d : Nat} {S : AS} {F : AF} {G : AG} {Q : AQ} {a0 : Nat} {a1 : Int} (h : V_X9_fault_0 d S F G Q a0 a1) : Go d MX9_fault 0 [some (vR a0), some (vI a1)] [] S F G Q := by
  unfold V_X9_fault_0 at h
  refine go_iload_n (show decode cX9_fault 0 = .ok (.iload_n 1, 1) by decide +kernel) (by rfl) ?_
  obtain ⟨h_0, h_1, h_2, h_d⟩ := h
  by_cases hd9 : a1 < 0 ∨ 2 < a1
  · have h := h_d hd9
    refine go_swOut (tgt := 49) (show decode cX9_fault 1 = .ok (.tableswitch 48 0 2 #[27, 35, 43], 27) by decide +kernel) hd9 (by decide) ?_
    refine go_iconst (show decode cX9_fault 49 = .ok (.iconst (-1), 1) by decide +kernel) (by decide) ?_
    exact go_iret (show decode cX9_fault 50 = .ok (.ireturn, 1) by decide +kernel) rfl h
  by_cases hc0 : a1 = 0
  · have h := h_0 hc0
    refine go_swIn (tgt := 28) (show decode cX9_fault 1 = .ok (.tableswitch 48 0 2 #[27, 35, 43], 27) by decide +kernel) (by omega) (by omega) (by rw [hc0]; rfl) (by decide) ?_
    refine go_aload_n (show decode cX9_fault 28 = .ok (.aload_n 0, 1) by decide +kernel) (by rfl) ?_
    obtain ⟨q1, h⟩ := h
    refine go_getR (show decode cX9_fault 29 = .ok (.getfield 35, 3) by decide +kernel) fl_X9_35 rfl q1 ?_
    obtain ⟨q2, h⟩ := h
    refine go_getI (show decode cX9_fault 32 = .ok (.getfield 258, 3) by decide +kernel) fl_X9_258 (Or.inl rfl) q2 ?_
    exact go_iret (show decode cX9_fault 35 = .ok (.ireturn, 1) by decide +kernel) rfl h
  by_cases hc1 : a1 = 1
  · have h := h_1 hc1
    refine go_swIn (tgt := 36) (show decode cX9_fault 1 = .ok (.tableswitch 48 0 2 #[27, 35, 43], 27) by decide +kernel) (by omega) (by omega) (by rw [hc1]; rfl) (by decide) ?_
    refine go_aload_n (show decode cX9_fault 36 = .ok (.aload_n 0, 1) by decide +kernel) (by rfl) ?_
    obtain ⟨q3, h⟩ := h
    refine go_getR (show decode cX9_fault 37 = .ok (.getfield 35, 3) by decide +kernel) fl_X9_35 rfl q3 ?_
    obtain ⟨q4, h⟩ := h
    refine go_getI (show decode cX9_fault 40 = .ok (.getfield 261, 3) by decide +kernel) fl_X9_261 (Or.inl rfl) q4 ?_
    exact go_iret (show decode cX9_fault 43 = .ok (.ireturn, 1) by decide +kernel) rfl h
  by_cases hc2 : a1 = 2
  · have h := h_2 hc2
    refine go_swIn (tgt := 44) (show decode cX9_fault 1 = .ok (.tableswitch 48 0 2 #[27, 35, 43], 27) by decide +kernel) (by omega) (by omega) (by rw [hc2]; rfl) (by decide) ?_
    refine go_aload_n (show decode cX9_fault 44 = .ok (.aload_n 0, 1) by decide +kernel) (by rfl) ?_
    obtain ⟨q5, h⟩ := h
    refine go_getI (show decode cX9_fault 45 = .ok (.getfield 248, 3) by decide +kernel) fl_X9_248 (Or.inl rfl) q5 ?_
    exact go_iret (show decode cX9_fault 48 = .ok (.ireturn, 1) by decide +kernel) rfl h
  exact absurd hd9 (by omega)
def V_X9_sum_0 (d : Nat) (S : AS) (F : AF) (G : AG) (Q : AQ) (a0 : Nat) (a1 : Int) (a2 : Int) (a3 : Int) (a4 : Int) (a5 : Int) : Prop :=
  (1 ≤ d) ∧
  Ok (d - 1) MX9_isGoodOrAll [vI a1] S F G (fun w2 S3 F4 G5 =>
  ∃ z6 : Int, w2 = some (vI z6) ∧
  ((z6 = 0) →
    Q (some (vJ (-2))) S3 F4 G5) ∧
  ((¬ z6 = 0) →
    (sK S3 a0 = 9) ∧
    Ok (d - 1) MX9_ask [vR a0, vI a2, vI a3, vI a4, vI a5] S3 F4 G5 (fun w7 S8 F9 G10 =>
    ∃ z12 : Int, w7 = some (vI z12) ∧
    ((¬ z12 = 0) →
      (sK S8 a0 = 9) ∧
      (sK S8 (sR S8 a0 0) = 2) ∧
      Ok (d - 1) MX2_sumOf [vR (sR S8 a0 0), vI a1, vR (sR S8 a0 4)] S8 F9 G10 (fun w14 S15 F16 G17 =>
      ∃ z19 : Int, w14 = some (vJ z19) ∧
      Q (some (vJ z19)) S15 F16 G17)) ∧
    ((z12 = 0) →
      Q (some (vJ (-2))) S8 F9 G10))))
theorem R_X9_sum_0 {d : Nat} {S : AS} {F : AF} {G : AG} {Q : AQ} {a0 : Nat} {a1 : Int} {a2 : Int} {a3 : Int} {a4 : Int} {a5 : Int} (h : V_X9_sum_0 d S F G Q a0 a1 a2 a3 a4 a5) : Go d MX9_sum 0 [some (vR a0), some (vI a1), some (vI a2), some (vI a3), some (vI a4), some (vI a5)] [] S F G Q := by
  unfold V_X9_sum_0 at h
  refine go_iload_n (show decode cX9_sum 0 = .ok (.iload_n 1, 1) by decide +kernel) (by rfl) ?_
  obtain ⟨q1, h⟩ := h
  refine go_callS (d2 := d - 1) (M2 := MX9_isGoodOrAll) (n := 1) (av := [vI a1]) (st := []) (show decode cX9_sum 1 = .ok (.invokestatic 264, 3) by decide +kernel) ml_X9_264 mt_X9_isGoodOrAll mst_X9_isGoodOrAll rfl (Nat.le_of_ble_eq_true rfl) (by omega) (ok_mono h (fun w2 S3 F4 G5 h => ?_))
  obtain ⟨z6, e9, h⟩ := h
  subst e9
  show Go d MX9_sum 4 [some (vR a0), some (vI a1), some (vI a2), some (vI a3), some (vI a4), some (vI a5)] [vI z6] S3 F4 G5 Q
  obtain ⟨ht, hf⟩ := h
  refine go_ifeq (tgt := 20) (show decode cX9_sum 4 = .ok (.ifCond .eq 16, 3) by decide +kernel) (by decide) (fun hc => ?_) (fun hc => ?_)
  · have h := ht hc
    refine go_ldc2 (show decode cX9_sum 20 = .ok (.ldc2_w 74, 3) by decide +kernel) lc_X9_74 (by decide) ?_
    exact go_lret (show decode cX9_sum 23 = .ok (.lreturn, 1) by decide +kernel) rfl h
  · have h := hf hc
    refine go_aload_n (show decode cX9_sum 7 = .ok (.aload_n 0, 1) by decide +kernel) (by rfl) ?_
    refine go_iload_n (show decode cX9_sum 8 = .ok (.iload_n 2, 1) by decide +kernel) (by rfl) ?_
    refine go_iload_n (show decode cX9_sum 9 = .ok (.iload_n 3, 1) by decide +kernel) (by rfl) ?_
    refine go_iload (show decode cX9_sum 10 = .ok (.iload 4, 2) by decide +kernel) (by rfl) ?_
    refine go_iload (show decode cX9_sum 12 = .ok (.iload 5, 2) by decide +kernel) (by rfl) ?_
    obtain ⟨q11, h⟩ := h
    refine go_callV (d2 := d - 1) (M2 := MX9_ask) (n := 4) (ci := 9) (av := [vI a2, vI a3, vI a4, vI a5]) (st := []) (show decode cX9_sum 14 = .ok (.invokevirtual 70, 3) by decide +kernel) ml_X9_70 mt_X9_ask min_X9_ask mse_X9_ask (by decide) q11 rfl (Nat.le_of_ble_eq_true rfl) (by omega) (ok_mono h (fun w7 S8 F9 G10 h => ?_))
    obtain ⟨z12, e9, h⟩ := h
    subst e9
    show Go d MX9_sum 17 [some (vR a0), some (vI a1), some (vI a2), some (vI a3), some (vI a4), some (vI a5)] [vI z12] S8 F9 G10 Q
    obtain ⟨ht, hf⟩ := h
    refine go_ifne (tgt := 24) (show decode cX9_sum 17 = .ok (.ifCond .ne 7, 3) by decide +kernel) (by decide) (fun hc => ?_) (fun hc => ?_)
    · have h := ht hc
      refine go_aload_n (show decode cX9_sum 24 = .ok (.aload_n 0, 1) by decide +kernel) (by rfl) ?_
      obtain ⟨q13, h⟩ := h
      refine go_getR (show decode cX9_sum 25 = .ok (.getfield 12, 3) by decide +kernel) fl_X9_12 rfl q13 ?_
      refine go_iload_n (show decode cX9_sum 28 = .ok (.iload_n 1, 1) by decide +kernel) (by rfl) ?_
      refine go_aload_n (show decode cX9_sum 29 = .ok (.aload_n 0, 1) by decide +kernel) (by rfl) ?_
      refine go_getR (show decode cX9_sum 30 = .ok (.getfield 42, 3) by decide +kernel) fl_X9_42 rfl q13 ?_
      obtain ⟨q18, h⟩ := h
      refine go_callV (d2 := d - 1) (M2 := MX2_sumOf) (n := 2) (ci := 2) (av := [vI a1, vR (sR S8 a0 4)]) (st := []) (show decode cX9_sum 33 = .ok (.invokevirtual 103, 3) by decide +kernel) ml_X9_103 mt_X2_sumOf min_X2_sumOf mse_X2_sumOf (by decide) q18 rfl (Nat.le_of_ble_eq_true rfl) (by omega) (ok_mono h (fun w14 S15 F16 G17 h => ?_))
      obtain ⟨z19, e9, h⟩ := h
      subst e9
      show Go d MX9_sum 36 [some (vR a0), some (vI a1), some (vI a2), some (vI a3), some (vI a4), some (vI a5)] [vJ z19] S15 F16 G17 Q
      exact go_lret (show decode cX9_sum 36 = .ok (.lreturn, 1) by decide +kernel) rfl h
    · have h := hf hc
      refine go_ldc2 (show decode cX9_sum 20 = .ok (.ldc2_w 74, 3) by decide +kernel) lc_X9_74 (by decide) ?_
      exact go_lret (show decode cX9_sum 23 = .ok (.lreturn, 1) by decide +kernel) rfl h
def V_X9_isGoodOrAll_0 (d : Nat) (S : AS) (F : AF) (G : AG) (Q : AQ) (a0 : Int) : Prop :=
  ((a0 = -1) →
    Q (some (vI 1)) S F G) ∧
  ((¬ a0 = -1) →
    (1 ≤ d) ∧
    Ok (d - 1) MX9_isGood [vI a0] S F G (fun w2 S3 F4 G5 =>
    ∃ z6 : Int, w2 = some (vI z6) ∧
    ((z6 = 0) →
      Q (some (vI 0)) S3 F4 G5) ∧
    ((¬ z6 = 0) →
      Q (some (vI 1)) S3 F4 G5)))
theorem R_X9_isGoodOrAll_0 {d : Nat} {S : AS} {F : AF} {G : AG} {Q : AQ} {a0 : Int} (h : V_X9_isGoodOrAll_0 d S F G Q a0) : Go d MX9_isGoodOrAll 0 [some (vI a0)] [] S F G Q := by
  unfold V_X9_isGoodOrAll_0 at h
  refine go_iload_n (show decode cX9_isGoodOrAll 0 = .ok (.iload_n 0, 1) by decide +kernel) (by rfl) ?_
  refine go_iconst (show decode cX9_isGoodOrAll 1 = .ok (.iconst (-1), 1) by decide +kernel) (by decide) ?_
  obtain ⟨ht, hf⟩ := h
  refine go_icmpeq (tgt := 12) (show decode cX9_isGoodOrAll 2 = .ok (.if_icmp .eq 10, 3) by decide +kernel) (by decide) (fun hc => ?_) (fun hc => ?_)
  · have h := ht hc
    refine go_iconst (show decode cX9_isGoodOrAll 12 = .ok (.iconst 1, 1) by decide +kernel) (by decide) ?_
    refine go_goto (tgt := 17) (show decode cX9_isGoodOrAll 13 = .ok (.goto 4, 3) by decide +kernel) (by decide) ?_
    exact go_zret (show decode cX9_isGoodOrAll 17 = .ok (.ireturn, 1) by decide +kernel) rfl (by decide) h
  · have h := hf hc
    refine go_iload_n (show decode cX9_isGoodOrAll 5 = .ok (.iload_n 0, 1) by decide +kernel) (by rfl) ?_
    obtain ⟨q1, h⟩ := h
    refine go_callS (d2 := d - 1) (M2 := MX9_isGood) (n := 1) (av := [vI a0]) (st := []) (show decode cX9_isGoodOrAll 6 = .ok (.invokestatic 66, 3) by decide +kernel) ml_X9_66 mt_X9_isGood mst_X9_isGood rfl (Nat.le_of_ble_eq_true rfl) (by omega) (ok_mono h (fun w2 S3 F4 G5 h => ?_))
    obtain ⟨z6, e9, h⟩ := h
    subst e9
    show Go d MX9_isGoodOrAll 9 [some (vI a0)] [vI z6] S3 F4 G5 Q
    obtain ⟨ht, hf⟩ := h
    refine go_ifeq (tgt := 16) (show decode cX9_isGoodOrAll 9 = .ok (.ifCond .eq 7, 3) by decide +kernel) (by decide) (fun hc => ?_) (fun hc => ?_)
    · have h := ht hc
      refine go_iconst (show decode cX9_isGoodOrAll 16 = .ok (.iconst 0, 1) by decide +kernel) (by decide) ?_
      exact go_zret (show decode cX9_isGoodOrAll 17 = .ok (.ireturn, 1) by decide +kernel) rfl (by decide) h
    · have h := hf hc
      refine go_iconst (show decode cX9_isGoodOrAll 12 = .ok (.iconst 1, 1) by decide +kernel) (by decide) ?_
      refine go_goto (tgt := 17) (show decode cX9_isGoodOrAll 13 = .ok (.goto 4, 3) by decide +kernel) (by decide) ?_
      exact go_zret (show decode cX9_isGoodOrAll 17 = .ok (.ireturn, 1) by decide +kernel) rfl (by decide) h
def V_X9_at_0 (d : Nat) (S : AS) (F : AF) (G : AG) (Q : AQ) (a0 : Nat) (a1 : Int) (a2 : Int) (a3 : Int) : Prop :=
  (1 ≤ d) ∧
  Ok (d - 1) MX9_isGoodOrAll [vI a1] S F G (fun w2 S3 F4 G5 =>
  ∃ z6 : Int, w2 = some (vI z6) ∧
  ((z6 = 0) →
    Q (some (vJ (-2))) S3 F4 G5) ∧
  ((¬ z6 = 0) →
    (sK S3 a0 = 9) ∧
    Ok (d - 1) MX9_ask [vR a0, vI a2, vI a3, vI a2, vI a3] S3 F4 G5 (fun w7 S8 F9 G10 =>
    ∃ z12 : Int, w7 = some (vI z12) ∧
    ((¬ z12 = 0) →
      (sK S8 a0 = 9) ∧
      (sK S8 (sR S8 a0 0) = 2) ∧
      Ok (d - 1) MX2_sumOf [vR (sR S8 a0 0), vI a1, vR (sR S8 a0 4)] S8 F9 G10 (fun w14 S15 F16 G17 =>
      ∃ z19 : Int, w14 = some (vJ z19) ∧
      Q (some (vJ z19)) S15 F16 G17)) ∧
    ((z12 = 0) →
      Q (some (vJ (-2))) S8 F9 G10))))
theorem R_X9_at_0 {d : Nat} {S : AS} {F : AF} {G : AG} {Q : AQ} {a0 : Nat} {a1 : Int} {a2 : Int} {a3 : Int} (h : V_X9_at_0 d S F G Q a0 a1 a2 a3) : Go d MX9_at 0 [some (vR a0), some (vI a1), some (vI a2), some (vI a3)] [] S F G Q := by
  unfold V_X9_at_0 at h
  refine go_iload_n (show decode cX9_at 0 = .ok (.iload_n 1, 1) by decide +kernel) (by rfl) ?_
  obtain ⟨q1, h⟩ := h
  refine go_callS (d2 := d - 1) (M2 := MX9_isGoodOrAll) (n := 1) (av := [vI a1]) (st := []) (show decode cX9_at 1 = .ok (.invokestatic 264, 3) by decide +kernel) ml_X9_264 mt_X9_isGoodOrAll mst_X9_isGoodOrAll rfl (Nat.le_of_ble_eq_true rfl) (by omega) (ok_mono h (fun w2 S3 F4 G5 h => ?_))
  obtain ⟨z6, e9, h⟩ := h
  subst e9
  show Go d MX9_at 4 [some (vR a0), some (vI a1), some (vI a2), some (vI a3)] [vI z6] S3 F4 G5 Q
  obtain ⟨ht, hf⟩ := h
  refine go_ifeq (tgt := 18) (show decode cX9_at 4 = .ok (.ifCond .eq 14, 3) by decide +kernel) (by decide) (fun hc => ?_) (fun hc => ?_)
  · have h := ht hc
    refine go_ldc2 (show decode cX9_at 18 = .ok (.ldc2_w 74, 3) by decide +kernel) lc_X9_74 (by decide) ?_
    exact go_lret (show decode cX9_at 21 = .ok (.lreturn, 1) by decide +kernel) rfl h
  · have h := hf hc
    refine go_aload_n (show decode cX9_at 7 = .ok (.aload_n 0, 1) by decide +kernel) (by rfl) ?_
    refine go_iload_n (show decode cX9_at 8 = .ok (.iload_n 2, 1) by decide +kernel) (by rfl) ?_
    refine go_iload_n (show decode cX9_at 9 = .ok (.iload_n 3, 1) by decide +kernel) (by rfl) ?_
    refine go_iload_n (show decode cX9_at 10 = .ok (.iload_n 2, 1) by decide +kernel) (by rfl) ?_
    refine go_iload_n (show decode cX9_at 11 = .ok (.iload_n 3, 1) by decide +kernel) (by rfl) ?_
    obtain ⟨q11, h⟩ := h
    refine go_callV (d2 := d - 1) (M2 := MX9_ask) (n := 4) (ci := 9) (av := [vI a2, vI a3, vI a2, vI a3]) (st := []) (show decode cX9_at 12 = .ok (.invokevirtual 70, 3) by decide +kernel) ml_X9_70 mt_X9_ask min_X9_ask mse_X9_ask (by decide) q11 rfl (Nat.le_of_ble_eq_true rfl) (by omega) (ok_mono h (fun w7 S8 F9 G10 h => ?_))
    obtain ⟨z12, e9, h⟩ := h
    subst e9
    show Go d MX9_at 15 [some (vR a0), some (vI a1), some (vI a2), some (vI a3)] [vI z12] S8 F9 G10 Q
    obtain ⟨ht, hf⟩ := h
    refine go_ifne (tgt := 22) (show decode cX9_at 15 = .ok (.ifCond .ne 7, 3) by decide +kernel) (by decide) (fun hc => ?_) (fun hc => ?_)
    · have h := ht hc
      refine go_aload_n (show decode cX9_at 22 = .ok (.aload_n 0, 1) by decide +kernel) (by rfl) ?_
      obtain ⟨q13, h⟩ := h
      refine go_getR (show decode cX9_at 23 = .ok (.getfield 12, 3) by decide +kernel) fl_X9_12 rfl q13 ?_
      refine go_iload_n (show decode cX9_at 26 = .ok (.iload_n 1, 1) by decide +kernel) (by rfl) ?_
      refine go_aload_n (show decode cX9_at 27 = .ok (.aload_n 0, 1) by decide +kernel) (by rfl) ?_
      refine go_getR (show decode cX9_at 28 = .ok (.getfield 42, 3) by decide +kernel) fl_X9_42 rfl q13 ?_
      obtain ⟨q18, h⟩ := h
      refine go_callV (d2 := d - 1) (M2 := MX2_sumOf) (n := 2) (ci := 2) (av := [vI a1, vR (sR S8 a0 4)]) (st := []) (show decode cX9_at 31 = .ok (.invokevirtual 103, 3) by decide +kernel) ml_X9_103 mt_X2_sumOf min_X2_sumOf mse_X2_sumOf (by decide) q18 rfl (Nat.le_of_ble_eq_true rfl) (by omega) (ok_mono h (fun w14 S15 F16 G17 h => ?_))
      obtain ⟨z19, e9, h⟩ := h
      subst e9
      show Go d MX9_at 34 [some (vR a0), some (vI a1), some (vI a2), some (vI a3)] [vJ z19] S15 F16 G17 Q
      exact go_lret (show decode cX9_at 34 = .ok (.lreturn, 1) by decide +kernel) rfl h
    · have h := hf hc
      refine go_ldc2 (show decode cX9_at 18 = .ok (.ldc2_w 74, 3) by decide +kernel) lc_X9_74 (by decide) ?_
      exact go_lret (show decode cX9_at 21 = .ok (.lreturn, 1) by decide +kernel) rfl h
def V_X9_bound_0 (d : Nat) (S : AS) (F : AF) (G : AG) (Q : AQ) (a0 : Nat) (a1 : Int) (a2 : Int) (a3 : Int) (a4 : Int) (a5 : Int) (a6 : Int) : Prop :=
  (1 ≤ d) ∧
  Ok (d - 1) MX9_isGoodOrAll [vI a1] S F G (fun w2 S3 F4 G5 =>
  ∃ z6 : Int, w2 = some (vI z6) ∧
  ((z6 = 0) →
    Q (some (vJ (-2))) S3 F4 G5) ∧
  ((¬ z6 = 0) →
    (sK S3 a0 = 9) ∧
    Ok (d - 1) MX9_ask [vR a0, vI a2, vI a3, vI a4, vI a5] S3 F4 G5 (fun w7 S8 F9 G10 =>
    ∃ z12 : Int, w7 = some (vI z12) ∧
    ((z12 = 0) →
      Q (some (vJ (-2))) S8 F9 G10) ∧
    ((¬ z12 = 0) →
      ((a6 < 0) →
        Q (some (vJ (-2))) S8 F9 G10) ∧
      ((¬ a6 < 0) →
        ((a6 ≤ 1) →
          ((¬ a6 = 0) →
            (sK S8 a0 = 9) ∧
            (sK S8 (sR S8 a0 0) = 2) ∧
            Ok (d - 1) MX2_mostIn [vR (sR S8 a0 0), vI a1, vR (sR S8 a0 4)] S8 F9 G10 (fun w14 S15 F16 G17 =>
            ∃ z19 : Int, w14 = some (vJ z19) ∧
            Q (some (vJ z19)) S15 F16 G17)) ∧
          ((a6 = 0) →
            (sK S8 a0 = 9) ∧
            (sK S8 (sR S8 a0 0) = 2) ∧
            Ok (d - 1) MX2_leastIn [vR (sR S8 a0 0), vI a1, vR (sR S8 a0 4)] S8 F9 G10 (fun w21 S22 F23 G24 =>
            ∃ z26 : Int, w21 = some (vJ z26) ∧
            Q (some (vJ z26)) S22 F23 G24))) ∧
        ((¬ a6 ≤ 1) →
          Q (some (vJ (-2))) S8 F9 G10))))))
theorem R_X9_bound_0 {d : Nat} {S : AS} {F : AF} {G : AG} {Q : AQ} {a0 : Nat} {a1 : Int} {a2 : Int} {a3 : Int} {a4 : Int} {a5 : Int} {a6 : Int} (h : V_X9_bound_0 d S F G Q a0 a1 a2 a3 a4 a5 a6) : Go d MX9_bound 0 [some (vR a0), some (vI a1), some (vI a2), some (vI a3), some (vI a4), some (vI a5), some (vI a6)] [] S F G Q := by
  unfold V_X9_bound_0 at h
  refine go_iload_n (show decode cX9_bound 0 = .ok (.iload_n 1, 1) by decide +kernel) (by rfl) ?_
  obtain ⟨q1, h⟩ := h
  refine go_callS (d2 := d - 1) (M2 := MX9_isGoodOrAll) (n := 1) (av := [vI a1]) (st := []) (show decode cX9_bound 1 = .ok (.invokestatic 264, 3) by decide +kernel) ml_X9_264 mt_X9_isGoodOrAll mst_X9_isGoodOrAll rfl (Nat.le_of_ble_eq_true rfl) (by omega) (ok_mono h (fun w2 S3 F4 G5 h => ?_))
  obtain ⟨z6, e9, h⟩ := h
  subst e9
  show Go d MX9_bound 4 [some (vR a0), some (vI a1), some (vI a2), some (vI a3), some (vI a4), some (vI a5), some (vI a6)] [vI z6] S3 F4 G5 Q
  obtain ⟨ht, hf⟩ := h
  refine go_ifeq (tgt := 31) (show decode cX9_bound 4 = .ok (.ifCond .eq 27, 3) by decide +kernel) (by decide) (fun hc => ?_) (fun hc => ?_)
  · have h := ht hc
    refine go_ldc2 (show decode cX9_bound 31 = .ok (.ldc2_w 74, 3) by decide +kernel) lc_X9_74 (by decide) ?_
    exact go_lret (show decode cX9_bound 34 = .ok (.lreturn, 1) by decide +kernel) rfl h
  · have h := hf hc
    refine go_aload_n (show decode cX9_bound 7 = .ok (.aload_n 0, 1) by decide +kernel) (by rfl) ?_
    refine go_iload_n (show decode cX9_bound 8 = .ok (.iload_n 2, 1) by decide +kernel) (by rfl) ?_
    refine go_iload_n (show decode cX9_bound 9 = .ok (.iload_n 3, 1) by decide +kernel) (by rfl) ?_
    refine go_iload (show decode cX9_bound 10 = .ok (.iload 4, 2) by decide +kernel) (by rfl) ?_
    refine go_iload (show decode cX9_bound 12 = .ok (.iload 5, 2) by decide +kernel) (by rfl) ?_
    obtain ⟨q11, h⟩ := h
    refine go_callV (d2 := d - 1) (M2 := MX9_ask) (n := 4) (ci := 9) (av := [vI a2, vI a3, vI a4, vI a5]) (st := []) (show decode cX9_bound 14 = .ok (.invokevirtual 70, 3) by decide +kernel) ml_X9_70 mt_X9_ask min_X9_ask mse_X9_ask (by decide) q11 rfl (Nat.le_of_ble_eq_true rfl) (by omega) (ok_mono h (fun w7 S8 F9 G10 h => ?_))
    obtain ⟨z12, e9, h⟩ := h
    subst e9
    show Go d MX9_bound 17 [some (vR a0), some (vI a1), some (vI a2), some (vI a3), some (vI a4), some (vI a5), some (vI a6)] [vI z12] S8 F9 G10 Q
    obtain ⟨ht, hf⟩ := h
    refine go_ifeq (tgt := 31) (show decode cX9_bound 17 = .ok (.ifCond .eq 14, 3) by decide +kernel) (by decide) (fun hc => ?_) (fun hc => ?_)
    · have h := ht hc
      refine go_ldc2 (show decode cX9_bound 31 = .ok (.ldc2_w 74, 3) by decide +kernel) lc_X9_74 (by decide) ?_
      exact go_lret (show decode cX9_bound 34 = .ok (.lreturn, 1) by decide +kernel) rfl h
    · have h := hf hc
      refine go_iload (show decode cX9_bound 20 = .ok (.iload 6, 2) by decide +kernel) (by rfl) ?_
      obtain ⟨ht, hf⟩ := h
      refine go_iflt (tgt := 31) (show decode cX9_bound 22 = .ok (.ifCond .lt 9, 3) by decide +kernel) (by decide) (fun hc => ?_) (fun hc => ?_)
      · have h := ht hc
        refine go_ldc2 (show decode cX9_bound 31 = .ok (.ldc2_w 74, 3) by decide +kernel) lc_X9_74 (by decide) ?_
        exact go_lret (show decode cX9_bound 34 = .ok (.lreturn, 1) by decide +kernel) rfl h
      · have h := hf hc
        refine go_iload (show decode cX9_bound 25 = .ok (.iload 6, 2) by decide +kernel) (by rfl) ?_
        refine go_iconst (show decode cX9_bound 27 = .ok (.iconst 1, 1) by decide +kernel) (by decide) ?_
        obtain ⟨ht, hf⟩ := h
        refine go_icmple (tgt := 35) (show decode cX9_bound 28 = .ok (.if_icmp .le 7, 3) by decide +kernel) (by decide) (fun hc => ?_) (fun hc => ?_)
        · have h := ht hc
          refine go_iload (show decode cX9_bound 35 = .ok (.iload 6, 2) by decide +kernel) (by rfl) ?_
          obtain ⟨ht, hf⟩ := h
          refine go_ifne (tgt := 55) (show decode cX9_bound 37 = .ok (.ifCond .ne 18, 3) by decide +kernel) (by decide) (fun hc => ?_) (fun hc => ?_)
          · have h := ht hc
            refine go_aload_n (show decode cX9_bound 55 = .ok (.aload_n 0, 1) by decide +kernel) (by rfl) ?_
            obtain ⟨q13, h⟩ := h
            refine go_getR (show decode cX9_bound 56 = .ok (.getfield 12, 3) by decide +kernel) fl_X9_12 rfl q13 ?_
            refine go_iload_n (show decode cX9_bound 59 = .ok (.iload_n 1, 1) by decide +kernel) (by rfl) ?_
            refine go_aload_n (show decode cX9_bound 60 = .ok (.aload_n 0, 1) by decide +kernel) (by rfl) ?_
            refine go_getR (show decode cX9_bound 61 = .ok (.getfield 42, 3) by decide +kernel) fl_X9_42 rfl q13 ?_
            obtain ⟨q18, h⟩ := h
            refine go_callV (d2 := d - 1) (M2 := MX2_mostIn) (n := 2) (ci := 2) (av := [vI a1, vR (sR S8 a0 4)]) (st := []) (show decode cX9_bound 64 = .ok (.invokevirtual 270, 3) by decide +kernel) ml_X9_270 mt_X2_mostIn min_X2_mostIn mse_X2_mostIn (by decide) q18 rfl (Nat.le_of_ble_eq_true rfl) (by omega) (ok_mono h (fun w14 S15 F16 G17 h => ?_))
            obtain ⟨z19, e9, h⟩ := h
            subst e9
            show Go d MX9_bound 67 [some (vR a0), some (vI a1), some (vI a2), some (vI a3), some (vI a4), some (vI a5), some (vI a6)] [vJ z19] S15 F16 G17 Q
            exact go_lret (show decode cX9_bound 67 = .ok (.lreturn, 1) by decide +kernel) rfl h
          · have h := hf hc
            refine go_aload_n (show decode cX9_bound 40 = .ok (.aload_n 0, 1) by decide +kernel) (by rfl) ?_
            obtain ⟨q20, h⟩ := h
            refine go_getR (show decode cX9_bound 41 = .ok (.getfield 12, 3) by decide +kernel) fl_X9_12 rfl q20 ?_
            refine go_iload_n (show decode cX9_bound 44 = .ok (.iload_n 1, 1) by decide +kernel) (by rfl) ?_
            refine go_aload_n (show decode cX9_bound 45 = .ok (.aload_n 0, 1) by decide +kernel) (by rfl) ?_
            refine go_getR (show decode cX9_bound 46 = .ok (.getfield 42, 3) by decide +kernel) fl_X9_42 rfl q20 ?_
            obtain ⟨q25, h⟩ := h
            refine go_callV (d2 := d - 1) (M2 := MX2_leastIn) (n := 2) (ci := 2) (av := [vI a1, vR (sR S8 a0 4)]) (st := []) (show decode cX9_bound 49 = .ok (.invokevirtual 267, 3) by decide +kernel) ml_X9_267 mt_X2_leastIn min_X2_leastIn mse_X2_leastIn (by decide) q25 rfl (Nat.le_of_ble_eq_true rfl) (by omega) (ok_mono h (fun w21 S22 F23 G24 h => ?_))
            obtain ⟨z26, e9, h⟩ := h
            subst e9
            show Go d MX9_bound 52 [some (vR a0), some (vI a1), some (vI a2), some (vI a3), some (vI a4), some (vI a5), some (vI a6)] [vJ z26] S22 F23 G24 Q
            refine go_goto (tgt := 67) (show decode cX9_bound 52 = .ok (.goto 15, 3) by decide +kernel) (by decide) ?_
            exact go_lret (show decode cX9_bound 67 = .ok (.lreturn, 1) by decide +kernel) rfl h
        · have h := hf hc
          refine go_ldc2 (show decode cX9_bound 31 = .ok (.ldc2_w 74, 3) by decide +kernel) lc_X9_74 (by decide) ?_
          exact go_lret (show decode cX9_bound 34 = .ok (.lreturn, 1) by decide +kernel) rfl h
def V_X9_empty_0 (d : Nat) (S : AS) (F : AF) (G : AG) (Q : AQ) (a0 : Nat) (a1 : Int) (a2 : Int) (a3 : Int) (a4 : Int) : Prop :=
  (1 ≤ d) ∧
  (sK S a0 = 9) ∧
  Ok (d - 1) MX9_ask [vR a0, vI a1, vI a2, vI a3, vI a4] S F G (fun w2 S3 F4 G5 =>
  ∃ z7 : Int, w2 = some (vI z7) ∧
  ((¬ z7 = 0) →
    (sK S3 a0 = 9) ∧
    (sK S3 (sR S3 a0 4) = 3) ∧
    Ok (d - 1) MX3_cells [vR (sR S3 a0 4)] S3 F4 G5 (fun w9 S10 F11 G12 =>
    ∃ z14 : Int, w9 = some (vJ z14) ∧
    (sK S10 a0 = 9) ∧
    (sK S10 (sR S10 a0 0) = 2) ∧
    Ok (d - 1) MX2_cellsFrom [vR (sR S10 a0 0), vI (-1), vR (sR S10 a0 4), vJ 1] S10 F11 G12 (fun w16 S17 F18 G19 =>
    ∃ z21 : Int, w16 = some (vJ z21) ∧
    (r64 (z14 - z21)) ∧
    Q (some (vJ (z14 - z21))) S17 F18 G19))) ∧
  ((z7 = 0) →
    Q (some (vJ (-2))) S3 F4 G5))
theorem R_X9_empty_0 {d : Nat} {S : AS} {F : AF} {G : AG} {Q : AQ} {a0 : Nat} {a1 : Int} {a2 : Int} {a3 : Int} {a4 : Int} (h : V_X9_empty_0 d S F G Q a0 a1 a2 a3 a4) : Go d MX9_empty 0 [some (vR a0), some (vI a1), some (vI a2), some (vI a3), some (vI a4)] [] S F G Q := by
  unfold V_X9_empty_0 at h
  refine go_aload_n (show decode cX9_empty 0 = .ok (.aload_n 0, 1) by decide +kernel) (by rfl) ?_
  refine go_iload_n (show decode cX9_empty 1 = .ok (.iload_n 1, 1) by decide +kernel) (by rfl) ?_
  refine go_iload_n (show decode cX9_empty 2 = .ok (.iload_n 2, 1) by decide +kernel) (by rfl) ?_
  refine go_iload_n (show decode cX9_empty 3 = .ok (.iload_n 3, 1) by decide +kernel) (by rfl) ?_
  refine go_iload (show decode cX9_empty 4 = .ok (.iload 4, 2) by decide +kernel) (by rfl) ?_
  obtain ⟨q1, h⟩ := h
  obtain ⟨q6, h⟩ := h
  refine go_callV (d2 := d - 1) (M2 := MX9_ask) (n := 4) (ci := 9) (av := [vI a1, vI a2, vI a3, vI a4]) (st := []) (show decode cX9_empty 6 = .ok (.invokevirtual 70, 3) by decide +kernel) ml_X9_70 mt_X9_ask min_X9_ask mse_X9_ask (by decide) q6 rfl (Nat.le_of_ble_eq_true rfl) (by omega) (ok_mono h (fun w2 S3 F4 G5 h => ?_))
  obtain ⟨z7, e9, h⟩ := h
  subst e9
  show Go d MX9_empty 9 [some (vR a0), some (vI a1), some (vI a2), some (vI a3), some (vI a4)] [vI z7] S3 F4 G5 Q
  obtain ⟨ht, hf⟩ := h
  refine go_ifne (tgt := 16) (show decode cX9_empty 9 = .ok (.ifCond .ne 7, 3) by decide +kernel) (by decide) (fun hc => ?_) (fun hc => ?_)
  · have h := ht hc
    refine go_aload_n (show decode cX9_empty 16 = .ok (.aload_n 0, 1) by decide +kernel) (by rfl) ?_
    obtain ⟨q8, h⟩ := h
    refine go_getR (show decode cX9_empty 17 = .ok (.getfield 42, 3) by decide +kernel) fl_X9_42 rfl q8 ?_
    obtain ⟨q13, h⟩ := h
    refine go_callV (d2 := d - 1) (M2 := MX3_cells) (n := 0) (ci := 3) (av := []) (st := []) (show decode cX9_empty 20 = .ok (.invokevirtual 62, 3) by decide +kernel) ml_X9_62 mt_X3_cells min_X3_cells mse_X3_cells (by decide) q13 rfl (Nat.le_of_ble_eq_true rfl) (by omega) (ok_mono h (fun w9 S10 F11 G12 h => ?_))
    obtain ⟨z14, e9, h⟩ := h
    subst e9
    show Go d MX9_empty 23 [some (vR a0), some (vI a1), some (vI a2), some (vI a3), some (vI a4)] [vJ z14] S10 F11 G12 Q
    refine go_aload_n (show decode cX9_empty 23 = .ok (.aload_n 0, 1) by decide +kernel) (by rfl) ?_
    obtain ⟨q15, h⟩ := h
    refine go_getR (show decode cX9_empty 24 = .ok (.getfield 12, 3) by decide +kernel) fl_X9_12 rfl q15 ?_
    refine go_iconst (show decode cX9_empty 27 = .ok (.iconst (-1), 1) by decide +kernel) (by decide) ?_
    refine go_aload_n (show decode cX9_empty 28 = .ok (.aload_n 0, 1) by decide +kernel) (by rfl) ?_
    refine go_getR (show decode cX9_empty 29 = .ok (.getfield 42, 3) by decide +kernel) fl_X9_42 rfl q15 ?_
    refine go_lconst (n := 1) (show decode cX9_empty 32 = .ok (.lconst 1, 1) by decide +kernel) ?_
    show Go d MX9_empty 33 [some (vR a0), some (vI a1), some (vI a2), some (vI a3), some (vI a4)] [vJ 1, vR (sR S10 a0 4), vI (-1), vR (sR S10 a0 0), vJ z14] S10 F11 G12 Q
    obtain ⟨q20, h⟩ := h
    refine go_callV (d2 := d - 1) (M2 := MX2_cellsFrom) (n := 3) (ci := 2) (av := [vI (-1), vR (sR S10 a0 4), vJ 1]) (st := [vJ z14]) (show decode cX9_empty 33 = .ok (.invokevirtual 273, 3) by decide +kernel) ml_X9_273 mt_X2_cellsFrom min_X2_cellsFrom mse_X2_cellsFrom (by decide) q20 rfl (Nat.le_of_ble_eq_true rfl) (by omega) (ok_mono h (fun w16 S17 F18 G19 h => ?_))
    obtain ⟨z21, e9, h⟩ := h
    subst e9
    show Go d MX9_empty 36 [some (vR a0), some (vI a1), some (vI a2), some (vI a3), some (vI a4)] [vJ z21, vJ z14] S17 F18 G19 Q
    obtain ⟨q22, h⟩ := h
    refine go_lsub (show decode cX9_empty 36 = .ok (.lsub, 1) by decide +kernel) q22 ?_
    exact go_lret (show decode cX9_empty 37 = .ok (.lreturn, 1) by decide +kernel) rfl h
  · have h := hf hc
    refine go_ldc2 (show decode cX9_empty 12 = .ok (.ldc2_w 74, 3) by decide +kernel) lc_X9_74 (by decide) ?_
    exact go_lret (show decode cX9_empty 15 = .ok (.lreturn, 1) by decide +kernel) rfl h
def V_X9_share_0 (d : Nat) (S : AS) (F : AF) (G : AG) (Q : AQ) (a0 : Nat) (a1 : Int) (a2 : Int) (a3 : Int) (a4 : Int) (a5 : Int) (a6 : Int) : Prop :=
  (1 ≤ d) ∧
  Ok (d - 1) MX9_isGood [vI a1] S F G (fun w2 S3 F4 G5 =>
  ∃ z6 : Int, w2 = some (vI z6) ∧
  ((z6 = 0) →
    Q (some (vJ (-2))) S3 F4 G5) ∧
  ((¬ z6 = 0) →
    (sK S3 a0 = 9) ∧
    Ok (d - 1) MX9_ask [vR a0, vI a2, vI a3, vI a4, vI a5] S3 F4 G5 (fun w7 S8 F9 G10 =>
    ∃ z12 : Int, w7 = some (vI z12) ∧
    ((z12 = 0) →
      Q (some (vJ (-2))) S8 F9 G10) ∧
    ((¬ z12 = 0) →
      ((a6 < 0) →
        Q (some (vJ (-2))) S8 F9 G10) ∧
      ((¬ a6 < 0) →
        ((a6 ≤ 1) →
          (sK S8 a0 = 9) ∧
          (sK S8 (sR S8 a0 0) = 2) ∧
          Ok (d - 1) MX2_sumOf [vR (sR S8 a0 0), vI a1, vR (sR S8 a0 4)] S8 F9 G10 (fun w14 S15 F16 G17 =>
          ∃ z19 : Int, w14 = some (vJ z19) ∧
          (sK S15 a0 = 9) ∧
          (sK S15 (sR S15 a0 0) = 2) ∧
          Ok (d - 1) MX2_sumOf [vR (sR S15 a0 0), vI a1, vR (sR S15 (sR S15 a0 0) 2)] S15 F16 G17 (fun w22 S23 F24 G25 =>
          ∃ z26 : Int, w22 = some (vJ z26) ∧
          Ok (d - 1) MX9_commonDivisor [vJ z19, vJ z26] S23 F24 G25 (fun w27 S28 F29 G30 =>
          ∃ z31 : Int, w27 = some (vJ z31) ∧
          ((1 ≤ z31) →
            ((¬ a6 = 0) →
              (¬ z31 = 0) ∧
              (r64 (Int.tdiv z26 z31)) ∧
              Q (some (vJ (Int.tdiv z26 z31))) S28 F29 G30) ∧
            ((a6 = 0) →
              (¬ z31 = 0) ∧
              (r64 (Int.tdiv z19 z31)) ∧
              Q (some (vJ (Int.tdiv z19 z31))) S28 F29 G30)) ∧
          ((¬ 1 ≤ z31) →
            Q (some (vJ a6)) S28 F29 G30))))) ∧
        ((¬ a6 ≤ 1) →
          Q (some (vJ (-2))) S8 F9 G10))))))
theorem R_X9_share_0 {d : Nat} {S : AS} {F : AF} {G : AG} {Q : AQ} {a0 : Nat} {a1 : Int} {a2 : Int} {a3 : Int} {a4 : Int} {a5 : Int} {a6 : Int} (h : V_X9_share_0 d S F G Q a0 a1 a2 a3 a4 a5 a6) : Go d MX9_share 0 [some (vR a0), some (vI a1), some (vI a2), some (vI a3), some (vI a4), some (vI a5), some (vI a6), none, none, none, none, none, none] [] S F G Q := by
  unfold V_X9_share_0 at h
  refine go_iload_n (show decode cX9_share 0 = .ok (.iload_n 1, 1) by decide +kernel) (by rfl) ?_
  obtain ⟨q1, h⟩ := h
  refine go_callS (d2 := d - 1) (M2 := MX9_isGood) (n := 1) (av := [vI a1]) (st := []) (show decode cX9_share 1 = .ok (.invokestatic 66, 3) by decide +kernel) ml_X9_66 mt_X9_isGood mst_X9_isGood rfl (Nat.le_of_ble_eq_true rfl) (by omega) (ok_mono h (fun w2 S3 F4 G5 h => ?_))
  obtain ⟨z6, e9, h⟩ := h
  subst e9
  show Go d MX9_share 4 [some (vR a0), some (vI a1), some (vI a2), some (vI a3), some (vI a4), some (vI a5), some (vI a6), none, none, none, none, none, none] [vI z6] S3 F4 G5 Q
  obtain ⟨ht, hf⟩ := h
  refine go_ifeq (tgt := 31) (show decode cX9_share 4 = .ok (.ifCond .eq 27, 3) by decide +kernel) (by decide) (fun hc => ?_) (fun hc => ?_)
  · have h := ht hc
    refine go_ldc2 (show decode cX9_share 31 = .ok (.ldc2_w 74, 3) by decide +kernel) lc_X9_74 (by decide) ?_
    exact go_lret (show decode cX9_share 34 = .ok (.lreturn, 1) by decide +kernel) rfl h
  · have h := hf hc
    refine go_aload_n (show decode cX9_share 7 = .ok (.aload_n 0, 1) by decide +kernel) (by rfl) ?_
    refine go_iload_n (show decode cX9_share 8 = .ok (.iload_n 2, 1) by decide +kernel) (by rfl) ?_
    refine go_iload_n (show decode cX9_share 9 = .ok (.iload_n 3, 1) by decide +kernel) (by rfl) ?_
    refine go_iload (show decode cX9_share 10 = .ok (.iload 4, 2) by decide +kernel) (by rfl) ?_
    refine go_iload (show decode cX9_share 12 = .ok (.iload 5, 2) by decide +kernel) (by rfl) ?_
    obtain ⟨q11, h⟩ := h
    refine go_callV (d2 := d - 1) (M2 := MX9_ask) (n := 4) (ci := 9) (av := [vI a2, vI a3, vI a4, vI a5]) (st := []) (show decode cX9_share 14 = .ok (.invokevirtual 70, 3) by decide +kernel) ml_X9_70 mt_X9_ask min_X9_ask mse_X9_ask (by decide) q11 rfl (Nat.le_of_ble_eq_true rfl) (by omega) (ok_mono h (fun w7 S8 F9 G10 h => ?_))
    obtain ⟨z12, e9, h⟩ := h
    subst e9
    show Go d MX9_share 17 [some (vR a0), some (vI a1), some (vI a2), some (vI a3), some (vI a4), some (vI a5), some (vI a6), none, none, none, none, none, none] [vI z12] S8 F9 G10 Q
    obtain ⟨ht, hf⟩ := h
    refine go_ifeq (tgt := 31) (show decode cX9_share 17 = .ok (.ifCond .eq 14, 3) by decide +kernel) (by decide) (fun hc => ?_) (fun hc => ?_)
    · have h := ht hc
      refine go_ldc2 (show decode cX9_share 31 = .ok (.ldc2_w 74, 3) by decide +kernel) lc_X9_74 (by decide) ?_
      exact go_lret (show decode cX9_share 34 = .ok (.lreturn, 1) by decide +kernel) rfl h
    · have h := hf hc
      refine go_iload (show decode cX9_share 20 = .ok (.iload 6, 2) by decide +kernel) (by rfl) ?_
      obtain ⟨ht, hf⟩ := h
      refine go_iflt (tgt := 31) (show decode cX9_share 22 = .ok (.ifCond .lt 9, 3) by decide +kernel) (by decide) (fun hc => ?_) (fun hc => ?_)
      · have h := ht hc
        refine go_ldc2 (show decode cX9_share 31 = .ok (.ldc2_w 74, 3) by decide +kernel) lc_X9_74 (by decide) ?_
        exact go_lret (show decode cX9_share 34 = .ok (.lreturn, 1) by decide +kernel) rfl h
      · have h := hf hc
        refine go_iload (show decode cX9_share 25 = .ok (.iload 6, 2) by decide +kernel) (by rfl) ?_
        refine go_iconst (show decode cX9_share 27 = .ok (.iconst 1, 1) by decide +kernel) (by decide) ?_
        obtain ⟨ht, hf⟩ := h
        refine go_icmple (tgt := 35) (show decode cX9_share 28 = .ok (.if_icmp .le 7, 3) by decide +kernel) (by decide) (fun hc => ?_) (fun hc => ?_)
        · have h := ht hc
          refine go_aload_n (show decode cX9_share 35 = .ok (.aload_n 0, 1) by decide +kernel) (by rfl) ?_
          obtain ⟨q13, h⟩ := h
          refine go_getR (show decode cX9_share 36 = .ok (.getfield 12, 3) by decide +kernel) fl_X9_12 rfl q13 ?_
          refine go_iload_n (show decode cX9_share 39 = .ok (.iload_n 1, 1) by decide +kernel) (by rfl) ?_
          refine go_aload_n (show decode cX9_share 40 = .ok (.aload_n 0, 1) by decide +kernel) (by rfl) ?_
          refine go_getR (show decode cX9_share 41 = .ok (.getfield 42, 3) by decide +kernel) fl_X9_42 rfl q13 ?_
          obtain ⟨q18, h⟩ := h
          refine go_callV (d2 := d - 1) (M2 := MX2_sumOf) (n := 2) (ci := 2) (av := [vI a1, vR (sR S8 a0 4)]) (st := []) (show decode cX9_share 44 = .ok (.invokevirtual 103, 3) by decide +kernel) ml_X9_103 mt_X2_sumOf min_X2_sumOf mse_X2_sumOf (by decide) q18 rfl (Nat.le_of_ble_eq_true rfl) (by omega) (ok_mono h (fun w14 S15 F16 G17 h => ?_))
          obtain ⟨z19, e9, h⟩ := h
          subst e9
          show Go d MX9_share 47 [some (vR a0), some (vI a1), some (vI a2), some (vI a3), some (vI a4), some (vI a5), some (vI a6), none, none, none, none, none, none] [vJ z19] S15 F16 G17 Q
          refine go_lstore (show decode cX9_share 47 = .ok (.lstore 7, 2) by decide +kernel) (by decide) ?_
          show Go d MX9_share 49 [some (vR a0), some (vI a1), some (vI a2), some (vI a3), some (vI a4), some (vI a5), some (vI a6), some (vJ z19), none, none, none, none, none] [] S15 F16 G17 Q
          refine go_aload_n (show decode cX9_share 49 = .ok (.aload_n 0, 1) by decide +kernel) (by rfl) ?_
          obtain ⟨q20, h⟩ := h
          refine go_getR (show decode cX9_share 50 = .ok (.getfield 12, 3) by decide +kernel) fl_X9_12 rfl q20 ?_
          refine go_iload_n (show decode cX9_share 53 = .ok (.iload_n 1, 1) by decide +kernel) (by rfl) ?_
          refine go_aload_n (show decode cX9_share 54 = .ok (.aload_n 0, 1) by decide +kernel) (by rfl) ?_
          refine go_getR (show decode cX9_share 55 = .ok (.getfield 12, 3) by decide +kernel) fl_X9_12 rfl q20 ?_
          obtain ⟨q21, h⟩ := h
          refine go_getR (show decode cX9_share 58 = .ok (.getfield 59, 3) by decide +kernel) fl_X9_59 rfl q21 ?_
          refine go_callV (d2 := d - 1) (M2 := MX2_sumOf) (n := 2) (ci := 2) (av := [vI a1, vR (sR S15 (sR S15 a0 0) 2)]) (st := []) (show decode cX9_share 61 = .ok (.invokevirtual 103, 3) by decide +kernel) ml_X9_103 mt_X2_sumOf min_X2_sumOf mse_X2_sumOf (by decide) q21 rfl (Nat.le_of_ble_eq_true rfl) (by omega) (ok_mono h (fun w22 S23 F24 G25 h => ?_))
          obtain ⟨z26, e9, h⟩ := h
          subst e9
          show Go d MX9_share 64 [some (vR a0), some (vI a1), some (vI a2), some (vI a3), some (vI a4), some (vI a5), some (vI a6), some (vJ z19), none, none, none, none, none] [vJ z26] S23 F24 G25 Q
          refine go_lstore (show decode cX9_share 64 = .ok (.lstore 9, 2) by decide +kernel) (by decide) ?_
          show Go d MX9_share 66 [some (vR a0), some (vI a1), some (vI a2), some (vI a3), some (vI a4), some (vI a5), some (vI a6), some (vJ z19), none, some (vJ z26), none, none, none] [] S23 F24 G25 Q
          refine go_lload (show decode cX9_share 66 = .ok (.lload 7, 2) by decide +kernel) (by rfl) ?_
          refine go_lload (show decode cX9_share 68 = .ok (.lload 9, 2) by decide +kernel) (by rfl) ?_
          refine go_callS (d2 := d - 1) (M2 := MX9_commonDivisor) (n := 2) (av := [vJ z19, vJ z26]) (st := []) (show decode cX9_share 70 = .ok (.invokestatic 277, 3) by decide +kernel) ml_X9_277 mt_X9_commonDivisor mst_X9_commonDivisor rfl (Nat.le_of_ble_eq_true rfl) (by omega) (ok_mono h (fun w27 S28 F29 G30 h => ?_))
          obtain ⟨z31, e9, h⟩ := h
          subst e9
          show Go d MX9_share 73 [some (vR a0), some (vI a1), some (vI a2), some (vI a3), some (vI a4), some (vI a5), some (vI a6), some (vJ z19), none, some (vJ z26), none, none, none] [vJ z31] S28 F29 G30 Q
          refine go_lstore (show decode cX9_share 73 = .ok (.lstore 11, 2) by decide +kernel) (by decide) ?_
          show Go d MX9_share 75 [some (vR a0), some (vI a1), some (vI a2), some (vI a3), some (vI a4), some (vI a5), some (vI a6), some (vJ z19), none, some (vJ z26), none, some (vJ z31), none] [] S28 F29 G30 Q
          refine go_lload (show decode cX9_share 75 = .ok (.lload 11, 2) by decide +kernel) (by rfl) ?_
          refine go_lconst (n := 1) (show decode cX9_share 77 = .ok (.lconst 1, 1) by decide +kernel) ?_
          show Go d MX9_share 78 [some (vR a0), some (vI a1), some (vI a2), some (vI a3), some (vI a4), some (vI a5), some (vI a6), some (vJ z19), none, some (vJ z26), none, some (vJ z31), none] [vJ 1, vJ z31] S28 F29 G30 Q
          obtain ⟨ht, hf⟩ := h
          refine go_jge (tgt := 86) (show decode cX9_share 78 = .ok (.lcmp, 1) by decide +kernel) (show decode cX9_share 79 = .ok (.ifCond .ge 7, 3) by decide +kernel) (by decide) (fun hc => ?_) (fun hc => ?_)
          · have h := ht hc
            refine go_iload (show decode cX9_share 86 = .ok (.iload 6, 2) by decide +kernel) (by rfl) ?_
            obtain ⟨ht, hf⟩ := h
            refine go_ifne (tgt := 99) (show decode cX9_share 88 = .ok (.ifCond .ne 11, 3) by decide +kernel) (by decide) (fun hc => ?_) (fun hc => ?_)
            · have h := ht hc
              refine go_lload (show decode cX9_share 99 = .ok (.lload 9, 2) by decide +kernel) (by rfl) ?_
              refine go_lload (show decode cX9_share 101 = .ok (.lload 11, 2) by decide +kernel) (by rfl) ?_
              obtain ⟨q32, h⟩ := h
              obtain ⟨q33, h⟩ := h
              refine go_ldiv (show decode cX9_share 103 = .ok (.ldiv, 1) by decide +kernel) q32 q33 ?_
              exact go_lret (show decode cX9_share 104 = .ok (.lreturn, 1) by decide +kernel) rfl h
            · have h := hf hc
              refine go_lload (show decode cX9_share 91 = .ok (.lload 7, 2) by decide +kernel) (by rfl) ?_
              refine go_lload (show decode cX9_share 93 = .ok (.lload 11, 2) by decide +kernel) (by rfl) ?_
              obtain ⟨q34, h⟩ := h
              obtain ⟨q35, h⟩ := h
              refine go_ldiv (show decode cX9_share 95 = .ok (.ldiv, 1) by decide +kernel) q34 q35 ?_
              refine go_goto (tgt := 104) (show decode cX9_share 96 = .ok (.goto 8, 3) by decide +kernel) (by decide) ?_
              exact go_lret (show decode cX9_share 104 = .ok (.lreturn, 1) by decide +kernel) rfl h
          · have h := hf hc
            refine go_iload (show decode cX9_share 82 = .ok (.iload 6, 2) by decide +kernel) (by rfl) ?_
            refine go_i2l (show decode cX9_share 84 = .ok (.i2l, 1) by decide +kernel) ?_
            exact go_lret (show decode cX9_share 85 = .ok (.lreturn, 1) by decide +kernel) rfl h
        · have h := hf hc
          refine go_ldc2 (show decode cX9_share 31 = .ok (.ldc2_w 74, 3) by decide +kernel) lc_X9_74 (by decide) ?_
          exact go_lret (show decode cX9_share 34 = .ok (.lreturn, 1) by decide +kernel) rfl h
def V_X9_commonDivisor_9 (d : Nat) (S : AS) (F : AF) (G : AG) (Q : AQ) (a0 : Int) (a2 : Int) (a4 : Int) (a6 : Int) (a8 : Int) : Prop :=
  ((200 ≤ a8) →
    Q (some (vJ a4)) S F G) ∧
  ((¬ 200 ≤ a8) →
    ((a6 = 0) →
      Q (some (vJ a4)) S F G) ∧
    ((¬ a6 = 0) →
      (¬ a6 = 0) ∧
      (r64 (Int.tdiv a4 a6)) ∧
      (r64 (Int.tmod a4 a6)) ∧
      ∀ x4 : Int, x4 = Int.tmod a4 a6 →
      (r32 (a8 + 1)) ∧
      Go d MX9_commonDivisor 9 [some (vJ a0), none, some (vJ a2), none, some (vJ a6), none, some (vJ x4), none, some (vI (a8 + 1)), none, none] [] S F G Q))
theorem R_X9_commonDivisor_9 {d : Nat} {S : AS} {F : AF} {G : AG} {Q : AQ} {a0 : Int} {a2 : Int} {a4 : Int} {a6 : Int} {a8 : Int} (h : V_X9_commonDivisor_9 d S F G Q a0 a2 a4 a6 a8) : Go d MX9_commonDivisor 9 [some (vJ a0), none, some (vJ a2), none, some (vJ a4), none, some (vJ a6), none, some (vI a8), none, none] [] S F G Q := by
  unfold V_X9_commonDivisor_9 at h
  refine go_iload (show decode cX9_commonDivisor 9 = .ok (.iload 8, 2) by decide +kernel) (by rfl) ?_
  refine go_sipush (show decode cX9_commonDivisor 11 = .ok (.sipush 200, 3) by decide +kernel) (by decide) ?_
  obtain ⟨ht, hf⟩ := h
  refine go_icmpge (tgt := 45) (show decode cX9_commonDivisor 14 = .ok (.if_icmp .ge 31, 3) by decide +kernel) (by decide) (fun hc => ?_) (fun hc => ?_)
  · have h := ht hc
    refine go_lload (show decode cX9_commonDivisor 45 = .ok (.lload 4, 2) by decide +kernel) (by rfl) ?_
    exact go_lret (show decode cX9_commonDivisor 47 = .ok (.lreturn, 1) by decide +kernel) rfl h
  · have h := hf hc
    refine go_lload (show decode cX9_commonDivisor 17 = .ok (.lload 6, 2) by decide +kernel) (by rfl) ?_
    refine go_lconst (n := 0) (show decode cX9_commonDivisor 19 = .ok (.lconst 0, 1) by decide +kernel) ?_
    show Go d MX9_commonDivisor 20 [some (vJ a0), none, some (vJ a2), none, some (vJ a4), none, some (vJ a6), none, some (vI a8), none, none] [vJ 0, vJ a6] S F G Q
    obtain ⟨ht, hf⟩ := h
    refine go_jeq (tgt := 45) (show decode cX9_commonDivisor 20 = .ok (.lcmp, 1) by decide +kernel) (show decode cX9_commonDivisor 21 = .ok (.ifCond .eq 24, 3) by decide +kernel) (by decide) (fun hc => ?_) (fun hc => ?_)
    · have h := ht hc
      refine go_lload (show decode cX9_commonDivisor 45 = .ok (.lload 4, 2) by decide +kernel) (by rfl) ?_
      exact go_lret (show decode cX9_commonDivisor 47 = .ok (.lreturn, 1) by decide +kernel) rfl h
    · have h := hf hc
      refine go_lload (show decode cX9_commonDivisor 24 = .ok (.lload 4, 2) by decide +kernel) (by rfl) ?_
      refine go_lload (show decode cX9_commonDivisor 26 = .ok (.lload 6, 2) by decide +kernel) (by rfl) ?_
      obtain ⟨q1, h⟩ := h
      obtain ⟨q2, h⟩ := h
      obtain ⟨q3, h⟩ := h
      refine go_lrem (show decode cX9_commonDivisor 28 = .ok (.lrem, 1) by decide +kernel) q1 q2 q3 ?_
      obtain ⟨x4, x4e⟩ : ∃ x4 : Int, x4 = Int.tmod a4 a6 := ⟨_, rfl⟩
      have h := h x4 x4e
      rw [← x4e]
      refine go_lstore (show decode cX9_commonDivisor 29 = .ok (.lstore 9, 2) by decide +kernel) (by decide) ?_
      show Go d MX9_commonDivisor 31 [some (vJ a0), none, some (vJ a2), none, some (vJ a4), none, some (vJ a6), none, some (vI a8), some (vJ x4), none] [] S F G Q
      refine go_lload (show decode cX9_commonDivisor 31 = .ok (.lload 6, 2) by decide +kernel) (by rfl) ?_
      refine go_lstore (show decode cX9_commonDivisor 33 = .ok (.lstore 4, 2) by decide +kernel) (by decide) ?_
      show Go d MX9_commonDivisor 35 [some (vJ a0), none, some (vJ a2), none, some (vJ a6), none, some (vJ a6), none, some (vI a8), some (vJ x4), none] [] S F G Q
      refine go_lload (show decode cX9_commonDivisor 35 = .ok (.lload 9, 2) by decide +kernel) (by rfl) ?_
      refine go_lstore (show decode cX9_commonDivisor 37 = .ok (.lstore 6, 2) by decide +kernel) (by decide) ?_
      show Go d MX9_commonDivisor 39 [some (vJ a0), none, some (vJ a2), none, some (vJ a6), none, some (vJ x4), none, some (vI a8), some (vJ x4), none] [] S F G Q
      obtain ⟨q5, h⟩ := h
      refine go_iinc (show decode cX9_commonDivisor 39 = .ok (.iinc 8 1, 3) by decide +kernel) (by rfl) q5 (by decide) ?_
      show Go d MX9_commonDivisor 42 [some (vJ a0), none, some (vJ a2), none, some (vJ a6), none, some (vJ x4), none, some (vI (a8 + 1)), some (vJ x4), none] [] S F G Q
      refine go_goto (tgt := 9) (show decode cX9_commonDivisor 42 = .ok (.goto (-33), 3) by decide +kernel) (by decide) ?_
      refine go_clr 9 ?_
      exact h
def V_X9_commonDivisor_0 (d : Nat) (S : AS) (F : AF) (G : AG) (Q : AQ) (a0 : Int) (a2 : Int) : Prop :=
  Go d MX9_commonDivisor 9 [some (vJ a0), none, some (vJ a2), none, some (vJ a0), none, some (vJ a2), none, some (vI 0), none, none] [] S F G Q
theorem R_X9_commonDivisor_0 {d : Nat} {S : AS} {F : AF} {G : AG} {Q : AQ} {a0 : Int} {a2 : Int} (h : V_X9_commonDivisor_0 d S F G Q a0 a2) : Go d MX9_commonDivisor 0 [some (vJ a0), none, some (vJ a2), none, none, none, none, none, none, none, none] [] S F G Q := by
  unfold V_X9_commonDivisor_0 at h
  refine go_lload_n (show decode cX9_commonDivisor 0 = .ok (.lload_n 0, 1) by decide +kernel) (by rfl) ?_
  refine go_lstore (show decode cX9_commonDivisor 1 = .ok (.lstore 4, 2) by decide +kernel) (by decide) ?_
  show Go d MX9_commonDivisor 3 [some (vJ a0), none, some (vJ a2), none, some (vJ a0), none, none, none, none, none, none] [] S F G Q
  refine go_lload_n (show decode cX9_commonDivisor 3 = .ok (.lload_n 2, 1) by decide +kernel) (by rfl) ?_
  refine go_lstore (show decode cX9_commonDivisor 4 = .ok (.lstore 6, 2) by decide +kernel) (by decide) ?_
  show Go d MX9_commonDivisor 6 [some (vJ a0), none, some (vJ a2), none, some (vJ a0), none, some (vJ a2), none, none, none, none] [] S F G Q
  refine go_iconst (show decode cX9_commonDivisor 6 = .ok (.iconst 0, 1) by decide +kernel) (by decide) ?_
  refine go_istore (show decode cX9_commonDivisor 7 = .ok (.istore 8, 2) by decide +kernel) (by decide) ?_
  show Go d MX9_commonDivisor 9 [some (vJ a0), none, some (vJ a2), none, some (vJ a0), none, some (vJ a2), none, some (vI 0), none, none] [] S F G Q
  exact h
def V_X9_atLeast_0 (d : Nat) (S : AS) (F : AF) (G : AG) (Q : AQ) (a0 : Nat) (a1 : Int) (a2 : Int) (a3 : Int) (a4 : Int) (a5 : Int) (a6 : Int) : Prop :=
  (1 ≤ d) ∧
  Ok (d - 1) MX9_isGoodOrAll [vI a1] S F G (fun w2 S3 F4 G5 =>
  ∃ z6 : Int, w2 = some (vI z6) ∧
  ((z6 = 0) →
    Q (some (vJ (-2))) S3 F4 G5) ∧
  ((¬ z6 = 0) →
    (sK S3 a0 = 9) ∧
    Ok (d - 1) MX9_ask [vR a0, vI a2, vI a3, vI a4, vI a5] S3 F4 G5 (fun w7 S8 F9 G10 =>
    ∃ z12 : Int, w7 = some (vI z12) ∧
    ((¬ z12 = 0) →
      ((0 ≤ a6) →
        (sK S8 a0 = 9) ∧
        (sK S8 (sR S8 a0 0) = 2) ∧
        Ok (d - 1) MX2_cellsFrom [vR (sR S8 a0 0), vI a1, vR (sR S8 a0 4), vJ a6] S8 F9 G10 (fun w14 S15 F16 G17 =>
        ∃ z19 : Int, w14 = some (vJ z19) ∧
        Q (some (vJ z19)) S15 F16 G17)) ∧
      ((¬ 0 ≤ a6) →
        Q (some (vJ (-3))) S8 F9 G10)) ∧
    ((z12 = 0) →
      Q (some (vJ (-2))) S8 F9 G10))))
theorem R_X9_atLeast_0 {d : Nat} {S : AS} {F : AF} {G : AG} {Q : AQ} {a0 : Nat} {a1 : Int} {a2 : Int} {a3 : Int} {a4 : Int} {a5 : Int} {a6 : Int} (h : V_X9_atLeast_0 d S F G Q a0 a1 a2 a3 a4 a5 a6) : Go d MX9_atLeast 0 [some (vR a0), some (vI a1), some (vI a2), some (vI a3), some (vI a4), some (vI a5), some (vJ a6), none] [] S F G Q := by
  unfold V_X9_atLeast_0 at h
  refine go_iload_n (show decode cX9_atLeast 0 = .ok (.iload_n 1, 1) by decide +kernel) (by rfl) ?_
  obtain ⟨q1, h⟩ := h
  refine go_callS (d2 := d - 1) (M2 := MX9_isGoodOrAll) (n := 1) (av := [vI a1]) (st := []) (show decode cX9_atLeast 1 = .ok (.invokestatic 264, 3) by decide +kernel) ml_X9_264 mt_X9_isGoodOrAll mst_X9_isGoodOrAll rfl (Nat.le_of_ble_eq_true rfl) (by omega) (ok_mono h (fun w2 S3 F4 G5 h => ?_))
  obtain ⟨z6, e9, h⟩ := h
  subst e9
  show Go d MX9_atLeast 4 [some (vR a0), some (vI a1), some (vI a2), some (vI a3), some (vI a4), some (vI a5), some (vJ a6), none] [vI z6] S3 F4 G5 Q
  obtain ⟨ht, hf⟩ := h
  refine go_ifeq (tgt := 20) (show decode cX9_atLeast 4 = .ok (.ifCond .eq 16, 3) by decide +kernel) (by decide) (fun hc => ?_) (fun hc => ?_)
  · have h := ht hc
    refine go_ldc2 (show decode cX9_atLeast 20 = .ok (.ldc2_w 74, 3) by decide +kernel) lc_X9_74 (by decide) ?_
    exact go_lret (show decode cX9_atLeast 23 = .ok (.lreturn, 1) by decide +kernel) rfl h
  · have h := hf hc
    refine go_aload_n (show decode cX9_atLeast 7 = .ok (.aload_n 0, 1) by decide +kernel) (by rfl) ?_
    refine go_iload_n (show decode cX9_atLeast 8 = .ok (.iload_n 2, 1) by decide +kernel) (by rfl) ?_
    refine go_iload_n (show decode cX9_atLeast 9 = .ok (.iload_n 3, 1) by decide +kernel) (by rfl) ?_
    refine go_iload (show decode cX9_atLeast 10 = .ok (.iload 4, 2) by decide +kernel) (by rfl) ?_
    refine go_iload (show decode cX9_atLeast 12 = .ok (.iload 5, 2) by decide +kernel) (by rfl) ?_
    obtain ⟨q11, h⟩ := h
    refine go_callV (d2 := d - 1) (M2 := MX9_ask) (n := 4) (ci := 9) (av := [vI a2, vI a3, vI a4, vI a5]) (st := []) (show decode cX9_atLeast 14 = .ok (.invokevirtual 70, 3) by decide +kernel) ml_X9_70 mt_X9_ask min_X9_ask mse_X9_ask (by decide) q11 rfl (Nat.le_of_ble_eq_true rfl) (by omega) (ok_mono h (fun w7 S8 F9 G10 h => ?_))
    obtain ⟨z12, e9, h⟩ := h
    subst e9
    show Go d MX9_atLeast 17 [some (vR a0), some (vI a1), some (vI a2), some (vI a3), some (vI a4), some (vI a5), some (vJ a6), none] [vI z12] S8 F9 G10 Q
    obtain ⟨ht, hf⟩ := h
    refine go_ifne (tgt := 24) (show decode cX9_atLeast 17 = .ok (.ifCond .ne 7, 3) by decide +kernel) (by decide) (fun hc => ?_) (fun hc => ?_)
    · have h := ht hc
      refine go_lload (show decode cX9_atLeast 24 = .ok (.lload 6, 2) by decide +kernel) (by rfl) ?_
      refine go_lconst (n := 0) (show decode cX9_atLeast 26 = .ok (.lconst 0, 1) by decide +kernel) ?_
      show Go d MX9_atLeast 27 [some (vR a0), some (vI a1), some (vI a2), some (vI a3), some (vI a4), some (vI a5), some (vJ a6), none] [vJ 0, vJ a6] S8 F9 G10 Q
      obtain ⟨ht, hf⟩ := h
      refine go_jge (tgt := 35) (show decode cX9_atLeast 27 = .ok (.lcmp, 1) by decide +kernel) (show decode cX9_atLeast 28 = .ok (.ifCond .ge 7, 3) by decide +kernel) (by decide) (fun hc => ?_) (fun hc => ?_)
      · have h := ht hc
        refine go_aload_n (show decode cX9_atLeast 35 = .ok (.aload_n 0, 1) by decide +kernel) (by rfl) ?_
        obtain ⟨q13, h⟩ := h
        refine go_getR (show decode cX9_atLeast 36 = .ok (.getfield 12, 3) by decide +kernel) fl_X9_12 rfl q13 ?_
        refine go_iload_n (show decode cX9_atLeast 39 = .ok (.iload_n 1, 1) by decide +kernel) (by rfl) ?_
        refine go_aload_n (show decode cX9_atLeast 40 = .ok (.aload_n 0, 1) by decide +kernel) (by rfl) ?_
        refine go_getR (show decode cX9_atLeast 41 = .ok (.getfield 42, 3) by decide +kernel) fl_X9_42 rfl q13 ?_
        refine go_lload (show decode cX9_atLeast 44 = .ok (.lload 6, 2) by decide +kernel) (by rfl) ?_
        obtain ⟨q18, h⟩ := h
        refine go_callV (d2 := d - 1) (M2 := MX2_cellsFrom) (n := 3) (ci := 2) (av := [vI a1, vR (sR S8 a0 4), vJ a6]) (st := []) (show decode cX9_atLeast 46 = .ok (.invokevirtual 273, 3) by decide +kernel) ml_X9_273 mt_X2_cellsFrom min_X2_cellsFrom mse_X2_cellsFrom (by decide) q18 rfl (Nat.le_of_ble_eq_true rfl) (by omega) (ok_mono h (fun w14 S15 F16 G17 h => ?_))
        obtain ⟨z19, e9, h⟩ := h
        subst e9
        show Go d MX9_atLeast 49 [some (vR a0), some (vI a1), some (vI a2), some (vI a3), some (vI a4), some (vI a5), some (vJ a6), none] [vJ z19] S15 F16 G17 Q
        exact go_lret (show decode cX9_atLeast 49 = .ok (.lreturn, 1) by decide +kernel) rfl h
      · have h := hf hc
        refine go_ldc2 (show decode cX9_atLeast 31 = .ok (.ldc2_w 55, 3) by decide +kernel) lc_X9_55 (by decide) ?_
        exact go_lret (show decode cX9_atLeast 34 = .ok (.lreturn, 1) by decide +kernel) rfl h
    · have h := hf hc
      refine go_ldc2 (show decode cX9_atLeast 20 = .ok (.ldc2_w 74, 3) by decide +kernel) lc_X9_74 (by decide) ?_
      exact go_lret (show decode cX9_atLeast 23 = .ok (.lreturn, 1) by decide +kernel) rfl h
def V_X9_value_0 (d : Nat) (S : AS) (F : AF) (G : AG) (Q : AQ) (a0 : Nat) (a1 : Int) (a2 : Int) (a3 : Int) (a4 : Int) (a5 : Int) (a6 : Int) : Prop :=
  (1 ≤ d) ∧
  Ok (d - 1) MX9_isGoodOrAll [vI a1] S F G (fun w2 S3 F4 G5 =>
  ∃ z6 : Int, w2 = some (vI z6) ∧
  ((z6 = 0) →
    Q (some (vJ (-2))) S3 F4 G5) ∧
  ((¬ z6 = 0) →
    (sK S3 a0 = 9) ∧
    Ok (d - 1) MX9_ask [vR a0, vI a2, vI a3, vI a4, vI a5] S3 F4 G5 (fun w7 S8 F9 G10 =>
    ∃ z12 : Int, w7 = some (vI z12) ∧
    ((¬ z12 = 0) →
      ((1 ≤ a6) →
        (sK S8 a0 = 9) ∧
        (sK S8 (sR S8 a0 4) = 3) ∧
        Ok (d - 1) MX3_cells [vR (sR S8 a0 4)] S8 F9 G10 (fun w14 S15 F16 G17 =>
        ∃ z19 : Int, w14 = some (vJ z19) ∧
        ((a6 ≤ z19) →
          (sK S15 a0 = 9) ∧
          (sK S15 (sR S15 a0 0) = 2) ∧
          Ok (d - 1) MX2_valueOfRank [vR (sR S15 a0 0), vI a1, vR (sR S15 a0 4), vJ a6] S15 F16 G17 (fun w21 S22 F23 G24 =>
          ∃ z26 : Int, w21 = some (vJ z26) ∧
          Q (some (vJ z26)) S22 F23 G24)) ∧
        ((¬ a6 ≤ z19) →
          Q (some (vJ (-1))) S15 F16 G17))) ∧
      ((¬ 1 ≤ a6) →
        Q (some (vJ (-3))) S8 F9 G10)) ∧
    ((z12 = 0) →
      Q (some (vJ (-2))) S8 F9 G10))))
theorem R_X9_value_0 {d : Nat} {S : AS} {F : AF} {G : AG} {Q : AQ} {a0 : Nat} {a1 : Int} {a2 : Int} {a3 : Int} {a4 : Int} {a5 : Int} {a6 : Int} (h : V_X9_value_0 d S F G Q a0 a1 a2 a3 a4 a5 a6) : Go d MX9_value 0 [some (vR a0), some (vI a1), some (vI a2), some (vI a3), some (vI a4), some (vI a5), some (vJ a6), none] [] S F G Q := by
  unfold V_X9_value_0 at h
  refine go_iload_n (show decode cX9_value 0 = .ok (.iload_n 1, 1) by decide +kernel) (by rfl) ?_
  obtain ⟨q1, h⟩ := h
  refine go_callS (d2 := d - 1) (M2 := MX9_isGoodOrAll) (n := 1) (av := [vI a1]) (st := []) (show decode cX9_value 1 = .ok (.invokestatic 264, 3) by decide +kernel) ml_X9_264 mt_X9_isGoodOrAll mst_X9_isGoodOrAll rfl (Nat.le_of_ble_eq_true rfl) (by omega) (ok_mono h (fun w2 S3 F4 G5 h => ?_))
  obtain ⟨z6, e9, h⟩ := h
  subst e9
  show Go d MX9_value 4 [some (vR a0), some (vI a1), some (vI a2), some (vI a3), some (vI a4), some (vI a5), some (vJ a6), none] [vI z6] S3 F4 G5 Q
  obtain ⟨ht, hf⟩ := h
  refine go_ifeq (tgt := 20) (show decode cX9_value 4 = .ok (.ifCond .eq 16, 3) by decide +kernel) (by decide) (fun hc => ?_) (fun hc => ?_)
  · have h := ht hc
    refine go_ldc2 (show decode cX9_value 20 = .ok (.ldc2_w 74, 3) by decide +kernel) lc_X9_74 (by decide) ?_
    exact go_lret (show decode cX9_value 23 = .ok (.lreturn, 1) by decide +kernel) rfl h
  · have h := hf hc
    refine go_aload_n (show decode cX9_value 7 = .ok (.aload_n 0, 1) by decide +kernel) (by rfl) ?_
    refine go_iload_n (show decode cX9_value 8 = .ok (.iload_n 2, 1) by decide +kernel) (by rfl) ?_
    refine go_iload_n (show decode cX9_value 9 = .ok (.iload_n 3, 1) by decide +kernel) (by rfl) ?_
    refine go_iload (show decode cX9_value 10 = .ok (.iload 4, 2) by decide +kernel) (by rfl) ?_
    refine go_iload (show decode cX9_value 12 = .ok (.iload 5, 2) by decide +kernel) (by rfl) ?_
    obtain ⟨q11, h⟩ := h
    refine go_callV (d2 := d - 1) (M2 := MX9_ask) (n := 4) (ci := 9) (av := [vI a2, vI a3, vI a4, vI a5]) (st := []) (show decode cX9_value 14 = .ok (.invokevirtual 70, 3) by decide +kernel) ml_X9_70 mt_X9_ask min_X9_ask mse_X9_ask (by decide) q11 rfl (Nat.le_of_ble_eq_true rfl) (by omega) (ok_mono h (fun w7 S8 F9 G10 h => ?_))
    obtain ⟨z12, e9, h⟩ := h
    subst e9
    show Go d MX9_value 17 [some (vR a0), some (vI a1), some (vI a2), some (vI a3), some (vI a4), some (vI a5), some (vJ a6), none] [vI z12] S8 F9 G10 Q
    obtain ⟨ht, hf⟩ := h
    refine go_ifne (tgt := 24) (show decode cX9_value 17 = .ok (.ifCond .ne 7, 3) by decide +kernel) (by decide) (fun hc => ?_) (fun hc => ?_)
    · have h := ht hc
      refine go_lload (show decode cX9_value 24 = .ok (.lload 6, 2) by decide +kernel) (by rfl) ?_
      refine go_lconst (n := 1) (show decode cX9_value 26 = .ok (.lconst 1, 1) by decide +kernel) ?_
      show Go d MX9_value 27 [some (vR a0), some (vI a1), some (vI a2), some (vI a3), some (vI a4), some (vI a5), some (vJ a6), none] [vJ 1, vJ a6] S8 F9 G10 Q
      obtain ⟨ht, hf⟩ := h
      refine go_jge (tgt := 35) (show decode cX9_value 27 = .ok (.lcmp, 1) by decide +kernel) (show decode cX9_value 28 = .ok (.ifCond .ge 7, 3) by decide +kernel) (by decide) (fun hc => ?_) (fun hc => ?_)
      · have h := ht hc
        refine go_lload (show decode cX9_value 35 = .ok (.lload 6, 2) by decide +kernel) (by rfl) ?_
        refine go_aload_n (show decode cX9_value 37 = .ok (.aload_n 0, 1) by decide +kernel) (by rfl) ?_
        obtain ⟨q13, h⟩ := h
        refine go_getR (show decode cX9_value 38 = .ok (.getfield 42, 3) by decide +kernel) fl_X9_42 rfl q13 ?_
        obtain ⟨q18, h⟩ := h
        refine go_callV (d2 := d - 1) (M2 := MX3_cells) (n := 0) (ci := 3) (av := []) (st := [vJ a6]) (show decode cX9_value 41 = .ok (.invokevirtual 62, 3) by decide +kernel) ml_X9_62 mt_X3_cells min_X3_cells mse_X3_cells (by decide) q18 rfl (Nat.le_of_ble_eq_true rfl) (by omega) (ok_mono h (fun w14 S15 F16 G17 h => ?_))
        obtain ⟨z19, e9, h⟩ := h
        subst e9
        show Go d MX9_value 44 [some (vR a0), some (vI a1), some (vI a2), some (vI a3), some (vI a4), some (vI a5), some (vJ a6), none] [vJ z19, vJ a6] S15 F16 G17 Q
        obtain ⟨ht, hf⟩ := h
        refine go_jle (tgt := 52) (show decode cX9_value 44 = .ok (.lcmp, 1) by decide +kernel) (show decode cX9_value 45 = .ok (.ifCond .le 7, 3) by decide +kernel) (by decide) (fun hc => ?_) (fun hc => ?_)
        · have h := ht hc
          refine go_aload_n (show decode cX9_value 52 = .ok (.aload_n 0, 1) by decide +kernel) (by rfl) ?_
          obtain ⟨q20, h⟩ := h
          refine go_getR (show decode cX9_value 53 = .ok (.getfield 12, 3) by decide +kernel) fl_X9_12 rfl q20 ?_
          refine go_iload_n (show decode cX9_value 56 = .ok (.iload_n 1, 1) by decide +kernel) (by rfl) ?_
          refine go_aload_n (show decode cX9_value 57 = .ok (.aload_n 0, 1) by decide +kernel) (by rfl) ?_
          refine go_getR (show decode cX9_value 58 = .ok (.getfield 42, 3) by decide +kernel) fl_X9_42 rfl q20 ?_
          refine go_lload (show decode cX9_value 61 = .ok (.lload 6, 2) by decide +kernel) (by rfl) ?_
          obtain ⟨q25, h⟩ := h
          refine go_callV (d2 := d - 1) (M2 := MX2_valueOfRank) (n := 3) (ci := 2) (av := [vI a1, vR (sR S15 a0 4), vJ a6]) (st := []) (show decode cX9_value 63 = .ok (.invokevirtual 280, 3) by decide +kernel) ml_X9_280 mt_X2_valueOfRank min_X2_valueOfRank mse_X2_valueOfRank (by decide) q25 rfl (Nat.le_of_ble_eq_true rfl) (by omega) (ok_mono h (fun w21 S22 F23 G24 h => ?_))
          obtain ⟨z26, e9, h⟩ := h
          subst e9
          show Go d MX9_value 66 [some (vR a0), some (vI a1), some (vI a2), some (vI a3), some (vI a4), some (vI a5), some (vJ a6), none] [vJ z26] S22 F23 G24 Q
          exact go_lret (show decode cX9_value 66 = .ok (.lreturn, 1) by decide +kernel) rfl h
        · have h := hf hc
          refine go_ldc2 (show decode cX9_value 48 = .ok (.ldc2_w 218, 3) by decide +kernel) lc_X9_218 (by decide) ?_
          exact go_lret (show decode cX9_value 51 = .ok (.lreturn, 1) by decide +kernel) rfl h
      · have h := hf hc
        refine go_ldc2 (show decode cX9_value 31 = .ok (.ldc2_w 55, 3) by decide +kernel) lc_X9_55 (by decide) ?_
        exact go_lret (show decode cX9_value 34 = .ok (.lreturn, 1) by decide +kernel) rfl h
    · have h := hf hc
      refine go_ldc2 (show decode cX9_value 20 = .ok (.ldc2_w 74, 3) by decide +kernel) lc_X9_74 (by decide) ?_
      exact go_lret (show decode cX9_value 23 = .ok (.lreturn, 1) by decide +kernel) rfl h
def V_X9_hole_0 (d : Nat) (S : AS) (F : AF) (G : AG) (Q : AQ) (a0 : Nat) (a1 : Int) : Prop :=
  ((a1 < 0) →
    Q (some (vJ (-2))) S F G) ∧
  ((¬ a1 < 0) →
    ((a1 ≤ 4) →
      (sK S a0 = 9) ∧
      (1 ≤ d) ∧
      (sK S (sR S a0 1) = 7) ∧
      Ok (d - 1) MX7_findHole [vR (sR S a0 1)] S F G (fun w3 S4 F5 G6 =>
      ∃ z8 : Int, w3 = some (vI z8) ∧
      ((¬ z8 = 0) →
        ((¬ a1 = 4) →
          (sK S4 a0 = 9) ∧
          (sK S4 (sR S4 a0 1) = 7) ∧
          (sK S4 (sR S4 (sR S4 a0 1) 1) = 3) ∧
          Ok (d - 1) MX3_side [vR (sR S4 (sR S4 a0 1) 1), vI a1] S4 F5 G6 (fun w11 S12 F13 G14 =>
          ∃ z16 : Int, w11 = some (vI z16) ∧
          Q (some (vJ z16)) S12 F13 G14)) ∧
        ((a1 = 4) →
          (sK S4 a0 = 9) ∧
          (sK S4 (sR S4 a0 1) = 7) ∧
          (sK S4 (sR S4 (sR S4 a0 1) 1) = 3) ∧
          Ok (d - 1) MX3_cells [vR (sR S4 (sR S4 a0 1) 1)] S4 F5 G6 (fun w19 S20 F21 G22 =>
          ∃ z24 : Int, w19 = some (vJ z24) ∧
          Q (some (vJ z24)) S20 F21 G22))) ∧
      ((z8 = 0) →
        Q (some (vJ (-1))) S4 F5 G6))) ∧
    ((¬ a1 ≤ 4) →
      Q (some (vJ (-2))) S F G))
theorem R_X9_hole_0 {d : Nat} {S : AS} {F : AF} {G : AG} {Q : AQ} {a0 : Nat} {a1 : Int} (h : V_X9_hole_0 d S F G Q a0 a1) : Go d MX9_hole 0 [some (vR a0), some (vI a1)] [] S F G Q := by
  unfold V_X9_hole_0 at h
  refine go_iload_n (show decode cX9_hole 0 = .ok (.iload_n 1, 1) by decide +kernel) (by rfl) ?_
  obtain ⟨ht, hf⟩ := h
  refine go_iflt (tgt := 9) (show decode cX9_hole 1 = .ok (.ifCond .lt 8, 3) by decide +kernel) (by decide) (fun hc => ?_) (fun hc => ?_)
  · have h := ht hc
    refine go_ldc2 (show decode cX9_hole 9 = .ok (.ldc2_w 74, 3) by decide +kernel) lc_X9_74 (by decide) ?_
    exact go_lret (show decode cX9_hole 12 = .ok (.lreturn, 1) by decide +kernel) rfl h
  · have h := hf hc
    refine go_iload_n (show decode cX9_hole 4 = .ok (.iload_n 1, 1) by decide +kernel) (by rfl) ?_
    refine go_iconst (show decode cX9_hole 5 = .ok (.iconst 4, 1) by decide +kernel) (by decide) ?_
    obtain ⟨ht, hf⟩ := h
    refine go_icmple (tgt := 13) (show decode cX9_hole 6 = .ok (.if_icmp .le 7, 3) by decide +kernel) (by decide) (fun hc => ?_) (fun hc => ?_)
    · have h := ht hc
      refine go_aload_n (show decode cX9_hole 13 = .ok (.aload_n 0, 1) by decide +kernel) (by rfl) ?_
      obtain ⟨q1, h⟩ := h
      refine go_getR (show decode cX9_hole 14 = .ok (.getfield 21, 3) by decide +kernel) fl_X9_21 rfl q1 ?_
      obtain ⟨q2, h⟩ := h
      obtain ⟨q7, h⟩ := h
      refine go_callV (d2 := d - 1) (M2 := MX7_findHole) (n := 0) (ci := 7) (av := []) (st := []) (show decode cX9_hole 17 = .ok (.invokevirtual 283, 3) by decide +kernel) ml_X9_283 mt_X7_findHole min_X7_findHole mse_X7_findHole (by decide) q7 rfl (Nat.le_of_ble_eq_true rfl) (by omega) (ok_mono h (fun w3 S4 F5 G6 h => ?_))
      obtain ⟨z8, e9, h⟩ := h
      subst e9
      show Go d MX9_hole 20 [some (vR a0), some (vI a1)] [vI z8] S4 F5 G6 Q
      obtain ⟨ht, hf⟩ := h
      refine go_ifne (tgt := 27) (show decode cX9_hole 20 = .ok (.ifCond .ne 7, 3) by decide +kernel) (by decide) (fun hc => ?_) (fun hc => ?_)
      · have h := ht hc
        refine go_iload_n (show decode cX9_hole 27 = .ok (.iload_n 1, 1) by decide +kernel) (by rfl) ?_
        refine go_iconst (show decode cX9_hole 28 = .ok (.iconst 4, 1) by decide +kernel) (by decide) ?_
        obtain ⟨ht, hf⟩ := h
        refine go_icmpne (tgt := 45) (show decode cX9_hole 29 = .ok (.if_icmp .ne 16, 3) by decide +kernel) (by decide) (fun hc => ?_) (fun hc => ?_)
        · have h := ht hc
          refine go_aload_n (show decode cX9_hole 45 = .ok (.aload_n 0, 1) by decide +kernel) (by rfl) ?_
          obtain ⟨q9, h⟩ := h
          refine go_getR (show decode cX9_hole 46 = .ok (.getfield 21, 3) by decide +kernel) fl_X9_21 rfl q9 ?_
          obtain ⟨q10, h⟩ := h
          refine go_getR (show decode cX9_hole 49 = .ok (.getfield 286, 3) by decide +kernel) fl_X9_286 rfl q10 ?_
          refine go_iload_n (show decode cX9_hole 52 = .ok (.iload_n 1, 1) by decide +kernel) (by rfl) ?_
          obtain ⟨q15, h⟩ := h
          refine go_callV (d2 := d - 1) (M2 := MX3_side) (n := 1) (ci := 3) (av := [vI a1]) (st := []) (show decode cX9_hole 53 = .ok (.invokevirtual 220, 3) by decide +kernel) ml_X9_220 mt_X3_side min_X3_side mse_X3_side (by decide) q15 rfl (Nat.le_of_ble_eq_true rfl) (by omega) (ok_mono h (fun w11 S12 F13 G14 h => ?_))
          obtain ⟨z16, e9, h⟩ := h
          subst e9
          show Go d MX9_hole 56 [some (vR a0), some (vI a1)] [vI z16] S12 F13 G14 Q
          refine go_i2l (show decode cX9_hole 56 = .ok (.i2l, 1) by decide +kernel) ?_
          exact go_lret (show decode cX9_hole 57 = .ok (.lreturn, 1) by decide +kernel) rfl h
        · have h := hf hc
          refine go_aload_n (show decode cX9_hole 32 = .ok (.aload_n 0, 1) by decide +kernel) (by rfl) ?_
          obtain ⟨q17, h⟩ := h
          refine go_getR (show decode cX9_hole 33 = .ok (.getfield 21, 3) by decide +kernel) fl_X9_21 rfl q17 ?_
          obtain ⟨q18, h⟩ := h
          refine go_getR (show decode cX9_hole 36 = .ok (.getfield 286, 3) by decide +kernel) fl_X9_286 rfl q18 ?_
          obtain ⟨q23, h⟩ := h
          refine go_callV (d2 := d - 1) (M2 := MX3_cells) (n := 0) (ci := 3) (av := []) (st := []) (show decode cX9_hole 39 = .ok (.invokevirtual 62, 3) by decide +kernel) ml_X9_62 mt_X3_cells min_X3_cells mse_X3_cells (by decide) q23 rfl (Nat.le_of_ble_eq_true rfl) (by omega) (ok_mono h (fun w19 S20 F21 G22 h => ?_))
          obtain ⟨z24, e9, h⟩ := h
          subst e9
          show Go d MX9_hole 42 [some (vR a0), some (vI a1)] [vJ z24] S20 F21 G22 Q
          refine go_goto (tgt := 57) (show decode cX9_hole 42 = .ok (.goto 15, 3) by decide +kernel) (by decide) ?_
          exact go_lret (show decode cX9_hole 57 = .ok (.lreturn, 1) by decide +kernel) rfl h
      · have h := hf hc
        refine go_ldc2 (show decode cX9_hole 23 = .ok (.ldc2_w 218, 3) by decide +kernel) lc_X9_218 (by decide) ?_
        exact go_lret (show decode cX9_hole 26 = .ok (.lreturn, 1) by decide +kernel) rfl h
    · have h := hf hc
      refine go_ldc2 (show decode cX9_hole 9 = .ok (.ldc2_w 74, 3) by decide +kernel) lc_X9_74 (by decide) ?_
      exact go_lret (show decode cX9_hole 12 = .ok (.lreturn, 1) by decide +kernel) rfl h
def V_X9_before_0 (d : Nat) (S : AS) (F : AF) (G : AG) (Q : AQ) (a0 : Nat) (a1 : Int) (a2 : Int) (a3 : Int) (a4 : Int) (a5 : Int) (a6 : Int) : Prop :=
  (sK S a0 = 9) ∧
  (1 ≤ d) ∧
  (sK S (sR S a0 0) = 2) ∧
  Ok (d - 1) MX2_savedAt [vR (sR S a0 0), vI a1] S F G (fun w3 S4 F5 G6 =>
  ∃ z8 : Nat, w3 = some (vR z8) ∧
  ((z8 = 0) →
    Q (some (vJ (-2))) S4 F5 G6) ∧
  ((¬ z8 = 0) →
    Ok (d - 1) MX9_isGood [vI a2] S4 F5 G6 (fun w9 S10 F11 G12 =>
    ∃ z13 : Int, w9 = some (vI z13) ∧
    ((z13 = 0) →
      Q (some (vJ (-2))) S10 F11 G12) ∧
    ((¬ z13 = 0) →
      (sK S10 a0 = 9) ∧
      Ok (d - 1) MX9_ask [vR a0, vI a3, vI a4, vI a5, vI a6] S10 F11 G12 (fun w14 S15 F16 G17 =>
      ∃ z19 : Int, w14 = some (vI z19) ∧
      ((¬ z19 = 0) →
        (sK S15 a0 = 9) ∧
        (sK S15 (sR S15 a0 0) = 2) ∧
        Ok (d - 1) MX2_sumWhenSaved [vR (sR S15 a0 0), vR z8, vI a2, vR (sR S15 a0 4)] S15 F16 G17 (fun w21 S22 F23 G24 =>
        ∃ z26 : Int, w21 = some (vJ z26) ∧
        Q (some (vJ z26)) S22 F23 G24)) ∧
      ((z19 = 0) →
        Q (some (vJ (-2))) S15 F16 G17))))))
theorem R_X9_before_0 {d : Nat} {S : AS} {F : AF} {G : AG} {Q : AQ} {a0 : Nat} {a1 : Int} {a2 : Int} {a3 : Int} {a4 : Int} {a5 : Int} {a6 : Int} (h : V_X9_before_0 d S F G Q a0 a1 a2 a3 a4 a5 a6) : Go d MX9_before 0 [some (vR a0), some (vI a1), some (vI a2), some (vI a3), some (vI a4), some (vI a5), some (vI a6), none] [] S F G Q := by
  unfold V_X9_before_0 at h
  refine go_aload_n (show decode cX9_before 0 = .ok (.aload_n 0, 1) by decide +kernel) (by rfl) ?_
  obtain ⟨q1, h⟩ := h
  refine go_getR (show decode cX9_before 1 = .ok (.getfield 12, 3) by decide +kernel) fl_X9_12 rfl q1 ?_
  refine go_iload_n (show decode cX9_before 4 = .ok (.iload_n 1, 1) by decide +kernel) (by rfl) ?_
  obtain ⟨q2, h⟩ := h
  obtain ⟨q7, h⟩ := h
  refine go_callV (d2 := d - 1) (M2 := MX2_savedAt) (n := 1) (ci := 2) (av := [vI a1]) (st := []) (show decode cX9_before 5 = .ok (.invokevirtual 289, 3) by decide +kernel) ml_X9_289 mt_X2_savedAt min_X2_savedAt mse_X2_savedAt (by decide) q7 rfl (Nat.le_of_ble_eq_true rfl) (by omega) (ok_mono h (fun w3 S4 F5 G6 h => ?_))
  obtain ⟨z8, e9, h⟩ := h
  subst e9
  show Go d MX9_before 8 [some (vR a0), some (vI a1), some (vI a2), some (vI a3), some (vI a4), some (vI a5), some (vI a6), none] [vR z8] S4 F5 G6 Q
  refine go_astore (show decode cX9_before 8 = .ok (.astore 7, 2) by decide +kernel) (by decide) ?_
  show Go d MX9_before 10 [some (vR a0), some (vI a1), some (vI a2), some (vI a3), some (vI a4), some (vI a5), some (vI a6), some (vR z8)] [] S4 F5 G6 Q
  refine go_aload (show decode cX9_before 10 = .ok (.aload 7, 2) by decide +kernel) (by rfl) ?_
  obtain ⟨ht, hf⟩ := h
  refine go_ifnull (tgt := 36) (show decode cX9_before 12 = .ok (.ifnull 24, 3) by decide +kernel) (by decide) (fun hc => ?_) (fun hc => ?_)
  · have h := ht hc
    refine go_ldc2 (show decode cX9_before 36 = .ok (.ldc2_w 74, 3) by decide +kernel) lc_X9_74 (by decide) ?_
    exact go_lret (show decode cX9_before 39 = .ok (.lreturn, 1) by decide +kernel) rfl h
  · have h := hf hc
    refine go_iload_n (show decode cX9_before 15 = .ok (.iload_n 2, 1) by decide +kernel) (by rfl) ?_
    refine go_callS (d2 := d - 1) (M2 := MX9_isGood) (n := 1) (av := [vI a2]) (st := []) (show decode cX9_before 16 = .ok (.invokestatic 66, 3) by decide +kernel) ml_X9_66 mt_X9_isGood mst_X9_isGood rfl (Nat.le_of_ble_eq_true rfl) (by omega) (ok_mono h (fun w9 S10 F11 G12 h => ?_))
    obtain ⟨z13, e9, h⟩ := h
    subst e9
    show Go d MX9_before 19 [some (vR a0), some (vI a1), some (vI a2), some (vI a3), some (vI a4), some (vI a5), some (vI a6), some (vR z8)] [vI z13] S10 F11 G12 Q
    obtain ⟨ht, hf⟩ := h
    refine go_ifeq (tgt := 36) (show decode cX9_before 19 = .ok (.ifCond .eq 17, 3) by decide +kernel) (by decide) (fun hc => ?_) (fun hc => ?_)
    · have h := ht hc
      refine go_ldc2 (show decode cX9_before 36 = .ok (.ldc2_w 74, 3) by decide +kernel) lc_X9_74 (by decide) ?_
      exact go_lret (show decode cX9_before 39 = .ok (.lreturn, 1) by decide +kernel) rfl h
    · have h := hf hc
      refine go_aload_n (show decode cX9_before 22 = .ok (.aload_n 0, 1) by decide +kernel) (by rfl) ?_
      refine go_iload_n (show decode cX9_before 23 = .ok (.iload_n 3, 1) by decide +kernel) (by rfl) ?_
      refine go_iload (show decode cX9_before 24 = .ok (.iload 4, 2) by decide +kernel) (by rfl) ?_
      refine go_iload (show decode cX9_before 26 = .ok (.iload 5, 2) by decide +kernel) (by rfl) ?_
      refine go_iload (show decode cX9_before 28 = .ok (.iload 6, 2) by decide +kernel) (by rfl) ?_
      obtain ⟨q18, h⟩ := h
      refine go_callV (d2 := d - 1) (M2 := MX9_ask) (n := 4) (ci := 9) (av := [vI a3, vI a4, vI a5, vI a6]) (st := []) (show decode cX9_before 30 = .ok (.invokevirtual 70, 3) by decide +kernel) ml_X9_70 mt_X9_ask min_X9_ask mse_X9_ask (by decide) q18 rfl (Nat.le_of_ble_eq_true rfl) (by omega) (ok_mono h (fun w14 S15 F16 G17 h => ?_))
      obtain ⟨z19, e9, h⟩ := h
      subst e9
      show Go d MX9_before 33 [some (vR a0), some (vI a1), some (vI a2), some (vI a3), some (vI a4), some (vI a5), some (vI a6), some (vR z8)] [vI z19] S15 F16 G17 Q
      obtain ⟨ht, hf⟩ := h
      refine go_ifne (tgt := 40) (show decode cX9_before 33 = .ok (.ifCond .ne 7, 3) by decide +kernel) (by decide) (fun hc => ?_) (fun hc => ?_)
      · have h := ht hc
        refine go_aload_n (show decode cX9_before 40 = .ok (.aload_n 0, 1) by decide +kernel) (by rfl) ?_
        obtain ⟨q20, h⟩ := h
        refine go_getR (show decode cX9_before 41 = .ok (.getfield 12, 3) by decide +kernel) fl_X9_12 rfl q20 ?_
        refine go_aload (show decode cX9_before 44 = .ok (.aload 7, 2) by decide +kernel) (by rfl) ?_
        refine go_iload_n (show decode cX9_before 46 = .ok (.iload_n 2, 1) by decide +kernel) (by rfl) ?_
        refine go_aload_n (show decode cX9_before 47 = .ok (.aload_n 0, 1) by decide +kernel) (by rfl) ?_
        refine go_getR (show decode cX9_before 48 = .ok (.getfield 42, 3) by decide +kernel) fl_X9_42 rfl q20 ?_
        obtain ⟨q25, h⟩ := h
        refine go_callV (d2 := d - 1) (M2 := MX2_sumWhenSaved) (n := 3) (ci := 2) (av := [vR z8, vI a2, vR (sR S15 a0 4)]) (st := []) (show decode cX9_before 51 = .ok (.invokevirtual 293, 3) by decide +kernel) ml_X9_293 mt_X2_sumWhenSaved min_X2_sumWhenSaved mse_X2_sumWhenSaved (by decide) q25 rfl (Nat.le_of_ble_eq_true rfl) (by omega) (ok_mono h (fun w21 S22 F23 G24 h => ?_))
        obtain ⟨z26, e9, h⟩ := h
        subst e9
        show Go d MX9_before 54 [some (vR a0), some (vI a1), some (vI a2), some (vI a3), some (vI a4), some (vI a5), some (vI a6), some (vR z8)] [vJ z26] S22 F23 G24 Q
        exact go_lret (show decode cX9_before 54 = .ok (.lreturn, 1) by decide +kernel) rfl h
      · have h := hf hc
        refine go_ldc2 (show decode cX9_before 36 = .ok (.ldc2_w 74, 3) by decide +kernel) lc_X9_74 (by decide) ?_
        exact go_lret (show decode cX9_before 39 = .ok (.lreturn, 1) by decide +kernel) rfl h
def V_X9_find_0 (d : Nat) (S : AS) (F : AF) (G : AG) (Q : AQ) (a0 : Nat) (a1 : Int) (a2 : Int) (a3 : Int) : Prop :=
  (1 ≤ d) ∧
  Ok (d - 1) MX9_isGood [vI a1] S F G (fun w2 S3 F4 G5 =>
  ∃ z6 : Int, w2 = some (vI z6) ∧
  ((z6 = 0) →
    Q (some (vJ (-2))) S3 F4 G5) ∧
  ((¬ z6 = 0) →
    Ok (d - 1) MX9_isAxis [vI a2] S3 F4 G5 (fun w7 S8 F9 G10 =>
    ∃ z11 : Int, w7 = some (vI z11) ∧
    ((¬ z11 = 0) →
      (sK S8 a0 = 9) ∧
      (sK S8 (sR S8 a0 0) = 2) ∧
      Ok (d - 1) MX9_numberOfUnit [vR a0, vI a1, vI a2, vR (sR S8 (sR S8 a0 0) 2), vJ a3] S8 F9 G10 (fun w14 S15 F16 G17 =>
      ∃ z18 : Int, w14 = some (vJ z18) ∧
      Q (some (vJ z18)) S15 F16 G17)) ∧
    ((z11 = 0) →
      Q (some (vJ (-2))) S8 F9 G10))))
theorem R_X9_find_0 {d : Nat} {S : AS} {F : AF} {G : AG} {Q : AQ} {a0 : Nat} {a1 : Int} {a2 : Int} {a3 : Int} (h : V_X9_find_0 d S F G Q a0 a1 a2 a3) : Go d MX9_find 0 [some (vR a0), some (vI a1), some (vI a2), some (vJ a3), none] [] S F G Q := by
  unfold V_X9_find_0 at h
  refine go_iload_n (show decode cX9_find 0 = .ok (.iload_n 1, 1) by decide +kernel) (by rfl) ?_
  obtain ⟨q1, h⟩ := h
  refine go_callS (d2 := d - 1) (M2 := MX9_isGood) (n := 1) (av := [vI a1]) (st := []) (show decode cX9_find 1 = .ok (.invokestatic 66, 3) by decide +kernel) ml_X9_66 mt_X9_isGood mst_X9_isGood rfl (Nat.le_of_ble_eq_true rfl) (by omega) (ok_mono h (fun w2 S3 F4 G5 h => ?_))
  obtain ⟨z6, e9, h⟩ := h
  subst e9
  show Go d MX9_find 4 [some (vR a0), some (vI a1), some (vI a2), some (vJ a3), none] [vI z6] S3 F4 G5 Q
  obtain ⟨ht, hf⟩ := h
  refine go_ifeq (tgt := 14) (show decode cX9_find 4 = .ok (.ifCond .eq 10, 3) by decide +kernel) (by decide) (fun hc => ?_) (fun hc => ?_)
  · have h := ht hc
    refine go_ldc2 (show decode cX9_find 14 = .ok (.ldc2_w 74, 3) by decide +kernel) lc_X9_74 (by decide) ?_
    exact go_lret (show decode cX9_find 17 = .ok (.lreturn, 1) by decide +kernel) rfl h
  · have h := hf hc
    refine go_iload_n (show decode cX9_find 7 = .ok (.iload_n 2, 1) by decide +kernel) (by rfl) ?_
    refine go_callS (d2 := d - 1) (M2 := MX9_isAxis) (n := 1) (av := [vI a2]) (st := []) (show decode cX9_find 8 = .ok (.invokestatic 297, 3) by decide +kernel) ml_X9_297 mt_X9_isAxis mst_X9_isAxis rfl (Nat.le_of_ble_eq_true rfl) (by omega) (ok_mono h (fun w7 S8 F9 G10 h => ?_))
    obtain ⟨z11, e9, h⟩ := h
    subst e9
    show Go d MX9_find 11 [some (vR a0), some (vI a1), some (vI a2), some (vJ a3), none] [vI z11] S8 F9 G10 Q
    obtain ⟨ht, hf⟩ := h
    refine go_ifne (tgt := 18) (show decode cX9_find 11 = .ok (.ifCond .ne 7, 3) by decide +kernel) (by decide) (fun hc => ?_) (fun hc => ?_)
    · have h := ht hc
      refine go_aload_n (show decode cX9_find 18 = .ok (.aload_n 0, 1) by decide +kernel) (by rfl) ?_
      refine go_iload_n (show decode cX9_find 19 = .ok (.iload_n 1, 1) by decide +kernel) (by rfl) ?_
      refine go_iload_n (show decode cX9_find 20 = .ok (.iload_n 2, 1) by decide +kernel) (by rfl) ?_
      refine go_aload_n (show decode cX9_find 21 = .ok (.aload_n 0, 1) by decide +kernel) (by rfl) ?_
      obtain ⟨q12, h⟩ := h
      refine go_getR (show decode cX9_find 22 = .ok (.getfield 12, 3) by decide +kernel) fl_X9_12 rfl q12 ?_
      obtain ⟨q13, h⟩ := h
      refine go_getR (show decode cX9_find 25 = .ok (.getfield 59, 3) by decide +kernel) fl_X9_59 rfl q13 ?_
      refine go_lload_n (show decode cX9_find 28 = .ok (.lload_n 3, 1) by decide +kernel) (by rfl) ?_
      refine go_callV (d2 := d - 1) (M2 := MX9_numberOfUnit) (n := 4) (ci := 9) (av := [vI a1, vI a2, vR (sR S8 (sR S8 a0 0) 2), vJ a3]) (st := []) (show decode cX9_find 29 = .ok (.invokevirtual 300, 3) by decide +kernel) ml_X9_300 mt_X9_numberOfUnit min_X9_numberOfUnit mse_X9_numberOfUnit (by decide) q12 rfl (Nat.le_of_ble_eq_true rfl) (by omega) (ok_mono h (fun w14 S15 F16 G17 h => ?_))
      obtain ⟨z18, e9, h⟩ := h
      subst e9
      show Go d MX9_find 32 [some (vR a0), some (vI a1), some (vI a2), some (vJ a3), none] [vJ z18] S15 F16 G17 Q
      exact go_lret (show decode cX9_find 32 = .ok (.lreturn, 1) by decide +kernel) rfl h
    · have h := hf hc
      refine go_ldc2 (show decode cX9_find 14 = .ok (.ldc2_w 74, 3) by decide +kernel) lc_X9_74 (by decide) ?_
      exact go_lret (show decode cX9_find 17 = .ok (.lreturn, 1) by decide +kernel) rfl h
def V_X9_isAxis_0 (d : Nat) (S : AS) (F : AF) (G : AG) (Q : AQ) (a0 : Int) : Prop :=
  ((a0 = 0) →
    Q (some (vI 1)) S F G) ∧
  ((¬ a0 = 0) →
    ((¬ a0 = 1) →
      Q (some (vI 0)) S F G) ∧
    ((a0 = 1) →
      Q (some (vI 1)) S F G))
theorem R_X9_isAxis_0 {d : Nat} {S : AS} {F : AF} {G : AG} {Q : AQ} {a0 : Int} (h : V_X9_isAxis_0 d S F G Q a0) : Go d MX9_isAxis 0 [some (vI a0)] [] S F G Q := by
  unfold V_X9_isAxis_0 at h
  refine go_iload_n (show decode cX9_isAxis 0 = .ok (.iload_n 0, 1) by decide +kernel) (by rfl) ?_
  obtain ⟨ht, hf⟩ := h
  refine go_ifeq (tgt := 9) (show decode cX9_isAxis 1 = .ok (.ifCond .eq 8, 3) by decide +kernel) (by decide) (fun hc => ?_) (fun hc => ?_)
  · have h := ht hc
    refine go_iconst (show decode cX9_isAxis 9 = .ok (.iconst 1, 1) by decide +kernel) (by decide) ?_
    refine go_goto (tgt := 14) (show decode cX9_isAxis 10 = .ok (.goto 4, 3) by decide +kernel) (by decide) ?_
    exact go_zret (show decode cX9_isAxis 14 = .ok (.ireturn, 1) by decide +kernel) rfl (by decide) h
  · have h := hf hc
    refine go_iload_n (show decode cX9_isAxis 4 = .ok (.iload_n 0, 1) by decide +kernel) (by rfl) ?_
    refine go_iconst (show decode cX9_isAxis 5 = .ok (.iconst 1, 1) by decide +kernel) (by decide) ?_
    obtain ⟨ht, hf⟩ := h
    refine go_icmpne (tgt := 13) (show decode cX9_isAxis 6 = .ok (.if_icmp .ne 7, 3) by decide +kernel) (by decide) (fun hc => ?_) (fun hc => ?_)
    · have h := ht hc
      refine go_iconst (show decode cX9_isAxis 13 = .ok (.iconst 0, 1) by decide +kernel) (by decide) ?_
      exact go_zret (show decode cX9_isAxis 14 = .ok (.ireturn, 1) by decide +kernel) rfl (by decide) h
    · have h := hf hc
      refine go_iconst (show decode cX9_isAxis 9 = .ok (.iconst 1, 1) by decide +kernel) (by decide) ?_
      refine go_goto (tgt := 14) (show decode cX9_isAxis 10 = .ok (.goto 4, 3) by decide +kernel) (by decide) ?_
      exact go_zret (show decode cX9_isAxis 14 = .ok (.ireturn, 1) by decide +kernel) rfl (by decide) h
def V_X9_numberOfUnit_0 (d : Nat) (S : AS) (F : AF) (G : AG) (Q : AQ) (a0 : Nat) (a1 : Int) (a2 : Int) (a3 : Nat) (a4 : Int) : Prop :=
  ((1 ≤ a4) →
    (sK S a0 = 9) ∧
    (1 ≤ d) ∧
    (sK S (sR S a0 1) = 7) ∧
    Ok (d - 1) MX7_locate [vR (sR S a0 1), vI a1, vI a2, vR a3, vJ a4] S F G (fun w3 S4 F5 G6 =>
    ∃ z8 : Int, w3 = some (vI z8) ∧
    ((z8 = 0) →
      Q (some (vJ (-1))) S4 F5 G6) ∧
    ((¬ z8 = 0) →
      (sK S4 a0 = 9) ∧
      (sK S4 (sR S4 a0 1) = 7) ∧
      (sK S4 (sR S4 a0 0) = 2) ∧
      Ok (d - 1) MX2_number [vR (sR S4 a0 0), vI (F5 (sR S4 a0 1) 4), vI (F5 (sR S4 a0 1) 5)] S4 F5 G6 (fun w11 S12 F13 G14 =>
      ∃ z16 : Int, w11 = some (vJ z16) ∧
      Q (some (vJ z16)) S12 F13 G14)))) ∧
  ((¬ 1 ≤ a4) →
    Q (some (vJ (-3))) S F G)
theorem R_X9_numberOfUnit_0 {d : Nat} {S : AS} {F : AF} {G : AG} {Q : AQ} {a0 : Nat} {a1 : Int} {a2 : Int} {a3 : Nat} {a4 : Int} (h : V_X9_numberOfUnit_0 d S F G Q a0 a1 a2 a3 a4) : Go d MX9_numberOfUnit 0 [some (vR a0), some (vI a1), some (vI a2), some (vR a3), some (vJ a4), none] [] S F G Q := by
  unfold V_X9_numberOfUnit_0 at h
  refine go_lload (show decode cX9_numberOfUnit 0 = .ok (.lload 4, 2) by decide +kernel) (by rfl) ?_
  refine go_lconst (n := 1) (show decode cX9_numberOfUnit 2 = .ok (.lconst 1, 1) by decide +kernel) ?_
  show Go d MX9_numberOfUnit 3 [some (vR a0), some (vI a1), some (vI a2), some (vR a3), some (vJ a4), none] [vJ 1, vJ a4] S F G Q
  obtain ⟨ht, hf⟩ := h
  refine go_jge (tgt := 11) (show decode cX9_numberOfUnit 3 = .ok (.lcmp, 1) by decide +kernel) (show decode cX9_numberOfUnit 4 = .ok (.ifCond .ge 7, 3) by decide +kernel) (by decide) (fun hc => ?_) (fun hc => ?_)
  · have h := ht hc
    refine go_aload_n (show decode cX9_numberOfUnit 11 = .ok (.aload_n 0, 1) by decide +kernel) (by rfl) ?_
    obtain ⟨q1, h⟩ := h
    refine go_getR (show decode cX9_numberOfUnit 12 = .ok (.getfield 21, 3) by decide +kernel) fl_X9_21 rfl q1 ?_
    refine go_iload_n (show decode cX9_numberOfUnit 15 = .ok (.iload_n 1, 1) by decide +kernel) (by rfl) ?_
    refine go_iload_n (show decode cX9_numberOfUnit 16 = .ok (.iload_n 2, 1) by decide +kernel) (by rfl) ?_
    refine go_aload_n (show decode cX9_numberOfUnit 17 = .ok (.aload_n 3, 1) by decide +kernel) (by rfl) ?_
    refine go_lload (show decode cX9_numberOfUnit 18 = .ok (.lload 4, 2) by decide +kernel) (by rfl) ?_
    obtain ⟨q2, h⟩ := h
    obtain ⟨q7, h⟩ := h
    refine go_callV (d2 := d - 1) (M2 := MX7_locate) (n := 4) (ci := 7) (av := [vI a1, vI a2, vR a3, vJ a4]) (st := []) (show decode cX9_numberOfUnit 20 = .ok (.invokevirtual 109, 3) by decide +kernel) ml_X9_109 mt_X7_locate min_X7_locate mse_X7_locate (by decide) q7 rfl (Nat.le_of_ble_eq_true rfl) (by omega) (ok_mono h (fun w3 S4 F5 G6 h => ?_))
    obtain ⟨z8, e9, h⟩ := h
    subst e9
    show Go d MX9_numberOfUnit 23 [some (vR a0), some (vI a1), some (vI a2), some (vR a3), some (vJ a4), none] [vI z8] S4 F5 G6 Q
    obtain ⟨ht, hf⟩ := h
    refine go_ifeq (tgt := 50) (show decode cX9_numberOfUnit 23 = .ok (.ifCond .eq 27, 3) by decide +kernel) (by decide) (fun hc => ?_) (fun hc => ?_)
    · have h := ht hc
      refine go_ldc2 (show decode cX9_numberOfUnit 50 = .ok (.ldc2_w 218, 3) by decide +kernel) lc_X9_218 (by decide) ?_
      exact go_lret (show decode cX9_numberOfUnit 53 = .ok (.lreturn, 1) by decide +kernel) rfl h
    · have h := hf hc
      refine go_aload_n (show decode cX9_numberOfUnit 26 = .ok (.aload_n 0, 1) by decide +kernel) (by rfl) ?_
      obtain ⟨q9, h⟩ := h
      refine go_getR (show decode cX9_numberOfUnit 27 = .ok (.getfield 12, 3) by decide +kernel) fl_X9_12 rfl q9 ?_
      refine go_aload_n (show decode cX9_numberOfUnit 30 = .ok (.aload_n 0, 1) by decide +kernel) (by rfl) ?_
      refine go_getR (show decode cX9_numberOfUnit 31 = .ok (.getfield 21, 3) by decide +kernel) fl_X9_21 rfl q9 ?_
      obtain ⟨q10, h⟩ := h
      refine go_getI (show decode cX9_numberOfUnit 34 = .ok (.getfield 115, 3) by decide +kernel) fl_X9_115 (Or.inl rfl) q10 ?_
      refine go_aload_n (show decode cX9_numberOfUnit 37 = .ok (.aload_n 0, 1) by decide +kernel) (by rfl) ?_
      refine go_getR (show decode cX9_numberOfUnit 38 = .ok (.getfield 21, 3) by decide +kernel) fl_X9_21 rfl q9 ?_
      refine go_getI (show decode cX9_numberOfUnit 41 = .ok (.getfield 119, 3) by decide +kernel) fl_X9_119 (Or.inl rfl) q10 ?_
      obtain ⟨q15, h⟩ := h
      refine go_callV (d2 := d - 1) (M2 := MX2_number) (n := 2) (ci := 2) (av := [vI (F5 (sR S4 a0 1) 4), vI (F5 (sR S4 a0 1) 5)]) (st := []) (show decode cX9_numberOfUnit 44 = .ok (.invokevirtual 143, 3) by decide +kernel) ml_X9_143 mt_X2_number min_X2_number mse_X2_number (by decide) q15 rfl (Nat.le_of_ble_eq_true rfl) (by omega) (ok_mono h (fun w11 S12 F13 G14 h => ?_))
      obtain ⟨z16, e9, h⟩ := h
      subst e9
      show Go d MX9_numberOfUnit 47 [some (vR a0), some (vI a1), some (vI a2), some (vR a3), some (vJ a4), none] [vJ z16] S12 F13 G14 Q
      refine go_goto (tgt := 53) (show decode cX9_numberOfUnit 47 = .ok (.goto 6, 3) by decide +kernel) (by decide) ?_
      exact go_lret (show decode cX9_numberOfUnit 53 = .ok (.lreturn, 1) by decide +kernel) rfl h
  · have h := hf hc
    refine go_ldc2 (show decode cX9_numberOfUnit 7 = .ok (.ldc2_w 55, 3) by decide +kernel) lc_X9_55 (by decide) ?_
    exact go_lret (show decode cX9_numberOfUnit 10 = .ok (.lreturn, 1) by decide +kernel) rfl h
def V_X9_findIn_0 (d : Nat) (S : AS) (F : AF) (G : AG) (Q : AQ) (a0 : Nat) (a1 : Int) (a2 : Int) (a3 : Int) (a4 : Int) (a5 : Int) (a6 : Int) : Prop :=
  (1 ≤ d) ∧
  Ok (d - 1) MX9_isGood [vI a1] S F G (fun w2 S3 F4 G5 =>
  ∃ z6 : Int, w2 = some (vI z6) ∧
  ((z6 = 0) →
    Q (some (vJ (-2))) S3 F4 G5) ∧
  ((¬ z6 = 0) →
    (sK S3 a0 = 9) ∧
    Ok (d - 1) MX9_ask [vR a0, vI a2, vI a3, vI a4, vI a5] S3 F4 G5 (fun w7 S8 F9 G10 =>
    ∃ z12 : Int, w7 = some (vI z12) ∧
    ((¬ z12 = 0) →
      (sK S8 a0 = 9) ∧
      Ok (d - 1) MX9_numberOfUnit [vR a0, vI a1, vI 0, vR (sR S8 a0 4), vJ a6] S8 F9 G10 (fun w14 S15 F16 G17 =>
      ∃ z18 : Int, w14 = some (vJ z18) ∧
      Q (some (vJ z18)) S15 F16 G17)) ∧
    ((z12 = 0) →
      Q (some (vJ (-2))) S8 F9 G10))))
theorem R_X9_findIn_0 {d : Nat} {S : AS} {F : AF} {G : AG} {Q : AQ} {a0 : Nat} {a1 : Int} {a2 : Int} {a3 : Int} {a4 : Int} {a5 : Int} {a6 : Int} (h : V_X9_findIn_0 d S F G Q a0 a1 a2 a3 a4 a5 a6) : Go d MX9_findIn 0 [some (vR a0), some (vI a1), some (vI a2), some (vI a3), some (vI a4), some (vI a5), some (vJ a6), none] [] S F G Q := by
  unfold V_X9_findIn_0 at h
  refine go_iload_n (show decode cX9_findIn 0 = .ok (.iload_n 1, 1) by decide +kernel) (by rfl) ?_
  obtain ⟨q1, h⟩ := h
  refine go_callS (d2 := d - 1) (M2 := MX9_isGood) (n := 1) (av := [vI a1]) (st := []) (show decode cX9_findIn 1 = .ok (.invokestatic 66, 3) by decide +kernel) ml_X9_66 mt_X9_isGood mst_X9_isGood rfl (Nat.le_of_ble_eq_true rfl) (by omega) (ok_mono h (fun w2 S3 F4 G5 h => ?_))
  obtain ⟨z6, e9, h⟩ := h
  subst e9
  show Go d MX9_findIn 4 [some (vR a0), some (vI a1), some (vI a2), some (vI a3), some (vI a4), some (vI a5), some (vJ a6), none] [vI z6] S3 F4 G5 Q
  obtain ⟨ht, hf⟩ := h
  refine go_ifeq (tgt := 20) (show decode cX9_findIn 4 = .ok (.ifCond .eq 16, 3) by decide +kernel) (by decide) (fun hc => ?_) (fun hc => ?_)
  · have h := ht hc
    refine go_ldc2 (show decode cX9_findIn 20 = .ok (.ldc2_w 74, 3) by decide +kernel) lc_X9_74 (by decide) ?_
    exact go_lret (show decode cX9_findIn 23 = .ok (.lreturn, 1) by decide +kernel) rfl h
  · have h := hf hc
    refine go_aload_n (show decode cX9_findIn 7 = .ok (.aload_n 0, 1) by decide +kernel) (by rfl) ?_
    refine go_iload_n (show decode cX9_findIn 8 = .ok (.iload_n 2, 1) by decide +kernel) (by rfl) ?_
    refine go_iload_n (show decode cX9_findIn 9 = .ok (.iload_n 3, 1) by decide +kernel) (by rfl) ?_
    refine go_iload (show decode cX9_findIn 10 = .ok (.iload 4, 2) by decide +kernel) (by rfl) ?_
    refine go_iload (show decode cX9_findIn 12 = .ok (.iload 5, 2) by decide +kernel) (by rfl) ?_
    obtain ⟨q11, h⟩ := h
    refine go_callV (d2 := d - 1) (M2 := MX9_ask) (n := 4) (ci := 9) (av := [vI a2, vI a3, vI a4, vI a5]) (st := []) (show decode cX9_findIn 14 = .ok (.invokevirtual 70, 3) by decide +kernel) ml_X9_70 mt_X9_ask min_X9_ask mse_X9_ask (by decide) q11 rfl (Nat.le_of_ble_eq_true rfl) (by omega) (ok_mono h (fun w7 S8 F9 G10 h => ?_))
    obtain ⟨z12, e9, h⟩ := h
    subst e9
    show Go d MX9_findIn 17 [some (vR a0), some (vI a1), some (vI a2), some (vI a3), some (vI a4), some (vI a5), some (vJ a6), none] [vI z12] S8 F9 G10 Q
    obtain ⟨ht, hf⟩ := h
    refine go_ifne (tgt := 24) (show decode cX9_findIn 17 = .ok (.ifCond .ne 7, 3) by decide +kernel) (by decide) (fun hc => ?_) (fun hc => ?_)
    · have h := ht hc
      refine go_aload_n (show decode cX9_findIn 24 = .ok (.aload_n 0, 1) by decide +kernel) (by rfl) ?_
      refine go_iload_n (show decode cX9_findIn 25 = .ok (.iload_n 1, 1) by decide +kernel) (by rfl) ?_
      refine go_iconst (show decode cX9_findIn 26 = .ok (.iconst 0, 1) by decide +kernel) (by decide) ?_
      refine go_aload_n (show decode cX9_findIn 27 = .ok (.aload_n 0, 1) by decide +kernel) (by rfl) ?_
      obtain ⟨q13, h⟩ := h
      refine go_getR (show decode cX9_findIn 28 = .ok (.getfield 42, 3) by decide +kernel) fl_X9_42 rfl q13 ?_
      refine go_lload (show decode cX9_findIn 31 = .ok (.lload 6, 2) by decide +kernel) (by rfl) ?_
      refine go_callV (d2 := d - 1) (M2 := MX9_numberOfUnit) (n := 4) (ci := 9) (av := [vI a1, vI 0, vR (sR S8 a0 4), vJ a6]) (st := []) (show decode cX9_findIn 33 = .ok (.invokevirtual 300, 3) by decide +kernel) ml_X9_300 mt_X9_numberOfUnit min_X9_numberOfUnit mse_X9_numberOfUnit (by decide) q13 rfl (Nat.le_of_ble_eq_true rfl) (by omega) (ok_mono h (fun w14 S15 F16 G17 h => ?_))
      obtain ⟨z18, e9, h⟩ := h
      subst e9
      show Go d MX9_findIn 36 [some (vR a0), some (vI a1), some (vI a2), some (vI a3), some (vI a4), some (vI a5), some (vJ a6), none] [vJ z18] S15 F16 G17 Q
      exact go_lret (show decode cX9_findIn 36 = .ok (.lreturn, 1) by decide +kernel) rfl h
    · have h := hf hc
      refine go_ldc2 (show decode cX9_findIn 20 = .ok (.ldc2_w 74, 3) by decide +kernel) lc_X9_74 (by decide) ?_
      exact go_lret (show decode cX9_findIn 23 = .ok (.lreturn, 1) by decide +kernel) rfl h
def V_X9_touched_0 (d : Nat) (S : AS) (F : AF) (G : AG) (Q : AQ) (a0 : Nat) (a1 : Int) (a2 : Int) (a3 : Int) (a4 : Int) (a5 : Int) (a6 : Int) : Prop :=
  (1 ≤ d) ∧
  Ok (d - 1) MX9_isGood [vI a1] S F G (fun w2 S3 F4 G5 =>
  ∃ z6 : Int, w2 = some (vI z6) ∧
  ((z6 = 0) →
    Q (some (vJ (-2))) S3 F4 G5) ∧
  ((¬ z6 = 0) →
    (sK S3 a0 = 9) ∧
    Ok (d - 1) MX9_ask [vR a0, vI a2, vI a3, vI a4, vI a5] S3 F4 G5 (fun w7 S8 F9 G10 =>
    ∃ z12 : Int, w7 = some (vI z12) ∧
    ((¬ z12 = 0) →
      ((1 ≤ a6) →
        (sK S8 a0 = 9) ∧
        (sK S8 (sR S8 a0 1) = 7) ∧
        Ok (d - 1) MX7_locate [vR (sR S8 a0 1), vI a1, vI 0, vR (sR S8 a0 4), vJ a6] S8 F9 G10 (fun w14 S15 F16 G17 =>
        ∃ z19 : Int, w14 = some (vI z19) ∧
        ((z19 = 0) →
          Q (some (vJ (-1))) S15 F16 G17) ∧
        ((¬ z19 = 0) →
          (sK S15 a0 = 9) ∧
          (sK S15 (sR S15 a0 1) = 7) ∧
          Q (some (vJ (F16 (sR S15 a0 1) 7))) S15 F16 G17))) ∧
      ((¬ 1 ≤ a6) →
        Q (some (vJ (-3))) S8 F9 G10)) ∧
    ((z12 = 0) →
      Q (some (vJ (-2))) S8 F9 G10))))
theorem R_X9_touched_0 {d : Nat} {S : AS} {F : AF} {G : AG} {Q : AQ} {a0 : Nat} {a1 : Int} {a2 : Int} {a3 : Int} {a4 : Int} {a5 : Int} {a6 : Int} (h : V_X9_touched_0 d S F G Q a0 a1 a2 a3 a4 a5 a6) : Go d MX9_touched 0 [some (vR a0), some (vI a1), some (vI a2), some (vI a3), some (vI a4), some (vI a5), some (vJ a6), none] [] S F G Q := by
  unfold V_X9_touched_0 at h
  refine go_iload_n (show decode cX9_touched 0 = .ok (.iload_n 1, 1) by decide +kernel) (by rfl) ?_
  obtain ⟨q1, h⟩ := h
  refine go_callS (d2 := d - 1) (M2 := MX9_isGood) (n := 1) (av := [vI a1]) (st := []) (show decode cX9_touched 1 = .ok (.invokestatic 66, 3) by decide +kernel) ml_X9_66 mt_X9_isGood mst_X9_isGood rfl (Nat.le_of_ble_eq_true rfl) (by omega) (ok_mono h (fun w2 S3 F4 G5 h => ?_))
  obtain ⟨z6, e9, h⟩ := h
  subst e9
  show Go d MX9_touched 4 [some (vR a0), some (vI a1), some (vI a2), some (vI a3), some (vI a4), some (vI a5), some (vJ a6), none] [vI z6] S3 F4 G5 Q
  obtain ⟨ht, hf⟩ := h
  refine go_ifeq (tgt := 20) (show decode cX9_touched 4 = .ok (.ifCond .eq 16, 3) by decide +kernel) (by decide) (fun hc => ?_) (fun hc => ?_)
  · have h := ht hc
    refine go_ldc2 (show decode cX9_touched 20 = .ok (.ldc2_w 74, 3) by decide +kernel) lc_X9_74 (by decide) ?_
    exact go_lret (show decode cX9_touched 23 = .ok (.lreturn, 1) by decide +kernel) rfl h
  · have h := hf hc
    refine go_aload_n (show decode cX9_touched 7 = .ok (.aload_n 0, 1) by decide +kernel) (by rfl) ?_
    refine go_iload_n (show decode cX9_touched 8 = .ok (.iload_n 2, 1) by decide +kernel) (by rfl) ?_
    refine go_iload_n (show decode cX9_touched 9 = .ok (.iload_n 3, 1) by decide +kernel) (by rfl) ?_
    refine go_iload (show decode cX9_touched 10 = .ok (.iload 4, 2) by decide +kernel) (by rfl) ?_
    refine go_iload (show decode cX9_touched 12 = .ok (.iload 5, 2) by decide +kernel) (by rfl) ?_
    obtain ⟨q11, h⟩ := h
    refine go_callV (d2 := d - 1) (M2 := MX9_ask) (n := 4) (ci := 9) (av := [vI a2, vI a3, vI a4, vI a5]) (st := []) (show decode cX9_touched 14 = .ok (.invokevirtual 70, 3) by decide +kernel) ml_X9_70 mt_X9_ask min_X9_ask mse_X9_ask (by decide) q11 rfl (Nat.le_of_ble_eq_true rfl) (by omega) (ok_mono h (fun w7 S8 F9 G10 h => ?_))
    obtain ⟨z12, e9, h⟩ := h
    subst e9
    show Go d MX9_touched 17 [some (vR a0), some (vI a1), some (vI a2), some (vI a3), some (vI a4), some (vI a5), some (vJ a6), none] [vI z12] S8 F9 G10 Q
    obtain ⟨ht, hf⟩ := h
    refine go_ifne (tgt := 24) (show decode cX9_touched 17 = .ok (.ifCond .ne 7, 3) by decide +kernel) (by decide) (fun hc => ?_) (fun hc => ?_)
    · have h := ht hc
      refine go_lload (show decode cX9_touched 24 = .ok (.lload 6, 2) by decide +kernel) (by rfl) ?_
      refine go_lconst (n := 1) (show decode cX9_touched 26 = .ok (.lconst 1, 1) by decide +kernel) ?_
      show Go d MX9_touched 27 [some (vR a0), some (vI a1), some (vI a2), some (vI a3), some (vI a4), some (vI a5), some (vJ a6), none] [vJ 1, vJ a6] S8 F9 G10 Q
      obtain ⟨ht, hf⟩ := h
      refine go_jge (tgt := 35) (show decode cX9_touched 27 = .ok (.lcmp, 1) by decide +kernel) (show decode cX9_touched 28 = .ok (.ifCond .ge 7, 3) by decide +kernel) (by decide) (fun hc => ?_) (fun hc => ?_)
      · have h := ht hc
        refine go_aload_n (show decode cX9_touched 35 = .ok (.aload_n 0, 1) by decide +kernel) (by rfl) ?_
        obtain ⟨q13, h⟩ := h
        refine go_getR (show decode cX9_touched 36 = .ok (.getfield 21, 3) by decide +kernel) fl_X9_21 rfl q13 ?_
        refine go_iload_n (show decode cX9_touched 39 = .ok (.iload_n 1, 1) by decide +kernel) (by rfl) ?_
        refine go_iconst (show decode cX9_touched 40 = .ok (.iconst 0, 1) by decide +kernel) (by decide) ?_
        refine go_aload_n (show decode cX9_touched 41 = .ok (.aload_n 0, 1) by decide +kernel) (by rfl) ?_
        refine go_getR (show decode cX9_touched 42 = .ok (.getfield 42, 3) by decide +kernel) fl_X9_42 rfl q13 ?_
        refine go_lload (show decode cX9_touched 45 = .ok (.lload 6, 2) by decide +kernel) (by rfl) ?_
        obtain ⟨q18, h⟩ := h
        refine go_callV (d2 := d - 1) (M2 := MX7_locate) (n := 4) (ci := 7) (av := [vI a1, vI 0, vR (sR S8 a0 4), vJ a6]) (st := []) (show decode cX9_touched 47 = .ok (.invokevirtual 109, 3) by decide +kernel) ml_X9_109 mt_X7_locate min_X7_locate mse_X7_locate (by decide) q18 rfl (Nat.le_of_ble_eq_true rfl) (by omega) (ok_mono h (fun w14 S15 F16 G17 h => ?_))
        obtain ⟨z19, e9, h⟩ := h
        subst e9
        show Go d MX9_touched 50 [some (vR a0), some (vI a1), some (vI a2), some (vI a3), some (vI a4), some (vI a5), some (vJ a6), none] [vI z19] S15 F16 G17 Q
        obtain ⟨ht, hf⟩ := h
        refine go_ifeq (tgt := 63) (show decode cX9_touched 50 = .ok (.ifCond .eq 13, 3) by decide +kernel) (by decide) (fun hc => ?_) (fun hc => ?_)
        · have h := ht hc
          refine go_ldc2 (show decode cX9_touched 63 = .ok (.ldc2_w 218, 3) by decide +kernel) lc_X9_218 (by decide) ?_
          exact go_lret (show decode cX9_touched 66 = .ok (.lreturn, 1) by decide +kernel) rfl h
        · have h := hf hc
          refine go_aload_n (show decode cX9_touched 53 = .ok (.aload_n 0, 1) by decide +kernel) (by rfl) ?_
          obtain ⟨q20, h⟩ := h
          refine go_getR (show decode cX9_touched 54 = .ok (.getfield 21, 3) by decide +kernel) fl_X9_21 rfl q20 ?_
          obtain ⟨q21, h⟩ := h
          refine go_getJ (show decode cX9_touched 57 = .ok (.getfield 304, 3) by decide +kernel) fl_X9_304 rfl q21 ?_
          refine go_goto (tgt := 66) (show decode cX9_touched 60 = .ok (.goto 6, 3) by decide +kernel) (by decide) ?_
          exact go_lret (show decode cX9_touched 66 = .ok (.lreturn, 1) by decide +kernel) rfl h
      · have h := hf hc
        refine go_ldc2 (show decode cX9_touched 31 = .ok (.ldc2_w 55, 3) by decide +kernel) lc_X9_55 (by decide) ?_
        exact go_lret (show decode cX9_touched 34 = .ok (.lreturn, 1) by decide +kernel) rfl h
    · have h := hf hc
      refine go_ldc2 (show decode cX9_touched 20 = .ok (.ldc2_w 74, 3) by decide +kernel) lc_X9_74 (by decide) ?_
      exact go_lret (show decode cX9_touched 23 = .ok (.lreturn, 1) by decide +kernel) rfl h
def V_X9_ahead_112 (d : Nat) (S : AS) (F : AF) (G : AG) (Q : AQ) (a0 : Nat) (a1 : Int) (a2 : Int) (a3 : Int) (a4 : Int) : Prop :=
  (sK S a0 = 9) ∧
  (1 ≤ d) ∧
  (sK S (sR S a0 0) = 2) ∧
  Ok (d - 1) MX2_sumOf [vR (sR S a0 0), vI a1, vR (sR S a0 4)] S F G (fun w3 S4 F5 G6 =>
  ∃ z8 : Int, w3 = some (vJ z8) ∧
  (sK S4 a0 = 9) ∧
  (sK S4 (sR S4 a0 0) = 2) ∧
  Ok (d - 1) MX2_sumOf [vR (sR S4 a0 0), vI a1, vR (sR S4 a0 5)] S4 F5 G6 (fun w10 S11 F12 G13 =>
  ∃ z15 : Int, w10 = some (vJ z15) ∧
  (r64 (z8 + z15)) ∧
  Q (some (vJ (z8 + z15))) S11 F12 G13))
theorem R_X9_ahead_112 {d : Nat} {S : AS} {F : AF} {G : AG} {Q : AQ} {a0 : Nat} {a1 : Int} {a2 : Int} {a3 : Int} {a4 : Int} (h : V_X9_ahead_112 d S F G Q a0 a1 a2 a3 a4) : Go d MX9_ahead 112 [some (vR a0), some (vI a1), some (vI a2), some (vI a3), some (vI a4)] [] S F G Q := by
  unfold V_X9_ahead_112 at h
  refine go_aload_n (show decode cX9_ahead 112 = .ok (.aload_n 0, 1) by decide +kernel) (by rfl) ?_
  obtain ⟨q1, h⟩ := h
  refine go_getR (show decode cX9_ahead 113 = .ok (.getfield 12, 3) by decide +kernel) fl_X9_12 rfl q1 ?_
  refine go_iload_n (show decode cX9_ahead 116 = .ok (.iload_n 1, 1) by decide +kernel) (by rfl) ?_
  refine go_aload_n (show decode cX9_ahead 117 = .ok (.aload_n 0, 1) by decide +kernel) (by rfl) ?_
  refine go_getR (show decode cX9_ahead 118 = .ok (.getfield 42, 3) by decide +kernel) fl_X9_42 rfl q1 ?_
  obtain ⟨q2, h⟩ := h
  obtain ⟨q7, h⟩ := h
  refine go_callV (d2 := d - 1) (M2 := MX2_sumOf) (n := 2) (ci := 2) (av := [vI a1, vR (sR S a0 4)]) (st := []) (show decode cX9_ahead 121 = .ok (.invokevirtual 103, 3) by decide +kernel) ml_X9_103 mt_X2_sumOf min_X2_sumOf mse_X2_sumOf (by decide) q7 rfl (Nat.le_of_ble_eq_true rfl) (by omega) (ok_mono h (fun w3 S4 F5 G6 h => ?_))
  obtain ⟨z8, e9, h⟩ := h
  subst e9
  show Go d MX9_ahead 124 [some (vR a0), some (vI a1), some (vI a2), some (vI a3), some (vI a4)] [vJ z8] S4 F5 G6 Q
  refine go_aload_n (show decode cX9_ahead 124 = .ok (.aload_n 0, 1) by decide +kernel) (by rfl) ?_
  obtain ⟨q9, h⟩ := h
  refine go_getR (show decode cX9_ahead 125 = .ok (.getfield 12, 3) by decide +kernel) fl_X9_12 rfl q9 ?_
  refine go_iload_n (show decode cX9_ahead 128 = .ok (.iload_n 1, 1) by decide +kernel) (by rfl) ?_
  refine go_aload_n (show decode cX9_ahead 129 = .ok (.aload_n 0, 1) by decide +kernel) (by rfl) ?_
  refine go_getR (show decode cX9_ahead 130 = .ok (.getfield 46, 3) by decide +kernel) fl_X9_46 rfl q9 ?_
  obtain ⟨q14, h⟩ := h
  refine go_callV (d2 := d - 1) (M2 := MX2_sumOf) (n := 2) (ci := 2) (av := [vI a1, vR (sR S4 a0 5)]) (st := [vJ z8]) (show decode cX9_ahead 133 = .ok (.invokevirtual 103, 3) by decide +kernel) ml_X9_103 mt_X2_sumOf min_X2_sumOf mse_X2_sumOf (by decide) q14 rfl (Nat.le_of_ble_eq_true rfl) (by omega) (ok_mono h (fun w10 S11 F12 G13 h => ?_))
  obtain ⟨z15, e9, h⟩ := h
  subst e9
  show Go d MX9_ahead 136 [some (vR a0), some (vI a1), some (vI a2), some (vI a3), some (vI a4)] [vJ z15, vJ z8] S11 F12 G13 Q
  obtain ⟨q16, h⟩ := h
  refine go_ladd (show decode cX9_ahead 136 = .ok (.ladd, 1) by decide +kernel) q16 ?_
  exact go_lret (show decode cX9_ahead 137 = .ok (.lreturn, 1) by decide +kernel) rfl h
def V_X9_ahead_0 (d : Nat) (S : AS) (F : AF) (G : AG) (Q : AQ) (a0 : Nat) (a1 : Int) (a2 : Int) (a3 : Int) (a4 : Int) : Prop :=
  (1 ≤ d) ∧
  Ok (d - 1) MX9_isGood [vI a1] S F G (fun w2 S3 F4 G5 =>
  ∃ z6 : Int, w2 = some (vI z6) ∧
  ((z6 = 0) →
    Q (some (vJ (-2))) S3 F4 G5) ∧
  ((¬ z6 = 0) →
    Ok (d - 1) MX9_isAxis [vI a2] S3 F4 G5 (fun w7 S8 F9 G10 =>
    ∃ z11 : Int, w7 = some (vI z11) ∧
    ((z11 = 0) →
      Q (some (vJ (-2))) S8 F9 G10) ∧
    ((¬ z11 = 0) →
      (sK S8 a0 = 9) ∧
      Ok (d - 1) MX9_ask [vR a0, vI a3, vI a4, vI a3, vI a4] S8 F9 G10 (fun w12 S13 F14 G15 =>
      ∃ z17 : Int, w12 = some (vI z17) ∧
      ((¬ z17 = 0) →
        ((¬ a2 = 0) →
          (sK S13 a0 = 9) ∧
          (r32 (a3 - 1)) ∧
          (sK S13 (sR S13 a0 0) = 2) ∧
          (sK S13 (sR S13 (sR S13 a0 0) 2) = 3) ∧
          (sK S13 (sR S13 a0 4) = 3) ∧
          Ok (d - 1) MX3_set [vR (sR S13 a0 4), vI 0, vI 0, vI (a3 - 1), vI (F14 (sR S13 (sR S13 a0 0) 2) 3)] S13 F14 G15 (fun w22 S23 F24 G25 =>
          w22 = none ∧
          (sK S23 a0 = 9) ∧
          (r32 (a4 - 1)) ∧
          (sK S23 (sR S23 a0 5) = 3) ∧
          Ok (d - 1) MX3_set [vR (sR S23 a0 5), vI a3, vI 0, vI a3, vI (a4 - 1)] S23 F24 G25 (fun w29 S30 F31 G32 =>
          w29 = none ∧
          V_X9_ahead_112 d S30 F31 G32 Q a0 a1 a2 a3 a4))) ∧
        ((a2 = 0) →
          (sK S13 a0 = 9) ∧
          (sK S13 (sR S13 a0 0) = 2) ∧
          (sK S13 (sR S13 (sR S13 a0 0) 2) = 3) ∧
          (r32 (a4 - 1)) ∧
          (sK S13 (sR S13 a0 4) = 3) ∧
          Ok (d - 1) MX3_set [vR (sR S13 a0 4), vI 0, vI 0, vI (F14 (sR S13 (sR S13 a0 0) 2) 2), vI (a4 - 1)] S13 F14 G15 (fun w38 S39 F40 G41 =>
          w38 = none ∧
          (sK S39 a0 = 9) ∧
          (r32 (a3 - 1)) ∧
          (sK S39 (sR S39 a0 5) = 3) ∧
          Ok (d - 1) MX3_set [vR (sR S39 a0 5), vI 0, vI a4, vI (a3 - 1), vI a4] S39 F40 G41 (fun w45 S46 F47 G48 =>
          w45 = none ∧
          V_X9_ahead_112 d S46 F47 G48 Q a0 a1 a2 a3 a4)))) ∧
      ((z17 = 0) →
        Q (some (vJ (-2))) S13 F14 G15))))))
theorem R_X9_ahead_0 {d : Nat} {S : AS} {F : AF} {G : AG} {Q : AQ} {a0 : Nat} {a1 : Int} {a2 : Int} {a3 : Int} {a4 : Int} (h : V_X9_ahead_0 d S F G Q a0 a1 a2 a3 a4) : Go d MX9_ahead 0 [some (vR a0), some (vI a1), some (vI a2), some (vI a3), some (vI a4)] [] S F G Q := by
  unfold V_X9_ahead_0 at h
  refine go_iload_n (show decode cX9_ahead 0 = .ok (.iload_n 1, 1) by decide +kernel) (by rfl) ?_
  obtain ⟨q1, h⟩ := h
  refine go_callS (d2 := d - 1) (M2 := MX9_isGood) (n := 1) (av := [vI a1]) (st := []) (show decode cX9_ahead 1 = .ok (.invokestatic 66, 3) by decide +kernel) ml_X9_66 mt_X9_isGood mst_X9_isGood rfl (Nat.le_of_ble_eq_true rfl) (by omega) (ok_mono h (fun w2 S3 F4 G5 h => ?_))
  obtain ⟨z6, e9, h⟩ := h
  subst e9
  show Go d MX9_ahead 4 [some (vR a0), some (vI a1), some (vI a2), some (vI a3), some (vI a4)] [vI z6] S3 F4 G5 Q
  obtain ⟨ht, hf⟩ := h
  refine go_ifeq (tgt := 27) (show decode cX9_ahead 4 = .ok (.ifCond .eq 23, 3) by decide +kernel) (by decide) (fun hc => ?_) (fun hc => ?_)
  · have h := ht hc
    refine go_ldc2 (show decode cX9_ahead 27 = .ok (.ldc2_w 74, 3) by decide +kernel) lc_X9_74 (by decide) ?_
    exact go_lret (show decode cX9_ahead 30 = .ok (.lreturn, 1) by decide +kernel) rfl h
  · have h := hf hc
    refine go_iload_n (show decode cX9_ahead 7 = .ok (.iload_n 2, 1) by decide +kernel) (by rfl) ?_
    refine go_callS (d2 := d - 1) (M2 := MX9_isAxis) (n := 1) (av := [vI a2]) (st := []) (show decode cX9_ahead 8 = .ok (.invokestatic 297, 3) by decide +kernel) ml_X9_297 mt_X9_isAxis mst_X9_isAxis rfl (Nat.le_of_ble_eq_true rfl) (by omega) (ok_mono h (fun w7 S8 F9 G10 h => ?_))
    obtain ⟨z11, e9, h⟩ := h
    subst e9
    show Go d MX9_ahead 11 [some (vR a0), some (vI a1), some (vI a2), some (vI a3), some (vI a4)] [vI z11] S8 F9 G10 Q
    obtain ⟨ht, hf⟩ := h
    refine go_ifeq (tgt := 27) (show decode cX9_ahead 11 = .ok (.ifCond .eq 16, 3) by decide +kernel) (by decide) (fun hc => ?_) (fun hc => ?_)
    · have h := ht hc
      refine go_ldc2 (show decode cX9_ahead 27 = .ok (.ldc2_w 74, 3) by decide +kernel) lc_X9_74 (by decide) ?_
      exact go_lret (show decode cX9_ahead 30 = .ok (.lreturn, 1) by decide +kernel) rfl h
    · have h := hf hc
      refine go_aload_n (show decode cX9_ahead 14 = .ok (.aload_n 0, 1) by decide +kernel) (by rfl) ?_
      refine go_iload_n (show decode cX9_ahead 15 = .ok (.iload_n 3, 1) by decide +kernel) (by rfl) ?_
      refine go_iload (show decode cX9_ahead 16 = .ok (.iload 4, 2) by decide +kernel) (by rfl) ?_
      refine go_iload_n (show decode cX9_ahead 18 = .ok (.iload_n 3, 1) by decide +kernel) (by rfl) ?_
      refine go_iload (show decode cX9_ahead 19 = .ok (.iload 4, 2) by decide +kernel) (by rfl) ?_
      obtain ⟨q16, h⟩ := h
      refine go_callV (d2 := d - 1) (M2 := MX9_ask) (n := 4) (ci := 9) (av := [vI a3, vI a4, vI a3, vI a4]) (st := []) (show decode cX9_ahead 21 = .ok (.invokevirtual 70, 3) by decide +kernel) ml_X9_70 mt_X9_ask min_X9_ask mse_X9_ask (by decide) q16 rfl (Nat.le_of_ble_eq_true rfl) (by omega) (ok_mono h (fun w12 S13 F14 G15 h => ?_))
      obtain ⟨z17, e9, h⟩ := h
      subst e9
      show Go d MX9_ahead 24 [some (vR a0), some (vI a1), some (vI a2), some (vI a3), some (vI a4)] [vI z17] S13 F14 G15 Q
      obtain ⟨ht, hf⟩ := h
      refine go_ifne (tgt := 31) (show decode cX9_ahead 24 = .ok (.ifCond .ne 7, 3) by decide +kernel) (by decide) (fun hc => ?_) (fun hc => ?_)
      · have h := ht hc
        refine go_iload_n (show decode cX9_ahead 31 = .ok (.iload_n 2, 1) by decide +kernel) (by rfl) ?_
        obtain ⟨ht, hf⟩ := h
        refine go_ifne (tgt := 76) (show decode cX9_ahead 32 = .ok (.ifCond .ne 44, 3) by decide +kernel) (by decide) (fun hc => ?_) (fun hc => ?_)
        · have h := ht hc
          refine go_aload_n (show decode cX9_ahead 76 = .ok (.aload_n 0, 1) by decide +kernel) (by rfl) ?_
          obtain ⟨q18, h⟩ := h
          refine go_getR (show decode cX9_ahead 77 = .ok (.getfield 42, 3) by decide +kernel) fl_X9_42 rfl q18 ?_
          refine go_iconst (show decode cX9_ahead 80 = .ok (.iconst 0, 1) by decide +kernel) (by decide) ?_
          refine go_iconst (show decode cX9_ahead 81 = .ok (.iconst 0, 1) by decide +kernel) (by decide) ?_
          refine go_iload_n (show decode cX9_ahead 82 = .ok (.iload_n 3, 1) by decide +kernel) (by rfl) ?_
          refine go_iconst (show decode cX9_ahead 83 = .ok (.iconst 1, 1) by decide +kernel) (by decide) ?_
          obtain ⟨q19, h⟩ := h
          refine go_isub (show decode cX9_ahead 84 = .ok (.isub, 1) by decide +kernel) q19 ?_
          refine go_aload_n (show decode cX9_ahead 85 = .ok (.aload_n 0, 1) by decide +kernel) (by rfl) ?_
          refine go_getR (show decode cX9_ahead 86 = .ok (.getfield 12, 3) by decide +kernel) fl_X9_12 rfl q18 ?_
          obtain ⟨q20, h⟩ := h
          refine go_getR (show decode cX9_ahead 89 = .ok (.getfield 59, 3) by decide +kernel) fl_X9_59 rfl q20 ?_
          obtain ⟨q21, h⟩ := h
          refine go_getI (show decode cX9_ahead 92 = .ok (.getfield 310, 3) by decide +kernel) fl_X9_310 (Or.inl rfl) q21 ?_
          obtain ⟨q26, h⟩ := h
          refine go_callV (d2 := d - 1) (M2 := MX3_set) (n := 4) (ci := 3) (av := [vI 0, vI 0, vI (a3 - 1), vI (F14 (sR S13 (sR S13 a0 0) 2) 3)]) (st := []) (show decode cX9_ahead 95 = .ok (.invokevirtual 150, 3) by decide +kernel) ml_X9_150 mt_X3_set min_X3_set mse_X3_set (by decide) q26 rfl (Nat.le_of_ble_eq_true rfl) (by omega) (ok_mono h (fun w22 S23 F24 G25 h => ?_))
          obtain ⟨e9, h⟩ := h
          subst e9
          show Go d MX9_ahead 98 [some (vR a0), some (vI a1), some (vI a2), some (vI a3), some (vI a4)] [] S23 F24 G25 Q
          refine go_aload_n (show decode cX9_ahead 98 = .ok (.aload_n 0, 1) by decide +kernel) (by rfl) ?_
          obtain ⟨q27, h⟩ := h
          refine go_getR (show decode cX9_ahead 99 = .ok (.getfield 46, 3) by decide +kernel) fl_X9_46 rfl q27 ?_
          refine go_iload_n (show decode cX9_ahead 102 = .ok (.iload_n 3, 1) by decide +kernel) (by rfl) ?_
          refine go_iconst (show decode cX9_ahead 103 = .ok (.iconst 0, 1) by decide +kernel) (by decide) ?_
          refine go_iload_n (show decode cX9_ahead 104 = .ok (.iload_n 3, 1) by decide +kernel) (by rfl) ?_
          refine go_iload (show decode cX9_ahead 105 = .ok (.iload 4, 2) by decide +kernel) (by rfl) ?_
          refine go_iconst (show decode cX9_ahead 107 = .ok (.iconst 1, 1) by decide +kernel) (by decide) ?_
          obtain ⟨q28, h⟩ := h
          refine go_isub (show decode cX9_ahead 108 = .ok (.isub, 1) by decide +kernel) q28 ?_
          obtain ⟨q33, h⟩ := h
          refine go_callV (d2 := d - 1) (M2 := MX3_set) (n := 4) (ci := 3) (av := [vI a3, vI 0, vI a3, vI (a4 - 1)]) (st := []) (show decode cX9_ahead 109 = .ok (.invokevirtual 150, 3) by decide +kernel) ml_X9_150 mt_X3_set min_X3_set mse_X3_set (by decide) q33 rfl (Nat.le_of_ble_eq_true rfl) (by omega) (ok_mono h (fun w29 S30 F31 G32 h => ?_))
          obtain ⟨e9, h⟩ := h
          subst e9
          show Go d MX9_ahead 112 [some (vR a0), some (vI a1), some (vI a2), some (vI a3), some (vI a4)] [] S30 F31 G32 Q
          exact R_X9_ahead_112 h
        · have h := hf hc
          refine go_aload_n (show decode cX9_ahead 35 = .ok (.aload_n 0, 1) by decide +kernel) (by rfl) ?_
          obtain ⟨q34, h⟩ := h
          refine go_getR (show decode cX9_ahead 36 = .ok (.getfield 42, 3) by decide +kernel) fl_X9_42 rfl q34 ?_
          refine go_iconst (show decode cX9_ahead 39 = .ok (.iconst 0, 1) by decide +kernel) (by decide) ?_
          refine go_iconst (show decode cX9_ahead 40 = .ok (.iconst 0, 1) by decide +kernel) (by decide) ?_
          refine go_aload_n (show decode cX9_ahead 41 = .ok (.aload_n 0, 1) by decide +kernel) (by rfl) ?_
          refine go_getR (show decode cX9_ahead 42 = .ok (.getfield 12, 3) by decide +kernel) fl_X9_12 rfl q34 ?_
          obtain ⟨q35, h⟩ := h
          refine go_getR (show decode cX9_ahead 45 = .ok (.getfield 59, 3) by decide +kernel) fl_X9_59 rfl q35 ?_
          obtain ⟨q36, h⟩ := h
          refine go_getI (show decode cX9_ahead 48 = .ok (.getfield 307, 3) by decide +kernel) fl_X9_307 (Or.inl rfl) q36 ?_
          refine go_iload (show decode cX9_ahead 51 = .ok (.iload 4, 2) by decide +kernel) (by rfl) ?_
          refine go_iconst (show decode cX9_ahead 53 = .ok (.iconst 1, 1) by decide +kernel) (by decide) ?_
          obtain ⟨q37, h⟩ := h
          refine go_isub (show decode cX9_ahead 54 = .ok (.isub, 1) by decide +kernel) q37 ?_
          obtain ⟨q42, h⟩ := h
          refine go_callV (d2 := d - 1) (M2 := MX3_set) (n := 4) (ci := 3) (av := [vI 0, vI 0, vI (F14 (sR S13 (sR S13 a0 0) 2) 2), vI (a4 - 1)]) (st := []) (show decode cX9_ahead 55 = .ok (.invokevirtual 150, 3) by decide +kernel) ml_X9_150 mt_X3_set min_X3_set mse_X3_set (by decide) q42 rfl (Nat.le_of_ble_eq_true rfl) (by omega) (ok_mono h (fun w38 S39 F40 G41 h => ?_))
          obtain ⟨e9, h⟩ := h
          subst e9
          show Go d MX9_ahead 58 [some (vR a0), some (vI a1), some (vI a2), some (vI a3), some (vI a4)] [] S39 F40 G41 Q
          refine go_aload_n (show decode cX9_ahead 58 = .ok (.aload_n 0, 1) by decide +kernel) (by rfl) ?_
          obtain ⟨q43, h⟩ := h
          refine go_getR (show decode cX9_ahead 59 = .ok (.getfield 46, 3) by decide +kernel) fl_X9_46 rfl q43 ?_
          refine go_iconst (show decode cX9_ahead 62 = .ok (.iconst 0, 1) by decide +kernel) (by decide) ?_
          refine go_iload (show decode cX9_ahead 63 = .ok (.iload 4, 2) by decide +kernel) (by rfl) ?_
          refine go_iload_n (show decode cX9_ahead 65 = .ok (.iload_n 3, 1) by decide +kernel) (by rfl) ?_
          refine go_iconst (show decode cX9_ahead 66 = .ok (.iconst 1, 1) by decide +kernel) (by decide) ?_
          obtain ⟨q44, h⟩ := h
          refine go_isub (show decode cX9_ahead 67 = .ok (.isub, 1) by decide +kernel) q44 ?_
          refine go_iload (show decode cX9_ahead 68 = .ok (.iload 4, 2) by decide +kernel) (by rfl) ?_
          obtain ⟨q49, h⟩ := h
          refine go_callV (d2 := d - 1) (M2 := MX3_set) (n := 4) (ci := 3) (av := [vI 0, vI a4, vI (a3 - 1), vI a4]) (st := []) (show decode cX9_ahead 70 = .ok (.invokevirtual 150, 3) by decide +kernel) ml_X9_150 mt_X3_set min_X3_set mse_X3_set (by decide) q49 rfl (Nat.le_of_ble_eq_true rfl) (by omega) (ok_mono h (fun w45 S46 F47 G48 h => ?_))
          obtain ⟨e9, h⟩ := h
          subst e9
          show Go d MX9_ahead 73 [some (vR a0), some (vI a1), some (vI a2), some (vI a3), some (vI a4)] [] S46 F47 G48 Q
          refine go_goto (tgt := 112) (show decode cX9_ahead 73 = .ok (.goto 39, 3) by decide +kernel) (by decide) ?_
          exact R_X9_ahead_112 h
      · have h := hf hc
        refine go_ldc2 (show decode cX9_ahead 27 = .ok (.ldc2_w 74, 3) by decide +kernel) lc_X9_74 (by decide) ?_
        exact go_lret (show decode cX9_ahead 30 = .ok (.lreturn, 1) by decide +kernel) rfl h
def V_X9_depot_0 (d : Nat) (S : AS) (F : AF) (G : AG) (Q : AQ) (a0 : Nat) (a1 : Int) (a2 : Int) : Prop :=
  (1 ≤ d) ∧
  Ok (d - 1) MX9_isGood [vI a1] S F G (fun w2 S3 F4 G5 =>
  ∃ z6 : Int, w2 = some (vI z6) ∧
  ((z6 = 0) →
    Q (some (vJ (-2))) S3 F4 G5) ∧
  ((¬ z6 = 0) →
    ((a2 < 0) →
      Q (some (vJ (-2))) S3 F4 G5) ∧
    ((¬ a2 < 0) →
      ((a2 ≤ 2) →
        (sK S3 a0 = 9) ∧
        (sK S3 (sR S3 a0 0) = 2) ∧
        Ok (d - 1) MX2_sumOf [vR (sR S3 a0 0), vI a1, vR (sR S3 (sR S3 a0 0) 2)] S3 F4 G5 (fun w9 S10 F11 G12 =>
        ∃ z13 : Int, w9 = some (vJ z13) ∧
        ((1 ≤ z13) →
          ((¬ a2 = 0) →
            ((¬ a2 = 1) →
              (sK S10 a0 = 9) ∧
              (sK S10 (sR S10 a0 1) = 7) ∧
              Ok (d - 1) MX7_middle [vR (sR S10 a0 1), vI a1, vI 1, vJ z13] S10 F11 G12 (fun w15 S16 F17 G18 =>
              ∃ z20 : Int, w15 = some (vI z20) ∧
              (sK S16 (sR S10 a0 1) = 7) ∧
              Ok (d - 1) MX7_haulAcross [vR (sR S10 a0 1), vI a1, vI 1, vI z20, vJ 0] S16 F17 G18 (fun w21 S22 F23 G24 =>
              ∃ z26 : Int, w21 = some (vJ z26) ∧
              (sK S22 a0 = 9) ∧
              (sK S22 (sR S22 a0 1) = 7) ∧
              Ok (d - 1) MX7_middle [vR (sR S22 a0 1), vI a1, vI 0, vJ z13] S22 F23 G24 (fun w28 S29 F30 G31 =>
              ∃ z33 : Int, w28 = some (vI z33) ∧
              (sK S29 (sR S22 a0 1) = 7) ∧
              Ok (d - 1) MX7_haulAcross [vR (sR S22 a0 1), vI a1, vI 0, vI z33, vJ z26] S29 F30 G31 (fun w34 S35 F36 G37 =>
              ∃ z39 : Int, w34 = some (vJ z39) ∧
              ((z39 ≤ 3000000000000000000) →
                Q (some (vJ z39)) S35 F36 G37) ∧
              ((¬ z39 ≤ 3000000000000000000) →
                Q (some (vJ (-6))) S35 F36 G37)))))) ∧
            ((a2 = 1) →
              (sK S10 a0 = 9) ∧
              (sK S10 (sR S10 a0 1) = 7) ∧
              Ok (d - 1) MX7_middle [vR (sR S10 a0 1), vI a1, vI 0, vJ z13] S10 F11 G12 (fun w41 S42 F43 G44 =>
              ∃ z46 : Int, w41 = some (vI z46) ∧
              Q (some (vJ z46)) S42 F43 G44))) ∧
          ((a2 = 0) →
            (sK S10 a0 = 9) ∧
            (sK S10 (sR S10 a0 1) = 7) ∧
            Ok (d - 1) MX7_middle [vR (sR S10 a0 1), vI a1, vI 1, vJ z13] S10 F11 G12 (fun w48 S49 F50 G51 =>
            ∃ z53 : Int, w48 = some (vI z53) ∧
            Q (some (vJ z53)) S49 F50 G51))) ∧
        ((¬ 1 ≤ z13) →
          Q (some (vJ (-1))) S10 F11 G12))) ∧
      ((¬ a2 ≤ 2) →
        Q (some (vJ (-2))) S3 F4 G5))))
theorem R_X9_depot_0 {d : Nat} {S : AS} {F : AF} {G : AG} {Q : AQ} {a0 : Nat} {a1 : Int} {a2 : Int} (h : V_X9_depot_0 d S F G Q a0 a1 a2) : Go d MX9_depot 0 [some (vR a0), some (vI a1), some (vI a2), none, none, none, none] [] S F G Q := by
  unfold V_X9_depot_0 at h
  refine go_iload_n (show decode cX9_depot 0 = .ok (.iload_n 1, 1) by decide +kernel) (by rfl) ?_
  obtain ⟨q1, h⟩ := h
  refine go_callS (d2 := d - 1) (M2 := MX9_isGood) (n := 1) (av := [vI a1]) (st := []) (show decode cX9_depot 1 = .ok (.invokestatic 66, 3) by decide +kernel) ml_X9_66 mt_X9_isGood mst_X9_isGood rfl (Nat.le_of_ble_eq_true rfl) (by omega) (ok_mono h (fun w2 S3 F4 G5 h => ?_))
  obtain ⟨z6, e9, h⟩ := h
  subst e9
  show Go d MX9_depot 4 [some (vR a0), some (vI a1), some (vI a2), none, none, none, none] [vI z6] S3 F4 G5 Q
  obtain ⟨ht, hf⟩ := h
  refine go_ifeq (tgt := 16) (show decode cX9_depot 4 = .ok (.ifCond .eq 12, 3) by decide +kernel) (by decide) (fun hc => ?_) (fun hc => ?_)
  · have h := ht hc
    refine go_ldc2 (show decode cX9_depot 16 = .ok (.ldc2_w 74, 3) by decide +kernel) lc_X9_74 (by decide) ?_
    exact go_lret (show decode cX9_depot 19 = .ok (.lreturn, 1) by decide +kernel) rfl h
  · have h := hf hc
    refine go_iload_n (show decode cX9_depot 7 = .ok (.iload_n 2, 1) by decide +kernel) (by rfl) ?_
    obtain ⟨ht, hf⟩ := h
    refine go_iflt (tgt := 16) (show decode cX9_depot 8 = .ok (.ifCond .lt 8, 3) by decide +kernel) (by decide) (fun hc => ?_) (fun hc => ?_)
    · have h := ht hc
      refine go_ldc2 (show decode cX9_depot 16 = .ok (.ldc2_w 74, 3) by decide +kernel) lc_X9_74 (by decide) ?_
      exact go_lret (show decode cX9_depot 19 = .ok (.lreturn, 1) by decide +kernel) rfl h
    · have h := hf hc
      refine go_iload_n (show decode cX9_depot 11 = .ok (.iload_n 2, 1) by decide +kernel) (by rfl) ?_
      refine go_iconst (show decode cX9_depot 12 = .ok (.iconst 2, 1) by decide +kernel) (by decide) ?_
      obtain ⟨ht, hf⟩ := h
      refine go_icmple (tgt := 20) (show decode cX9_depot 13 = .ok (.if_icmp .le 7, 3) by decide +kernel) (by decide) (fun hc => ?_) (fun hc => ?_)
      · have h := ht hc
        refine go_aload_n (show decode cX9_depot 20 = .ok (.aload_n 0, 1) by decide +kernel) (by rfl) ?_
        obtain ⟨q7, h⟩ := h
        refine go_getR (show decode cX9_depot 21 = .ok (.getfield 12, 3) by decide +kernel) fl_X9_12 rfl q7 ?_
        refine go_iload_n (show decode cX9_depot 24 = .ok (.iload_n 1, 1) by decide +kernel) (by rfl) ?_
        refine go_aload_n (show decode cX9_depot 25 = .ok (.aload_n 0, 1) by decide +kernel) (by rfl) ?_
        refine go_getR (show decode cX9_depot 26 = .ok (.getfield 12, 3) by decide +kernel) fl_X9_12 rfl q7 ?_
        obtain ⟨q8, h⟩ := h
        refine go_getR (show decode cX9_depot 29 = .ok (.getfield 59, 3) by decide +kernel) fl_X9_59 rfl q8 ?_
        refine go_callV (d2 := d - 1) (M2 := MX2_sumOf) (n := 2) (ci := 2) (av := [vI a1, vR (sR S3 (sR S3 a0 0) 2)]) (st := []) (show decode cX9_depot 32 = .ok (.invokevirtual 103, 3) by decide +kernel) ml_X9_103 mt_X2_sumOf min_X2_sumOf mse_X2_sumOf (by decide) q8 rfl (Nat.le_of_ble_eq_true rfl) (by omega) (ok_mono h (fun w9 S10 F11 G12 h => ?_))
        obtain ⟨z13, e9, h⟩ := h
        subst e9
        show Go d MX9_depot 35 [some (vR a0), some (vI a1), some (vI a2), none, none, none, none] [vJ z13] S10 F11 G12 Q
        refine go_lstore_n (show decode cX9_depot 35 = .ok (.lstore_n 3, 1) by decide +kernel) (by decide) ?_
        show Go d MX9_depot 36 [some (vR a0), some (vI a1), some (vI a2), some (vJ z13), none, none, none] [] S10 F11 G12 Q
        refine go_lload_n (show decode cX9_depot 36 = .ok (.lload_n 3, 1) by decide +kernel) (by rfl) ?_
        refine go_lconst (n := 1) (show decode cX9_depot 37 = .ok (.lconst 1, 1) by decide +kernel) ?_
        show Go d MX9_depot 38 [some (vR a0), some (vI a1), some (vI a2), some (vJ z13), none, none, none] [vJ 1, vJ z13] S10 F11 G12 Q
        obtain ⟨ht, hf⟩ := h
        refine go_jge (tgt := 46) (show decode cX9_depot 38 = .ok (.lcmp, 1) by decide +kernel) (show decode cX9_depot 39 = .ok (.ifCond .ge 7, 3) by decide +kernel) (by decide) (fun hc => ?_) (fun hc => ?_)
        · have h := ht hc
          refine go_iload_n (show decode cX9_depot 46 = .ok (.iload_n 2, 1) by decide +kernel) (by rfl) ?_
          obtain ⟨ht, hf⟩ := h
          refine go_ifne (tgt := 62) (show decode cX9_depot 47 = .ok (.ifCond .ne 15, 3) by decide +kernel) (by decide) (fun hc => ?_) (fun hc => ?_)
          · have h := ht hc
            refine go_iload_n (show decode cX9_depot 62 = .ok (.iload_n 2, 1) by decide +kernel) (by rfl) ?_
            refine go_iconst (show decode cX9_depot 63 = .ok (.iconst 1, 1) by decide +kernel) (by decide) ?_
            obtain ⟨ht, hf⟩ := h
            refine go_icmpne (tgt := 79) (show decode cX9_depot 64 = .ok (.if_icmp .ne 15, 3) by decide +kernel) (by decide) (fun hc => ?_) (fun hc => ?_)
            · have h := ht hc
              refine go_aload_n (show decode cX9_depot 79 = .ok (.aload_n 0, 1) by decide +kernel) (by rfl) ?_
              obtain ⟨q14, h⟩ := h
              refine go_getR (show decode cX9_depot 80 = .ok (.getfield 21, 3) by decide +kernel) fl_X9_21 rfl q14 ?_
              refine go_iload_n (show decode cX9_depot 83 = .ok (.iload_n 1, 1) by decide +kernel) (by rfl) ?_
              refine go_iconst (show decode cX9_depot 84 = .ok (.iconst 1, 1) by decide +kernel) (by decide) ?_
              refine go_aload_n (show decode cX9_depot 85 = .ok (.aload_n 0, 1) by decide +kernel) (by rfl) ?_
              refine go_getR (show decode cX9_depot 86 = .ok (.getfield 21, 3) by decide +kernel) fl_X9_21 rfl q14 ?_
              refine go_iload_n (show decode cX9_depot 89 = .ok (.iload_n 1, 1) by decide +kernel) (by rfl) ?_
              refine go_iconst (show decode cX9_depot 90 = .ok (.iconst 1, 1) by decide +kernel) (by decide) ?_
              refine go_lload_n (show decode cX9_depot 91 = .ok (.lload_n 3, 1) by decide +kernel) (by rfl) ?_
              obtain ⟨q19, h⟩ := h
              refine go_callV (d2 := d - 1) (M2 := MX7_middle) (n := 3) (ci := 7) (av := [vI a1, vI 1, vJ z13]) (st := [vI 1, vI a1, vR (sR S10 a0 1)]) (show decode cX9_depot 92 = .ok (.invokevirtual 313, 3) by decide +kernel) ml_X9_313 mt_X7_middle min_X7_middle mse_X7_middle (by decide) q19 rfl (Nat.le_of_ble_eq_true rfl) (by omega) (ok_mono h (fun w15 S16 F17 G18 h => ?_))
              obtain ⟨z20, e9, h⟩ := h
              subst e9
              show Go d MX9_depot 95 [some (vR a0), some (vI a1), some (vI a2), some (vJ z13), none, none, none] [vI z20, vI 1, vI a1, vR (sR S10 a0 1)] S16 F17 G18 Q
              refine go_lconst (n := 0) (show decode cX9_depot 95 = .ok (.lconst 0, 1) by decide +kernel) ?_
              show Go d MX9_depot 96 [some (vR a0), some (vI a1), some (vI a2), some (vJ z13), none, none, none] [vJ 0, vI z20, vI 1, vI a1, vR (sR S10 a0 1)] S16 F17 G18 Q
              obtain ⟨q25, h⟩ := h
              refine go_callV (d2 := d - 1) (M2 := MX7_haulAcross) (n := 4) (ci := 7) (av := [vI a1, vI 1, vI z20, vJ 0]) (st := []) (show decode cX9_depot 96 = .ok (.invokevirtual 317, 3) by decide +kernel) ml_X9_317 mt_X7_haulAcross min_X7_haulAcross mse_X7_haulAcross (by decide) q25 rfl (Nat.le_of_ble_eq_true rfl) (by omega) (ok_mono h (fun w21 S22 F23 G24 h => ?_))
              obtain ⟨z26, e9, h⟩ := h
              subst e9
              show Go d MX9_depot 99 [some (vR a0), some (vI a1), some (vI a2), some (vJ z13), none, none, none] [vJ z26] S22 F23 G24 Q
              refine go_lstore (show decode cX9_depot 99 = .ok (.lstore 5, 2) by decide +kernel) (by decide) ?_
              show Go d MX9_depot 101 [some (vR a0), some (vI a1), some (vI a2), some (vJ z13), none, some (vJ z26), none] [] S22 F23 G24 Q
              refine go_aload_n (show decode cX9_depot 101 = .ok (.aload_n 0, 1) by decide +kernel) (by rfl) ?_
              obtain ⟨q27, h⟩ := h
              refine go_getR (show decode cX9_depot 102 = .ok (.getfield 21, 3) by decide +kernel) fl_X9_21 rfl q27 ?_
              refine go_iload_n (show decode cX9_depot 105 = .ok (.iload_n 1, 1) by decide +kernel) (by rfl) ?_
              refine go_iconst (show decode cX9_depot 106 = .ok (.iconst 0, 1) by decide +kernel) (by decide) ?_
              refine go_aload_n (show decode cX9_depot 107 = .ok (.aload_n 0, 1) by decide +kernel) (by rfl) ?_
              refine go_getR (show decode cX9_depot 108 = .ok (.getfield 21, 3) by decide +kernel) fl_X9_21 rfl q27 ?_
              refine go_iload_n (show decode cX9_depot 111 = .ok (.iload_n 1, 1) by decide +kernel) (by rfl) ?_
              refine go_iconst (show decode cX9_depot 112 = .ok (.iconst 0, 1) by decide +kernel) (by decide) ?_
              refine go_lload_n (show decode cX9_depot 113 = .ok (.lload_n 3, 1) by decide +kernel) (by rfl) ?_
              obtain ⟨q32, h⟩ := h
              refine go_callV (d2 := d - 1) (M2 := MX7_middle) (n := 3) (ci := 7) (av := [vI a1, vI 0, vJ z13]) (st := [vI 0, vI a1, vR (sR S22 a0 1)]) (show decode cX9_depot 114 = .ok (.invokevirtual 313, 3) by decide +kernel) ml_X9_313 mt_X7_middle min_X7_middle mse_X7_middle (by decide) q32 rfl (Nat.le_of_ble_eq_true rfl) (by omega) (ok_mono h (fun w28 S29 F30 G31 h => ?_))
              obtain ⟨z33, e9, h⟩ := h
              subst e9
              show Go d MX9_depot 117 [some (vR a0), some (vI a1), some (vI a2), some (vJ z13), none, some (vJ z26), none] [vI z33, vI 0, vI a1, vR (sR S22 a0 1)] S29 F30 G31 Q
              refine go_lload (show decode cX9_depot 117 = .ok (.lload 5, 2) by decide +kernel) (by rfl) ?_
              obtain ⟨q38, h⟩ := h
              refine go_callV (d2 := d - 1) (M2 := MX7_haulAcross) (n := 4) (ci := 7) (av := [vI a1, vI 0, vI z33, vJ z26]) (st := []) (show decode cX9_depot 119 = .ok (.invokevirtual 317, 3) by decide +kernel) ml_X9_317 mt_X7_haulAcross min_X7_haulAcross mse_X7_haulAcross (by decide) q38 rfl (Nat.le_of_ble_eq_true rfl) (by omega) (ok_mono h (fun w34 S35 F36 G37 h => ?_))
              obtain ⟨z39, e9, h⟩ := h
              subst e9
              show Go d MX9_depot 122 [some (vR a0), some (vI a1), some (vI a2), some (vJ z13), none, some (vJ z26), none] [vJ z39] S35 F36 G37 Q
              refine go_lstore (show decode cX9_depot 122 = .ok (.lstore 5, 2) by decide +kernel) (by decide) ?_
              show Go d MX9_depot 124 [some (vR a0), some (vI a1), some (vI a2), some (vJ z13), none, some (vJ z39), none] [] S35 F36 G37 Q
              refine go_lload (show decode cX9_depot 124 = .ok (.lload 5, 2) by decide +kernel) (by rfl) ?_
              refine go_ldc2 (show decode cX9_depot 126 = .ok (.ldc2_w 107, 3) by decide +kernel) lc_X9_107 (by decide) ?_
              obtain ⟨ht, hf⟩ := h
              refine go_jle (tgt := 139) (show decode cX9_depot 129 = .ok (.lcmp, 1) by decide +kernel) (show decode cX9_depot 130 = .ok (.ifCond .le 9, 3) by decide +kernel) (by decide) (fun hc => ?_) (fun hc => ?_)
              · have h := ht hc
                refine go_lload (show decode cX9_depot 139 = .ok (.lload 5, 2) by decide +kernel) (by rfl) ?_
                exact go_lret (show decode cX9_depot 141 = .ok (.lreturn, 1) by decide +kernel) rfl h
              · have h := hf hc
                refine go_ldc2 (show decode cX9_depot 133 = .ok (.ldc2_w 321, 3) by decide +kernel) lc_X9_321 (by decide) ?_
                refine go_goto (tgt := 141) (show decode cX9_depot 136 = .ok (.goto 5, 3) by decide +kernel) (by decide) ?_
                exact go_lret (show decode cX9_depot 141 = .ok (.lreturn, 1) by decide +kernel) rfl h
            · have h := hf hc
              refine go_aload_n (show decode cX9_depot 67 = .ok (.aload_n 0, 1) by decide +kernel) (by rfl) ?_
              obtain ⟨q40, h⟩ := h
              refine go_getR (show decode cX9_depot 68 = .ok (.getfield 21, 3) by decide +kernel) fl_X9_21 rfl q40 ?_
              refine go_iload_n (show decode cX9_depot 71 = .ok (.iload_n 1, 1) by decide +kernel) (by rfl) ?_
              refine go_iconst (show decode cX9_depot 72 = .ok (.iconst 0, 1) by decide +kernel) (by decide) ?_
              refine go_lload_n (show decode cX9_depot 73 = .ok (.lload_n 3, 1) by decide +kernel) (by rfl) ?_
              obtain ⟨q45, h⟩ := h
              refine go_callV (d2 := d - 1) (M2 := MX7_middle) (n := 3) (ci := 7) (av := [vI a1, vI 0, vJ z13]) (st := []) (show decode cX9_depot 74 = .ok (.invokevirtual 313, 3) by decide +kernel) ml_X9_313 mt_X7_middle min_X7_middle mse_X7_middle (by decide) q45 rfl (Nat.le_of_ble_eq_true rfl) (by omega) (ok_mono h (fun w41 S42 F43 G44 h => ?_))
              obtain ⟨z46, e9, h⟩ := h
              subst e9
              show Go d MX9_depot 77 [some (vR a0), some (vI a1), some (vI a2), some (vJ z13), none, none, none] [vI z46] S42 F43 G44 Q
              refine go_i2l (show decode cX9_depot 77 = .ok (.i2l, 1) by decide +kernel) ?_
              exact go_lret (show decode cX9_depot 78 = .ok (.lreturn, 1) by decide +kernel) rfl h
          · have h := hf hc
            refine go_aload_n (show decode cX9_depot 50 = .ok (.aload_n 0, 1) by decide +kernel) (by rfl) ?_
            obtain ⟨q47, h⟩ := h
            refine go_getR (show decode cX9_depot 51 = .ok (.getfield 21, 3) by decide +kernel) fl_X9_21 rfl q47 ?_
            refine go_iload_n (show decode cX9_depot 54 = .ok (.iload_n 1, 1) by decide +kernel) (by rfl) ?_
            refine go_iconst (show decode cX9_depot 55 = .ok (.iconst 1, 1) by decide +kernel) (by decide) ?_
            refine go_lload_n (show decode cX9_depot 56 = .ok (.lload_n 3, 1) by decide +kernel) (by rfl) ?_
            obtain ⟨q52, h⟩ := h
            refine go_callV (d2 := d - 1) (M2 := MX7_middle) (n := 3) (ci := 7) (av := [vI a1, vI 1, vJ z13]) (st := []) (show decode cX9_depot 57 = .ok (.invokevirtual 313, 3) by decide +kernel) ml_X9_313 mt_X7_middle min_X7_middle mse_X7_middle (by decide) q52 rfl (Nat.le_of_ble_eq_true rfl) (by omega) (ok_mono h (fun w48 S49 F50 G51 h => ?_))
            obtain ⟨z53, e9, h⟩ := h
            subst e9
            show Go d MX9_depot 60 [some (vR a0), some (vI a1), some (vI a2), some (vJ z13), none, none, none] [vI z53] S49 F50 G51 Q
            refine go_i2l (show decode cX9_depot 60 = .ok (.i2l, 1) by decide +kernel) ?_
            exact go_lret (show decode cX9_depot 61 = .ok (.lreturn, 1) by decide +kernel) rfl h
        · have h := hf hc
          refine go_ldc2 (show decode cX9_depot 42 = .ok (.ldc2_w 218, 3) by decide +kernel) lc_X9_218 (by decide) ?_
          exact go_lret (show decode cX9_depot 45 = .ok (.lreturn, 1) by decide +kernel) rfl h
      · have h := hf hc
        refine go_ldc2 (show decode cX9_depot 16 = .ok (.ldc2_w 74, 3) by decide +kernel) lc_X9_74 (by decide) ?_
        exact go_lret (show decode cX9_depot 19 = .ok (.lreturn, 1) by decide +kernel) rfl h
def V_X9_window_0 (d : Nat) (S : AS) (F : AF) (G : AG) (Q : AQ) (a0 : Nat) (a1 : Int) (a2 : Int) (a3 : Int) (a4 : Int) : Prop :=
  (1 ≤ d) ∧
  Ok (d - 1) MX9_isGood [vI a1] S F G (fun w2 S3 F4 G5 =>
  ∃ z6 : Int, w2 = some (vI z6) ∧
  ((z6 = 0) →
    Q (some (vJ (-2))) S3 F4 G5) ∧
  ((¬ z6 = 0) →
    ((a4 < 0) →
      Q (some (vJ (-2))) S3 F4 G5) ∧
    ((¬ a4 < 0) →
      ((a4 ≤ 2) →
        ((a2 < 1) →
          Q (some (vJ (-3))) S3 F4 G5) ∧
        ((¬ a2 < 1) →
          (sK S3 a0 = 9) ∧
          (sK S3 (sR S3 a0 0) = 2) ∧
          (sK S3 (sR S3 (sR S3 a0 0) 2) = 3) ∧
          Ok (d - 1) MX3_width [vR (sR S3 (sR S3 a0 0) 2)] S3 F4 G5 (fun w9 S10 F11 G12 =>
          ∃ z14 : Int, w9 = some (vI z14) ∧
          ((z14 < a2) →
            Q (some (vJ (-3))) S10 F11 G12) ∧
          ((¬ z14 < a2) →
            ((a3 < 1) →
              Q (some (vJ (-3))) S10 F11 G12) ∧
            ((¬ a3 < 1) →
              (sK S10 a0 = 9) ∧
              (sK S10 (sR S10 a0 0) = 2) ∧
              (sK S10 (sR S10 (sR S10 a0 0) 2) = 3) ∧
              Ok (d - 1) MX3_height [vR (sR S10 (sR S10 a0 0) 2)] S10 F11 G12 (fun w17 S18 F19 G20 =>
              ∃ z22 : Int, w17 = some (vI z22) ∧
              ((a3 ≤ z22) →
                (sK S18 a0 = 9) ∧
                (sK S18 (sR S18 a0 1) = 7) ∧
                Ok (d - 1) MX7_findWindow [vR (sR S18 a0 1), vI a1, vI a2, vI a3] S18 F19 G20 (fun w24 S25 F26 G27 =>
                w24 = none ∧
                ((a4 = 0) →
                  (sK S25 a0 = 9) ∧
                  (sK S25 (sR S25 a0 1) = 7) ∧
                  Q (some (vJ (F26 (sR S25 a0 1) 4))) S25 F26 G27) ∧
                ((a4 = 1) →
                  (sK S25 a0 = 9) ∧
                  (sK S25 (sR S25 a0 1) = 7) ∧
                  Q (some (vJ (F26 (sR S25 a0 1) 5))) S25 F26 G27) ∧
                ((¬ a4 = 0 ∧ ¬ a4 = 1) →
                  (sK S25 a0 = 9) ∧
                  (sK S25 (sR S25 a0 1) = 7) ∧
                  Q (some (vJ (F26 (sR S25 a0 1) 8))) S25 F26 G27))) ∧
              ((¬ a3 ≤ z22) →
                Q (some (vJ (-3))) S18 F19 G20))))))) ∧
      ((¬ a4 ≤ 2) →
        Q (some (vJ (-2))) S3 F4 G5))))
theorem R_X9_window_0 {d : Nat} {S : AS} {F : AF} {G : AG} {Q : AQ} {a0 : Nat} {a1 : Int} {a2 : Int} {a3 : Int} {a4 : Int} (h : V_X9_window_0 d S F G Q a0 a1 a2 a3 a4) : Go d MX9_window 0 [some (vR a0), some (vI a1), some (vI a2), some (vI a3), some (vI a4)] [] S F G Q := by
  unfold V_X9_window_0 at h
  refine go_iload_n (show decode cX9_window 0 = .ok (.iload_n 1, 1) by decide +kernel) (by rfl) ?_
  obtain ⟨q1, h⟩ := h
  refine go_callS (d2 := d - 1) (M2 := MX9_isGood) (n := 1) (av := [vI a1]) (st := []) (show decode cX9_window 1 = .ok (.invokestatic 66, 3) by decide +kernel) ml_X9_66 mt_X9_isGood mst_X9_isGood rfl (Nat.le_of_ble_eq_true rfl) (by omega) (ok_mono h (fun w2 S3 F4 G5 h => ?_))
  obtain ⟨z6, e9, h⟩ := h
  subst e9
  show Go d MX9_window 4 [some (vR a0), some (vI a1), some (vI a2), some (vI a3), some (vI a4)] [vI z6] S3 F4 G5 Q
  obtain ⟨ht, hf⟩ := h
  refine go_ifeq (tgt := 18) (show decode cX9_window 4 = .ok (.ifCond .eq 14, 3) by decide +kernel) (by decide) (fun hc => ?_) (fun hc => ?_)
  · have h := ht hc
    refine go_ldc2 (show decode cX9_window 18 = .ok (.ldc2_w 74, 3) by decide +kernel) lc_X9_74 (by decide) ?_
    exact go_lret (show decode cX9_window 21 = .ok (.lreturn, 1) by decide +kernel) rfl h
  · have h := hf hc
    refine go_iload (show decode cX9_window 7 = .ok (.iload 4, 2) by decide +kernel) (by rfl) ?_
    obtain ⟨ht, hf⟩ := h
    refine go_iflt (tgt := 18) (show decode cX9_window 9 = .ok (.ifCond .lt 9, 3) by decide +kernel) (by decide) (fun hc => ?_) (fun hc => ?_)
    · have h := ht hc
      refine go_ldc2 (show decode cX9_window 18 = .ok (.ldc2_w 74, 3) by decide +kernel) lc_X9_74 (by decide) ?_
      exact go_lret (show decode cX9_window 21 = .ok (.lreturn, 1) by decide +kernel) rfl h
    · have h := hf hc
      refine go_iload (show decode cX9_window 12 = .ok (.iload 4, 2) by decide +kernel) (by rfl) ?_
      refine go_iconst (show decode cX9_window 14 = .ok (.iconst 2, 1) by decide +kernel) (by decide) ?_
      obtain ⟨ht, hf⟩ := h
      refine go_icmple (tgt := 22) (show decode cX9_window 15 = .ok (.if_icmp .le 7, 3) by decide +kernel) (by decide) (fun hc => ?_) (fun hc => ?_)
      · have h := ht hc
        refine go_iload_n (show decode cX9_window 22 = .ok (.iload_n 2, 1) by decide +kernel) (by rfl) ?_
        refine go_iconst (show decode cX9_window 23 = .ok (.iconst 1, 1) by decide +kernel) (by decide) ?_
        obtain ⟨ht, hf⟩ := h
        refine go_icmplt (tgt := 60) (show decode cX9_window 24 = .ok (.if_icmp .lt 36, 3) by decide +kernel) (by decide) (fun hc => ?_) (fun hc => ?_)
        · have h := ht hc
          refine go_ldc2 (show decode cX9_window 60 = .ok (.ldc2_w 55, 3) by decide +kernel) lc_X9_55 (by decide) ?_
          exact go_lret (show decode cX9_window 63 = .ok (.lreturn, 1) by decide +kernel) rfl h
        · have h := hf hc
          refine go_iload_n (show decode cX9_window 27 = .ok (.iload_n 2, 1) by decide +kernel) (by rfl) ?_
          refine go_aload_n (show decode cX9_window 28 = .ok (.aload_n 0, 1) by decide +kernel) (by rfl) ?_
          obtain ⟨q7, h⟩ := h
          refine go_getR (show decode cX9_window 29 = .ok (.getfield 12, 3) by decide +kernel) fl_X9_12 rfl q7 ?_
          obtain ⟨q8, h⟩ := h
          refine go_getR (show decode cX9_window 32 = .ok (.getfield 59, 3) by decide +kernel) fl_X9_59 rfl q8 ?_
          obtain ⟨q13, h⟩ := h
          refine go_callV (d2 := d - 1) (M2 := MX3_width) (n := 0) (ci := 3) (av := []) (st := [vI a2]) (show decode cX9_window 35 = .ok (.invokevirtual 184, 3) by decide +kernel) ml_X9_184 mt_X3_width min_X3_width mse_X3_width (by decide) q13 rfl (Nat.le_of_ble_eq_true rfl) (by omega) (ok_mono h (fun w9 S10 F11 G12 h => ?_))
          obtain ⟨z14, e9, h⟩ := h
          subst e9
          show Go d MX9_window 38 [some (vR a0), some (vI a1), some (vI a2), some (vI a3), some (vI a4)] [vI z14, vI a2] S10 F11 G12 Q
          obtain ⟨ht, hf⟩ := h
          refine go_icmpgt (tgt := 60) (show decode cX9_window 38 = .ok (.if_icmp .gt 22, 3) by decide +kernel) (by decide) (fun hc => ?_) (fun hc => ?_)
          · have h := ht hc
            refine go_ldc2 (show decode cX9_window 60 = .ok (.ldc2_w 55, 3) by decide +kernel) lc_X9_55 (by decide) ?_
            exact go_lret (show decode cX9_window 63 = .ok (.lreturn, 1) by decide +kernel) rfl h
          · have h := hf hc
            refine go_iload_n (show decode cX9_window 41 = .ok (.iload_n 3, 1) by decide +kernel) (by rfl) ?_
            refine go_iconst (show decode cX9_window 42 = .ok (.iconst 1, 1) by decide +kernel) (by decide) ?_
            obtain ⟨ht, hf⟩ := h
            refine go_icmplt (tgt := 60) (show decode cX9_window 43 = .ok (.if_icmp .lt 17, 3) by decide +kernel) (by decide) (fun hc => ?_) (fun hc => ?_)
            · have h := ht hc
              refine go_ldc2 (show decode cX9_window 60 = .ok (.ldc2_w 55, 3) by decide +kernel) lc_X9_55 (by decide) ?_
              exact go_lret (show decode cX9_window 63 = .ok (.lreturn, 1) by decide +kernel) rfl h
            · have h := hf hc
              refine go_iload_n (show decode cX9_window 46 = .ok (.iload_n 3, 1) by decide +kernel) (by rfl) ?_
              refine go_aload_n (show decode cX9_window 47 = .ok (.aload_n 0, 1) by decide +kernel) (by rfl) ?_
              obtain ⟨q15, h⟩ := h
              refine go_getR (show decode cX9_window 48 = .ok (.getfield 12, 3) by decide +kernel) fl_X9_12 rfl q15 ?_
              obtain ⟨q16, h⟩ := h
              refine go_getR (show decode cX9_window 51 = .ok (.getfield 59, 3) by decide +kernel) fl_X9_59 rfl q16 ?_
              obtain ⟨q21, h⟩ := h
              refine go_callV (d2 := d - 1) (M2 := MX3_height) (n := 0) (ci := 3) (av := []) (st := [vI a3]) (show decode cX9_window 54 = .ok (.invokevirtual 323, 3) by decide +kernel) ml_X9_323 mt_X3_height min_X3_height mse_X3_height (by decide) q21 rfl (Nat.le_of_ble_eq_true rfl) (by omega) (ok_mono h (fun w17 S18 F19 G20 h => ?_))
              obtain ⟨z22, e9, h⟩ := h
              subst e9
              show Go d MX9_window 57 [some (vR a0), some (vI a1), some (vI a2), some (vI a3), some (vI a4)] [vI z22, vI a3] S18 F19 G20 Q
              obtain ⟨ht, hf⟩ := h
              refine go_icmple (tgt := 64) (show decode cX9_window 57 = .ok (.if_icmp .le 7, 3) by decide +kernel) (by decide) (fun hc => ?_) (fun hc => ?_)
              · have h := ht hc
                refine go_aload_n (show decode cX9_window 64 = .ok (.aload_n 0, 1) by decide +kernel) (by rfl) ?_
                obtain ⟨q23, h⟩ := h
                refine go_getR (show decode cX9_window 65 = .ok (.getfield 21, 3) by decide +kernel) fl_X9_21 rfl q23 ?_
                refine go_iload_n (show decode cX9_window 68 = .ok (.iload_n 1, 1) by decide +kernel) (by rfl) ?_
                refine go_iload_n (show decode cX9_window 69 = .ok (.iload_n 2, 1) by decide +kernel) (by rfl) ?_
                refine go_iload_n (show decode cX9_window 70 = .ok (.iload_n 3, 1) by decide +kernel) (by rfl) ?_
                obtain ⟨q28, h⟩ := h
                refine go_callV (d2 := d - 1) (M2 := MX7_findWindow) (n := 3) (ci := 7) (av := [vI a1, vI a2, vI a3]) (st := []) (show decode cX9_window 71 = .ok (.invokevirtual 326, 3) by decide +kernel) ml_X9_326 mt_X7_findWindow min_X7_findWindow mse_X7_findWindow (by decide) q28 rfl (Nat.le_of_ble_eq_true rfl) (by omega) (ok_mono h (fun w24 S25 F26 G27 h => ?_))
                obtain ⟨e9, h⟩ := h
                subst e9
                show Go d MX9_window 74 [some (vR a0), some (vI a1), some (vI a2), some (vI a3), some (vI a4)] [] S25 F26 G27 Q
                refine go_iload (show decode cX9_window 74 = .ok (.iload 4, 2) by decide +kernel) (by rfl) ?_
                obtain ⟨h_0, h_1, h_d⟩ := h
                by_cases hc0 : a4 = 0
                · have h := h_0 hc0
                  refine go_lookup (tgt := 104) (show decode cX9_window 76 = .ok (.lookupswitch 46 #[(0, 28), (1, 37)], 28) by decide +kernel) (by decide) (by first | (rw [hc0]; done) | (rw [hc0]; rfl)) (by decide) ?_
                  refine go_aload_n (show decode cX9_window 104 = .ok (.aload_n 0, 1) by decide +kernel) (by rfl) ?_
                  obtain ⟨q29, h⟩ := h
                  refine go_getR (show decode cX9_window 105 = .ok (.getfield 21, 3) by decide +kernel) fl_X9_21 rfl q29 ?_
                  obtain ⟨q30, h⟩ := h
                  refine go_getI (show decode cX9_window 108 = .ok (.getfield 115, 3) by decide +kernel) fl_X9_115 (Or.inl rfl) q30 ?_
                  refine go_i2l (show decode cX9_window 111 = .ok (.i2l, 1) by decide +kernel) ?_
                  exact go_lret (show decode cX9_window 112 = .ok (.lreturn, 1) by decide +kernel) rfl h
                by_cases hc1 : a4 = 1
                · have h := h_1 hc1
                  refine go_lookup (tgt := 113) (show decode cX9_window 76 = .ok (.lookupswitch 46 #[(0, 28), (1, 37)], 28) by decide +kernel) (by decide) (by first | (rw [hc1]; done) | (rw [hc1]; rfl)) (by decide) ?_
                  refine go_aload_n (show decode cX9_window 113 = .ok (.aload_n 0, 1) by decide +kernel) (by rfl) ?_
                  obtain ⟨q31, h⟩ := h
                  refine go_getR (show decode cX9_window 114 = .ok (.getfield 21, 3) by decide +kernel) fl_X9_21 rfl q31 ?_
                  obtain ⟨q32, h⟩ := h
                  refine go_getI (show decode cX9_window 117 = .ok (.getfield 119, 3) by decide +kernel) fl_X9_119 (Or.inl rfl) q32 ?_
                  refine go_i2l (show decode cX9_window 120 = .ok (.i2l, 1) by decide +kernel) ?_
                  exact go_lret (show decode cX9_window 121 = .ok (.lreturn, 1) by decide +kernel) rfl h
                have h := h_d ⟨hc0, hc1⟩
                refine go_lookup (tgt := 122) (show decode cX9_window 76 = .ok (.lookupswitch 46 #[(0, 28), (1, 37)], 28) by decide +kernel) (by decide) (off := 46) (by first | (rw [Op.lookupswitch.offset_cons, if_neg (fun e => hc0 e.symm), Op.lookupswitch.offset_cons, if_neg (fun e => hc1 e.symm)]; done) | (rw [Op.lookupswitch.offset_cons, if_neg (fun e => hc0 e.symm), Op.lookupswitch.offset_cons, if_neg (fun e => hc1 e.symm)]; rfl)) (by decide) ?_
                refine go_aload_n (show decode cX9_window 122 = .ok (.aload_n 0, 1) by decide +kernel) (by rfl) ?_
                obtain ⟨q33, h⟩ := h
                refine go_getR (show decode cX9_window 123 = .ok (.getfield 21, 3) by decide +kernel) fl_X9_21 rfl q33 ?_
                obtain ⟨q34, h⟩ := h
                refine go_getJ (show decode cX9_window 126 = .ok (.getfield 329, 3) by decide +kernel) fl_X9_329 rfl q34 ?_
                exact go_lret (show decode cX9_window 129 = .ok (.lreturn, 1) by decide +kernel) rfl h
              · have h := hf hc
                refine go_ldc2 (show decode cX9_window 60 = .ok (.ldc2_w 55, 3) by decide +kernel) lc_X9_55 (by decide) ?_
                exact go_lret (show decode cX9_window 63 = .ok (.lreturn, 1) by decide +kernel) rfl h
      · have h := hf hc
        refine go_ldc2 (show decode cX9_window 18 = .ok (.ldc2_w 74, 3) by decide +kernel) lc_X9_74 (by decide) ?_
        exact go_lret (show decode cX9_window 21 = .ok (.lreturn, 1) by decide +kernel) rfl h
def V_X9_line_41 (d : Nat) (S : AS) (F : AF) (G : AG) (Q : AQ) (a0 : Nat) (a1 : Int) (a2 : Int) (a3 : Int) (s0 : Int) (s1 : Int) (s2 : Nat) : Prop :=
  (1 ≤ d) ∧
  (sK S s2 = 7) ∧
  Ok (d - 1) MX7_findLine [vR s2, vI s1, vI s0] S F G (fun w2 S3 F4 G5 =>
  ∃ z7 : Int, w2 = some (vI z7) ∧
  ((¬ a3 = 0) →
    (sK S3 a0 = 9) ∧
    (sK S3 (sR S3 a0 1) = 7) ∧
    Q (some (vJ (F4 (sR S3 a0 1) 8))) S3 F4 G5) ∧
  ((a3 = 0) →
    Q (some (vJ z7)) S3 F4 G5))
theorem R_X9_line_41 {d : Nat} {S : AS} {F : AF} {G : AG} {Q : AQ} {a0 : Nat} {a1 : Int} {a2 : Int} {a3 : Int} {s0 : Int} {s1 : Int} {s2 : Nat} (h : V_X9_line_41 d S F G Q a0 a1 a2 a3 s0 s1 s2) : Go d MX9_line 41 [some (vR a0), some (vI a1), some (vI a2), some (vI a3), none] [vI s0, vI s1, vR s2] S F G Q := by
  unfold V_X9_line_41 at h
  obtain ⟨q1, h⟩ := h
  obtain ⟨q6, h⟩ := h
  refine go_callV (d2 := d - 1) (M2 := MX7_findLine) (n := 2) (ci := 7) (av := [vI s1, vI s0]) (st := []) (show decode cX9_line 41 = .ok (.invokevirtual 332, 3) by decide +kernel) ml_X9_332 mt_X7_findLine min_X7_findLine mse_X7_findLine (by decide) q6 rfl (Nat.le_of_ble_eq_true rfl) (by omega) (ok_mono h (fun w2 S3 F4 G5 h => ?_))
  obtain ⟨z7, e9, h⟩ := h
  subst e9
  show Go d MX9_line 44 [some (vR a0), some (vI a1), some (vI a2), some (vI a3), none] [vI z7] S3 F4 G5 Q
  refine go_istore (show decode cX9_line 44 = .ok (.istore 4, 2) by decide +kernel) (by decide) ?_
  show Go d MX9_line 46 [some (vR a0), some (vI a1), some (vI a2), some (vI a3), some (vI z7)] [] S3 F4 G5 Q
  refine go_iload_n (show decode cX9_line 46 = .ok (.iload_n 3, 1) by decide +kernel) (by rfl) ?_
  obtain ⟨ht, hf⟩ := h
  refine go_ifne (tgt := 56) (show decode cX9_line 47 = .ok (.ifCond .ne 9, 3) by decide +kernel) (by decide) (fun hc => ?_) (fun hc => ?_)
  · have h := ht hc
    refine go_aload_n (show decode cX9_line 56 = .ok (.aload_n 0, 1) by decide +kernel) (by rfl) ?_
    obtain ⟨q8, h⟩ := h
    refine go_getR (show decode cX9_line 57 = .ok (.getfield 21, 3) by decide +kernel) fl_X9_21 rfl q8 ?_
    obtain ⟨q9, h⟩ := h
    refine go_getJ (show decode cX9_line 60 = .ok (.getfield 329, 3) by decide +kernel) fl_X9_329 rfl q9 ?_
    exact go_lret (show decode cX9_line 63 = .ok (.lreturn, 1) by decide +kernel) rfl h
  · have h := hf hc
    refine go_iload (show decode cX9_line 50 = .ok (.iload 4, 2) by decide +kernel) (by rfl) ?_
    refine go_i2l (show decode cX9_line 52 = .ok (.i2l, 1) by decide +kernel) ?_
    refine go_goto (tgt := 63) (show decode cX9_line 53 = .ok (.goto 10, 3) by decide +kernel) (by decide) ?_
    exact go_lret (show decode cX9_line 63 = .ok (.lreturn, 1) by decide +kernel) rfl h
def V_X9_line_0 (d : Nat) (S : AS) (F : AF) (G : AG) (Q : AQ) (a0 : Nat) (a1 : Int) (a2 : Int) (a3 : Int) : Prop :=
  (1 ≤ d) ∧
  Ok (d - 1) MX9_isGood [vI a1] S F G (fun w2 S3 F4 G5 =>
  ∃ z6 : Int, w2 = some (vI z6) ∧
  ((z6 = 0) →
    Q (some (vJ (-2))) S3 F4 G5) ∧
  ((¬ z6 = 0) →
    Ok (d - 1) MX9_isAxis [vI a2] S3 F4 G5 (fun w7 S8 F9 G10 =>
    ∃ z11 : Int, w7 = some (vI z11) ∧
    ((z11 = 0) →
      Q (some (vJ (-2))) S8 F9 G10) ∧
    ((¬ z11 = 0) →
      ((a3 < 0) →
        Q (some (vJ (-2))) S8 F9 G10) ∧
      ((¬ a3 < 0) →
        ((a3 ≤ 1) →
          (sK S8 a0 = 9) ∧
          ((¬ a2 = 0) →
            V_X9_line_41 d S8 F9 G10 Q a0 a1 a2 a3 0 a1 (sR S8 a0 1)) ∧
          ((a2 = 0) →
            V_X9_line_41 d S8 F9 G10 Q a0 a1 a2 a3 1 a1 (sR S8 a0 1))) ∧
        ((¬ a3 ≤ 1) →
          Q (some (vJ (-2))) S8 F9 G10))))))
theorem R_X9_line_0 {d : Nat} {S : AS} {F : AF} {G : AG} {Q : AQ} {a0 : Nat} {a1 : Int} {a2 : Int} {a3 : Int} (h : V_X9_line_0 d S F G Q a0 a1 a2 a3) : Go d MX9_line 0 [some (vR a0), some (vI a1), some (vI a2), some (vI a3), none] [] S F G Q := by
  unfold V_X9_line_0 at h
  refine go_iload_n (show decode cX9_line 0 = .ok (.iload_n 1, 1) by decide +kernel) (by rfl) ?_
  obtain ⟨q1, h⟩ := h
  refine go_callS (d2 := d - 1) (M2 := MX9_isGood) (n := 1) (av := [vI a1]) (st := []) (show decode cX9_line 1 = .ok (.invokestatic 66, 3) by decide +kernel) ml_X9_66 mt_X9_isGood mst_X9_isGood rfl (Nat.le_of_ble_eq_true rfl) (by omega) (ok_mono h (fun w2 S3 F4 G5 h => ?_))
  obtain ⟨z6, e9, h⟩ := h
  subst e9
  show Go d MX9_line 4 [some (vR a0), some (vI a1), some (vI a2), some (vI a3), none] [vI z6] S3 F4 G5 Q
  obtain ⟨ht, hf⟩ := h
  refine go_ifeq (tgt := 23) (show decode cX9_line 4 = .ok (.ifCond .eq 19, 3) by decide +kernel) (by decide) (fun hc => ?_) (fun hc => ?_)
  · have h := ht hc
    refine go_ldc2 (show decode cX9_line 23 = .ok (.ldc2_w 74, 3) by decide +kernel) lc_X9_74 (by decide) ?_
    exact go_lret (show decode cX9_line 26 = .ok (.lreturn, 1) by decide +kernel) rfl h
  · have h := hf hc
    refine go_iload_n (show decode cX9_line 7 = .ok (.iload_n 2, 1) by decide +kernel) (by rfl) ?_
    refine go_callS (d2 := d - 1) (M2 := MX9_isAxis) (n := 1) (av := [vI a2]) (st := []) (show decode cX9_line 8 = .ok (.invokestatic 297, 3) by decide +kernel) ml_X9_297 mt_X9_isAxis mst_X9_isAxis rfl (Nat.le_of_ble_eq_true rfl) (by omega) (ok_mono h (fun w7 S8 F9 G10 h => ?_))
    obtain ⟨z11, e9, h⟩ := h
    subst e9
    show Go d MX9_line 11 [some (vR a0), some (vI a1), some (vI a2), some (vI a3), none] [vI z11] S8 F9 G10 Q
    obtain ⟨ht, hf⟩ := h
    refine go_ifeq (tgt := 23) (show decode cX9_line 11 = .ok (.ifCond .eq 12, 3) by decide +kernel) (by decide) (fun hc => ?_) (fun hc => ?_)
    · have h := ht hc
      refine go_ldc2 (show decode cX9_line 23 = .ok (.ldc2_w 74, 3) by decide +kernel) lc_X9_74 (by decide) ?_
      exact go_lret (show decode cX9_line 26 = .ok (.lreturn, 1) by decide +kernel) rfl h
    · have h := hf hc
      refine go_iload_n (show decode cX9_line 14 = .ok (.iload_n 3, 1) by decide +kernel) (by rfl) ?_
      obtain ⟨ht, hf⟩ := h
      refine go_iflt (tgt := 23) (show decode cX9_line 15 = .ok (.ifCond .lt 8, 3) by decide +kernel) (by decide) (fun hc => ?_) (fun hc => ?_)
      · have h := ht hc
        refine go_ldc2 (show decode cX9_line 23 = .ok (.ldc2_w 74, 3) by decide +kernel) lc_X9_74 (by decide) ?_
        exact go_lret (show decode cX9_line 26 = .ok (.lreturn, 1) by decide +kernel) rfl h
      · have h := hf hc
        refine go_iload_n (show decode cX9_line 18 = .ok (.iload_n 3, 1) by decide +kernel) (by rfl) ?_
        refine go_iconst (show decode cX9_line 19 = .ok (.iconst 1, 1) by decide +kernel) (by decide) ?_
        obtain ⟨ht, hf⟩ := h
        refine go_icmple (tgt := 27) (show decode cX9_line 20 = .ok (.if_icmp .le 7, 3) by decide +kernel) (by decide) (fun hc => ?_) (fun hc => ?_)
        · have h := ht hc
          refine go_aload_n (show decode cX9_line 27 = .ok (.aload_n 0, 1) by decide +kernel) (by rfl) ?_
          obtain ⟨q12, h⟩ := h
          refine go_getR (show decode cX9_line 28 = .ok (.getfield 21, 3) by decide +kernel) fl_X9_21 rfl q12 ?_
          refine go_iload_n (show decode cX9_line 31 = .ok (.iload_n 1, 1) by decide +kernel) (by rfl) ?_
          refine go_iload_n (show decode cX9_line 32 = .ok (.iload_n 2, 1) by decide +kernel) (by rfl) ?_
          obtain ⟨ht, hf⟩ := h
          refine go_ifne (tgt := 40) (show decode cX9_line 33 = .ok (.ifCond .ne 7, 3) by decide +kernel) (by decide) (fun hc => ?_) (fun hc => ?_)
          · have h := ht hc
            refine go_iconst (show decode cX9_line 40 = .ok (.iconst 0, 1) by decide +kernel) (by decide) ?_
            exact R_X9_line_41 h
          · have h := hf hc
            refine go_iconst (show decode cX9_line 36 = .ok (.iconst 1, 1) by decide +kernel) (by decide) ?_
            refine go_goto (tgt := 41) (show decode cX9_line 37 = .ok (.goto 4, 3) by decide +kernel) (by decide) ?_
            exact R_X9_line_41 h
        · have h := hf hc
          refine go_ldc2 (show decode cX9_line 23 = .ok (.ldc2_w 74, 3) by decide +kernel) lc_X9_74 (by decide) ?_
          exact go_lret (show decode cX9_line 26 = .ok (.lreturn, 1) by decide +kernel) rfl h
def V_X9_borders_0 (d : Nat) (S : AS) (F : AF) (G : AG) (Q : AQ) (a0 : Nat) (a1 : Int) (a2 : Int) : Prop :=
  (1 ≤ d) ∧
  Ok (d - 1) MX9_isAxis [vI a1] S F G (fun w2 S3 F4 G5 =>
  ∃ z6 : Int, w2 = some (vI z6) ∧
  ((z6 = 0) →
    Q (some (vI (-2))) S3 F4 G5) ∧
  ((¬ z6 = 0) →
    ((a2 < 0) →
      Q (some (vI (-2))) S3 F4 G5) ∧
    ((¬ a2 < 0) →
      ((a2 ≤ 1) →
        (sK S3 a0 = 9) ∧
        (sK S3 (sR S3 a0 0) = 2) ∧
        Ok (d - 1) MX2_axisOf [vR (sR S3 a0 0), vI a1] S3 F4 G5 (fun w8 S9 F10 G11 =>
        ∃ z13 : Nat, w8 = some (vR z13) ∧
        ((¬ a2 = 0) →
          (sK S9 z13 = 0) ∧
          Q (some (vI (F10 z13 4))) S9 F10 G11) ∧
        ((a2 = 0) →
          (sK S9 z13 = 0) ∧
          (sK S9 (sR S9 z13 0) = 1) ∧
          Q (some (vI (F10 (sR S9 z13 0) 1))) S9 F10 G11))) ∧
      ((¬ a2 ≤ 1) →
        Q (some (vI (-2))) S3 F4 G5))))
theorem R_X9_borders_0 {d : Nat} {S : AS} {F : AF} {G : AG} {Q : AQ} {a0 : Nat} {a1 : Int} {a2 : Int} (h : V_X9_borders_0 d S F G Q a0 a1 a2) : Go d MX9_borders 0 [some (vR a0), some (vI a1), some (vI a2), none] [] S F G Q := by
  unfold V_X9_borders_0 at h
  refine go_iload_n (show decode cX9_borders 0 = .ok (.iload_n 1, 1) by decide +kernel) (by rfl) ?_
  obtain ⟨q1, h⟩ := h
  refine go_callS (d2 := d - 1) (M2 := MX9_isAxis) (n := 1) (av := [vI a1]) (st := []) (show decode cX9_borders 1 = .ok (.invokestatic 297, 3) by decide +kernel) ml_X9_297 mt_X9_isAxis mst_X9_isAxis rfl (Nat.le_of_ble_eq_true rfl) (by omega) (ok_mono h (fun w2 S3 F4 G5 h => ?_))
  obtain ⟨z6, e9, h⟩ := h
  subst e9
  show Go d MX9_borders 4 [some (vR a0), some (vI a1), some (vI a2), none] [vI z6] S3 F4 G5 Q
  obtain ⟨ht, hf⟩ := h
  refine go_ifeq (tgt := 16) (show decode cX9_borders 4 = .ok (.ifCond .eq 12, 3) by decide +kernel) (by decide) (fun hc => ?_) (fun hc => ?_)
  · have h := ht hc
    refine go_bipush (show decode cX9_borders 16 = .ok (.bipush (-2), 2) by decide +kernel) (by decide) ?_
    exact go_iret (show decode cX9_borders 18 = .ok (.ireturn, 1) by decide +kernel) rfl h
  · have h := hf hc
    refine go_iload_n (show decode cX9_borders 7 = .ok (.iload_n 2, 1) by decide +kernel) (by rfl) ?_
    obtain ⟨ht, hf⟩ := h
    refine go_iflt (tgt := 16) (show decode cX9_borders 8 = .ok (.ifCond .lt 8, 3) by decide +kernel) (by decide) (fun hc => ?_) (fun hc => ?_)
    · have h := ht hc
      refine go_bipush (show decode cX9_borders 16 = .ok (.bipush (-2), 2) by decide +kernel) (by decide) ?_
      exact go_iret (show decode cX9_borders 18 = .ok (.ireturn, 1) by decide +kernel) rfl h
    · have h := hf hc
      refine go_iload_n (show decode cX9_borders 11 = .ok (.iload_n 2, 1) by decide +kernel) (by rfl) ?_
      refine go_iconst (show decode cX9_borders 12 = .ok (.iconst 1, 1) by decide +kernel) (by decide) ?_
      obtain ⟨ht, hf⟩ := h
      refine go_icmple (tgt := 19) (show decode cX9_borders 13 = .ok (.if_icmp .le 6, 3) by decide +kernel) (by decide) (fun hc => ?_) (fun hc => ?_)
      · have h := ht hc
        refine go_aload_n (show decode cX9_borders 19 = .ok (.aload_n 0, 1) by decide +kernel) (by rfl) ?_
        obtain ⟨q7, h⟩ := h
        refine go_getR (show decode cX9_borders 20 = .ok (.getfield 12, 3) by decide +kernel) fl_X9_12 rfl q7 ?_
        refine go_iload_n (show decode cX9_borders 23 = .ok (.iload_n 1, 1) by decide +kernel) (by rfl) ?_
        obtain ⟨q12, h⟩ := h
        refine go_callV (d2 := d - 1) (M2 := MX2_axisOf) (n := 1) (ci := 2) (av := [vI a1]) (st := []) (show decode cX9_borders 24 = .ok (.invokevirtual 335, 3) by decide +kernel) ml_X9_335 mt_X2_axisOf min_X2_axisOf mse_X2_axisOf (by decide) q12 rfl (Nat.le_of_ble_eq_true rfl) (by omega) (ok_mono h (fun w8 S9 F10 G11 h => ?_))
        obtain ⟨z13, e9, h⟩ := h
        subst e9
        show Go d MX9_borders 27 [some (vR a0), some (vI a1), some (vI a2), none] [vR z13] S9 F10 G11 Q
        refine go_astore_n (show decode cX9_borders 27 = .ok (.astore_n 3, 1) by decide +kernel) (by decide) ?_
        show Go d MX9_borders 28 [some (vR a0), some (vI a1), some (vI a2), some (vR z13)] [] S9 F10 G11 Q
        refine go_iload_n (show decode cX9_borders 28 = .ok (.iload_n 2, 1) by decide +kernel) (by rfl) ?_
        obtain ⟨ht, hf⟩ := h
        refine go_ifne (tgt := 42) (show decode cX9_borders 29 = .ok (.ifCond .ne 13, 3) by decide +kernel) (by decide) (fun hc => ?_) (fun hc => ?_)
        · have h := ht hc
          refine go_aload_n (show decode cX9_borders 42 = .ok (.aload_n 3, 1) by decide +kernel) (by rfl) ?_
          obtain ⟨q14, h⟩ := h
          refine go_getI (show decode cX9_borders 43 = .ok (.getfield 345, 3) by decide +kernel) fl_X9_345 (Or.inl rfl) q14 ?_
          exact go_iret (show decode cX9_borders 46 = .ok (.ireturn, 1) by decide +kernel) rfl h
        · have h := hf hc
          refine go_aload_n (show decode cX9_borders 32 = .ok (.aload_n 3, 1) by decide +kernel) (by rfl) ?_
          obtain ⟨q15, h⟩ := h
          refine go_getR (show decode cX9_borders 33 = .ok (.getfield 339, 3) by decide +kernel) fl_X9_339 rfl q15 ?_
          obtain ⟨q16, h⟩ := h
          refine go_getI (show decode cX9_borders 36 = .ok (.getfield 342, 3) by decide +kernel) fl_X9_342 (Or.inl rfl) q16 ?_
          refine go_goto (tgt := 46) (show decode cX9_borders 39 = .ok (.goto 7, 3) by decide +kernel) (by decide) ?_
          exact go_iret (show decode cX9_borders 46 = .ok (.ireturn, 1) by decide +kernel) rfl h
      · have h := hf hc
        refine go_bipush (show decode cX9_borders 16 = .ok (.bipush (-2), 2) by decide +kernel) (by decide) ?_
        exact go_iret (show decode cX9_borders 18 = .ok (.ireturn, 1) by decide +kernel) rfl h
def V_X9_border_0 (d : Nat) (S : AS) (F : AF) (G : AG) (Q : AQ) (a0 : Nat) (a1 : Int) (a2 : Int) : Prop :=
  (1 ≤ d) ∧
  Ok (d - 1) MX9_isAxis [vI a1] S F G (fun w2 S3 F4 G5 =>
  ∃ z6 : Int, w2 = some (vI z6) ∧
  ((¬ z6 = 0) →
    ((0 ≤ a2) →
      (sK S3 a0 = 9) ∧
      (sK S3 (sR S3 a0 0) = 2) ∧
      Ok (d - 1) MX2_axisOf [vR (sR S3 a0 0), vI a1] S3 F4 G5 (fun w8 S9 F10 G11 =>
      ∃ z13 : Nat, w8 = some (vR z13) ∧
      (sK S9 z13 = 0) ∧
      ∀ x15 : Nat, x15 = sR S9 z13 0 →
      (sK S9 x15 = 1) ∧
      ((F10 x15 1 ≤ a2) →
        Q (some (vI (-1))) S9 F10 G11) ∧
      ((¬ F10 x15 1 ≤ a2) →
        (sK S9 (sR S9 x15 0) = 20) ∧
        ((0 : Int) ≤ a2) ∧
        ((a2 : Int) < (sN S9 (sR S9 x15 0) : Int)) ∧
        Q (some (vI (G11 (sR S9 x15 0) a2))) S9 F10 G11))) ∧
    ((¬ 0 ≤ a2) →
      Q (some (vI (-3))) S3 F4 G5)) ∧
  ((z6 = 0) →
    Q (some (vI (-2))) S3 F4 G5))
theorem R_X9_border_0 {d : Nat} {S : AS} {F : AF} {G : AG} {Q : AQ} {a0 : Nat} {a1 : Int} {a2 : Int} (h : V_X9_border_0 d S F G Q a0 a1 a2) : Go d MX9_border 0 [some (vR a0), some (vI a1), some (vI a2), none] [] S F G Q := by
  unfold V_X9_border_0 at h
  refine go_iload_n (show decode cX9_border 0 = .ok (.iload_n 1, 1) by decide +kernel) (by rfl) ?_
  obtain ⟨q1, h⟩ := h
  refine go_callS (d2 := d - 1) (M2 := MX9_isAxis) (n := 1) (av := [vI a1]) (st := []) (show decode cX9_border 1 = .ok (.invokestatic 297, 3) by decide +kernel) ml_X9_297 mt_X9_isAxis mst_X9_isAxis rfl (Nat.le_of_ble_eq_true rfl) (by omega) (ok_mono h (fun w2 S3 F4 G5 h => ?_))
  obtain ⟨z6, e9, h⟩ := h
  subst e9
  show Go d MX9_border 4 [some (vR a0), some (vI a1), some (vI a2), none] [vI z6] S3 F4 G5 Q
  obtain ⟨ht, hf⟩ := h
  refine go_ifne (tgt := 10) (show decode cX9_border 4 = .ok (.ifCond .ne 6, 3) by decide +kernel) (by decide) (fun hc => ?_) (fun hc => ?_)
  · have h := ht hc
    refine go_iload_n (show decode cX9_border 10 = .ok (.iload_n 2, 1) by decide +kernel) (by rfl) ?_
    obtain ⟨ht, hf⟩ := h
    refine go_ifge (tgt := 17) (show decode cX9_border 11 = .ok (.ifCond .ge 6, 3) by decide +kernel) (by decide) (fun hc => ?_) (fun hc => ?_)
    · have h := ht hc
      refine go_aload_n (show decode cX9_border 17 = .ok (.aload_n 0, 1) by decide +kernel) (by rfl) ?_
      obtain ⟨q7, h⟩ := h
      refine go_getR (show decode cX9_border 18 = .ok (.getfield 12, 3) by decide +kernel) fl_X9_12 rfl q7 ?_
      refine go_iload_n (show decode cX9_border 21 = .ok (.iload_n 1, 1) by decide +kernel) (by rfl) ?_
      obtain ⟨q12, h⟩ := h
      refine go_callV (d2 := d - 1) (M2 := MX2_axisOf) (n := 1) (ci := 2) (av := [vI a1]) (st := []) (show decode cX9_border 22 = .ok (.invokevirtual 335, 3) by decide +kernel) ml_X9_335 mt_X2_axisOf min_X2_axisOf mse_X2_axisOf (by decide) q12 rfl (Nat.le_of_ble_eq_true rfl) (by omega) (ok_mono h (fun w8 S9 F10 G11 h => ?_))
      obtain ⟨z13, e9, h⟩ := h
      subst e9
      show Go d MX9_border 25 [some (vR a0), some (vI a1), some (vI a2), none] [vR z13] S9 F10 G11 Q
      obtain ⟨q14, h⟩ := h
      refine go_getR (show decode cX9_border 25 = .ok (.getfield 339, 3) by decide +kernel) fl_X9_339 rfl q14 ?_
      obtain ⟨x15, x15e⟩ : ∃ x15 : Nat, x15 = sR S9 z13 0 := ⟨_, rfl⟩
      have h := h x15 x15e
      rw [← x15e]
      refine go_astore_n (show decode cX9_border 28 = .ok (.astore_n 3, 1) by decide +kernel) (by decide) ?_
      show Go d MX9_border 29 [some (vR a0), some (vI a1), some (vI a2), some (vR x15)] [] S9 F10 G11 Q
      refine go_iload_n (show decode cX9_border 29 = .ok (.iload_n 2, 1) by decide +kernel) (by rfl) ?_
      refine go_aload_n (show decode cX9_border 30 = .ok (.aload_n 3, 1) by decide +kernel) (by rfl) ?_
      obtain ⟨q16, h⟩ := h
      refine go_getI (show decode cX9_border 31 = .ok (.getfield 342, 3) by decide +kernel) fl_X9_342 (Or.inl rfl) q16 ?_
      obtain ⟨ht, hf⟩ := h
      refine go_icmpge (tgt := 46) (show decode cX9_border 34 = .ok (.if_icmp .ge 12, 3) by decide +kernel) (by decide) (fun hc => ?_) (fun hc => ?_)
      · have h := ht hc
        refine go_iconst (show decode cX9_border 46 = .ok (.iconst (-1), 1) by decide +kernel) (by decide) ?_
        exact go_iret (show decode cX9_border 47 = .ok (.ireturn, 1) by decide +kernel) rfl h
      · have h := hf hc
        refine go_aload_n (show decode cX9_border 37 = .ok (.aload_n 3, 1) by decide +kernel) (by rfl) ?_
        refine go_getR (show decode cX9_border 38 = .ok (.getfield 348, 3) by decide +kernel) fl_X9_348 rfl q16 ?_
        refine go_iload_n (show decode cX9_border 41 = .ok (.iload_n 2, 1) by decide +kernel) (by rfl) ?_
        obtain ⟨q17, h⟩ := h
        obtain ⟨q18, h⟩ := h
        obtain ⟨q19, h⟩ := h
        refine go_iaload (show decode cX9_border 42 = .ok (.iaload, 1) by decide +kernel) q17 q18 q19 ?_
        refine go_goto (tgt := 47) (show decode cX9_border 43 = .ok (.goto 4, 3) by decide +kernel) (by decide) ?_
        exact go_iret (show decode cX9_border 47 = .ok (.ireturn, 1) by decide +kernel) rfl h
    · have h := hf hc
      refine go_bipush (show decode cX9_border 14 = .ok (.bipush (-3), 2) by decide +kernel) (by decide) ?_
      exact go_iret (show decode cX9_border 16 = .ok (.ireturn, 1) by decide +kernel) rfl h
  · have h := hf hc
    refine go_bipush (show decode cX9_border 7 = .ok (.bipush (-2), 2) by decide +kernel) (by decide) ?_
    exact go_iret (show decode cX9_border 9 = .ok (.ireturn, 1) by decide +kernel) rfl h
def V_X9_act_0 (d : Nat) (S : AS) (F : AF) (G : AG) (Q : AQ) (a0 : Nat) (a1 : Int) (a2 : Int) : Prop :=
  ((a1 < 0) →
    Q (some (vJ (-2))) S F G) ∧
  ((¬ a1 < 0) →
    (sK S a0 = 9) ∧
    (sK S (sR S a0 2) = 6) ∧
    ((F (sR S a0 2) 2 ≤ a1) →
      Q (some (vJ (-2))) S F G) ∧
    ((¬ F (sR S a0 2) 2 ≤ a1) →
      ((a2 < 0) →
        Q (some (vJ (-2))) S F G) ∧
      ((¬ a2 < 0) →
        ((a2 < 7) →
          (1 ≤ d) ∧
          Ok (d - 1) MX6_told [vR (sR S a0 2), vI a1, vI a2] S F G (fun w4 S5 F6 G7 =>
          ∃ z8 : Int, w4 = some (vJ z8) ∧
          Q (some (vJ z8)) S5 F6 G7)) ∧
        ((¬ a2 < 7) →
          Q (some (vJ (-2))) S F G))))
theorem R_X9_act_0 {d : Nat} {S : AS} {F : AF} {G : AG} {Q : AQ} {a0 : Nat} {a1 : Int} {a2 : Int} (h : V_X9_act_0 d S F G Q a0 a1 a2) : Go d MX9_act 0 [some (vR a0), some (vI a1), some (vI a2)] [] S F G Q := by
  unfold V_X9_act_0 at h
  refine go_iload_n (show decode cX9_act 0 = .ok (.iload_n 1, 1) by decide +kernel) (by rfl) ?_
  obtain ⟨ht, hf⟩ := h
  refine go_iflt (tgt := 25) (show decode cX9_act 1 = .ok (.ifCond .lt 24, 3) by decide +kernel) (by decide) (fun hc => ?_) (fun hc => ?_)
  · have h := ht hc
    refine go_ldc2 (show decode cX9_act 25 = .ok (.ldc2_w 74, 3) by decide +kernel) lc_X9_74 (by decide) ?_
    exact go_lret (show decode cX9_act 28 = .ok (.lreturn, 1) by decide +kernel) rfl h
  · have h := hf hc
    refine go_iload_n (show decode cX9_act 4 = .ok (.iload_n 1, 1) by decide +kernel) (by rfl) ?_
    refine go_aload_n (show decode cX9_act 5 = .ok (.aload_n 0, 1) by decide +kernel) (by rfl) ?_
    obtain ⟨q1, h⟩ := h
    refine go_getR (show decode cX9_act 6 = .ok (.getfield 28, 3) by decide +kernel) fl_X9_28 rfl q1 ?_
    obtain ⟨q2, h⟩ := h
    refine go_getI (show decode cX9_act 9 = .ok (.getfield 352, 3) by decide +kernel) fl_X9_352 (Or.inl rfl) q2 ?_
    obtain ⟨ht, hf⟩ := h
    refine go_icmpge (tgt := 25) (show decode cX9_act 12 = .ok (.if_icmp .ge 13, 3) by decide +kernel) (by decide) (fun hc => ?_) (fun hc => ?_)
    · have h := ht hc
      refine go_ldc2 (show decode cX9_act 25 = .ok (.ldc2_w 74, 3) by decide +kernel) lc_X9_74 (by decide) ?_
      exact go_lret (show decode cX9_act 28 = .ok (.lreturn, 1) by decide +kernel) rfl h
    · have h := hf hc
      refine go_iload_n (show decode cX9_act 15 = .ok (.iload_n 2, 1) by decide +kernel) (by rfl) ?_
      obtain ⟨ht, hf⟩ := h
      refine go_iflt (tgt := 25) (show decode cX9_act 16 = .ok (.ifCond .lt 9, 3) by decide +kernel) (by decide) (fun hc => ?_) (fun hc => ?_)
      · have h := ht hc
        refine go_ldc2 (show decode cX9_act 25 = .ok (.ldc2_w 74, 3) by decide +kernel) lc_X9_74 (by decide) ?_
        exact go_lret (show decode cX9_act 28 = .ok (.lreturn, 1) by decide +kernel) rfl h
      · have h := hf hc
        refine go_iload_n (show decode cX9_act 19 = .ok (.iload_n 2, 1) by decide +kernel) (by rfl) ?_
        refine go_bipush (show decode cX9_act 20 = .ok (.bipush 7, 2) by decide +kernel) (by decide) ?_
        obtain ⟨ht, hf⟩ := h
        refine go_icmplt (tgt := 29) (show decode cX9_act 22 = .ok (.if_icmp .lt 7, 3) by decide +kernel) (by decide) (fun hc => ?_) (fun hc => ?_)
        · have h := ht hc
          refine go_aload_n (show decode cX9_act 29 = .ok (.aload_n 0, 1) by decide +kernel) (by rfl) ?_
          refine go_getR (show decode cX9_act 30 = .ok (.getfield 28, 3) by decide +kernel) fl_X9_28 rfl q1 ?_
          refine go_iload_n (show decode cX9_act 33 = .ok (.iload_n 1, 1) by decide +kernel) (by rfl) ?_
          refine go_iload_n (show decode cX9_act 34 = .ok (.iload_n 2, 1) by decide +kernel) (by rfl) ?_
          obtain ⟨q3, h⟩ := h
          refine go_callV (d2 := d - 1) (M2 := MX6_told) (n := 2) (ci := 6) (av := [vI a1, vI a2]) (st := []) (show decode cX9_act 35 = .ok (.invokevirtual 353, 3) by decide +kernel) ml_X9_353 mt_X6_told min_X6_told mse_X6_told (by decide) q2 rfl (Nat.le_of_ble_eq_true rfl) (by omega) (ok_mono h (fun w4 S5 F6 G7 h => ?_))
          obtain ⟨z8, e9, h⟩ := h
          subst e9
          show Go d MX9_act 38 [some (vR a0), some (vI a1), some (vI a2)] [vJ z8] S5 F6 G7 Q
          exact go_lret (show decode cX9_act 38 = .ok (.lreturn, 1) by decide +kernel) rfl h
        · have h := hf hc
          refine go_ldc2 (show decode cX9_act 25 = .ok (.ldc2_w 74, 3) by decide +kernel) lc_X9_74 (by decide) ?_
          exact go_lret (show decode cX9_act 28 = .ok (.lreturn, 1) by decide +kernel) rfl h
def V_X9_count_0 (d : Nat) (S : AS) (F : AF) (G : AG) (Q : AQ) (a0 : Nat) (a1 : Int) : Prop :=
  ((a1 = 0) →
    (sK S a0 = 9) ∧
    (sK S (sR S a0 0) = 2) ∧
    (1 ≤ d) ∧
    (sK S (sR S (sR S a0 0) 2) = 3) ∧
    Ok (d - 1) MX3_cells [vR (sR S (sR S a0 0) 2)] S F G (fun w4 S5 F6 G7 =>
    ∃ z9 : Int, w4 = some (vJ z9) ∧
    Q (some (vJ z9)) S5 F6 G7)) ∧
  ((a1 = 1) →
    (sK S a0 = 9) ∧
    (sK S (sR S a0 0) = 2) ∧
    (1 ≤ d) ∧
    (sK S (sR S (sR S a0 0) 2) = 3) ∧
    Ok (d - 1) MX3_width [vR (sR S (sR S a0 0) 2)] S F G (fun w13 S14 F15 G16 =>
    ∃ z18 : Int, w13 = some (vI z18) ∧
    Q (some (vJ z18)) S14 F15 G16)) ∧
  ((a1 = 2) →
    (sK S a0 = 9) ∧
    (sK S (sR S a0 0) = 2) ∧
    (1 ≤ d) ∧
    (sK S (sR S (sR S a0 0) 2) = 3) ∧
    Ok (d - 1) MX3_height [vR (sR S (sR S a0 0) 2)] S F G (fun w22 S23 F24 G25 =>
    ∃ z27 : Int, w22 = some (vI z27) ∧
    Q (some (vJ z27)) S23 F24 G25)) ∧
  ((a1 = 3) →
    (sK S a0 = 9) ∧
    (sK S (sR S a0 0) = 2) ∧
    Q (some (vJ (F (sR S a0 0) 8))) S F G) ∧
  ((a1 = 4) →
    (sK S a0 = 9) ∧
    (sK S (sR S a0 2) = 6) ∧
    Q (some (vJ (F (sR S a0 2) 2))) S F G) ∧
  ((a1 = 5) →
    (sK S a0 = 9) ∧
    (sK S (sR S a0 3) = 5) ∧
    Q (some (vJ (F (sR S a0 3) 1))) S F G) ∧
  ((a1 = 6) →
    (sK S a0 = 9) ∧
    (sK S (sR S a0 0) = 2) ∧
    Q (some (vJ (F (sR S a0 0) 7))) S F G) ∧
  ((a1 < 0 ∨ 6 < a1) →
    Q (some (vJ (-1))) S F G)
theorem R_X9_count_0 {d : Nat} {S : AS} {F : AF} {G : AG} {Q : AQ} {a0 : Nat} {a1 : Int} (h : V_X9_count_0 d S F G Q a0 a1) : Go d MX9_count 0 [some (vR a0), some (vI a1)] [] S F G Q := by
  unfold V_X9_count_0 at h
  refine go_iload_n (show decode cX9_count 0 = .ok (.iload_n 1, 1) by decide +kernel) (by rfl) ?_
  obtain ⟨h_0, h_1, h_2, h_3, h_4, h_5, h_6, h_d⟩ := h
  by_cases hd9 : a1 < 0 ∨ 6 < a1
  · have h := h_d hd9
    refine go_swOut (tgt := 114) (show decode cX9_count 1 = .ok (.tableswitch 113 0 6 #[43, 54, 66, 78, 87, 96, 105], 43) by decide +kernel) hd9 (by decide) ?_
    refine go_ldc2 (show decode cX9_count 114 = .ok (.ldc2_w 218, 3) by decide +kernel) lc_X9_218 (by decide) ?_
    exact go_lret (show decode cX9_count 117 = .ok (.lreturn, 1) by decide +kernel) rfl h
  by_cases hc0 : a1 = 0
  · have h := h_0 hc0
    refine go_swIn (tgt := 44) (show decode cX9_count 1 = .ok (.tableswitch 113 0 6 #[43, 54, 66, 78, 87, 96, 105], 43) by decide +kernel) (by omega) (by omega) (by rw [hc0]; rfl) (by decide) ?_
    refine go_aload_n (show decode cX9_count 44 = .ok (.aload_n 0, 1) by decide +kernel) (by rfl) ?_
    obtain ⟨q1, h⟩ := h
    refine go_getR (show decode cX9_count 45 = .ok (.getfield 12, 3) by decide +kernel) fl_X9_12 rfl q1 ?_
    obtain ⟨q2, h⟩ := h
    refine go_getR (show decode cX9_count 48 = .ok (.getfield 59, 3) by decide +kernel) fl_X9_59 rfl q2 ?_
    obtain ⟨q3, h⟩ := h
    obtain ⟨q8, h⟩ := h
    refine go_callV (d2 := d - 1) (M2 := MX3_cells) (n := 0) (ci := 3) (av := []) (st := []) (show decode cX9_count 51 = .ok (.invokevirtual 62, 3) by decide +kernel) ml_X9_62 mt_X3_cells min_X3_cells mse_X3_cells (by decide) q8 rfl (Nat.le_of_ble_eq_true rfl) (by omega) (ok_mono h (fun w4 S5 F6 G7 h => ?_))
    obtain ⟨z9, e9, h⟩ := h
    subst e9
    show Go d MX9_count 54 [some (vR a0), some (vI a1)] [vJ z9] S5 F6 G7 Q
    exact go_lret (show decode cX9_count 54 = .ok (.lreturn, 1) by decide +kernel) rfl h
  by_cases hc1 : a1 = 1
  · have h := h_1 hc1
    refine go_swIn (tgt := 55) (show decode cX9_count 1 = .ok (.tableswitch 113 0 6 #[43, 54, 66, 78, 87, 96, 105], 43) by decide +kernel) (by omega) (by omega) (by rw [hc1]; rfl) (by decide) ?_
    refine go_aload_n (show decode cX9_count 55 = .ok (.aload_n 0, 1) by decide +kernel) (by rfl) ?_
    obtain ⟨q10, h⟩ := h
    refine go_getR (show decode cX9_count 56 = .ok (.getfield 12, 3) by decide +kernel) fl_X9_12 rfl q10 ?_
    obtain ⟨q11, h⟩ := h
    refine go_getR (show decode cX9_count 59 = .ok (.getfield 59, 3) by decide +kernel) fl_X9_59 rfl q11 ?_
    obtain ⟨q12, h⟩ := h
    obtain ⟨q17, h⟩ := h
    refine go_callV (d2 := d - 1) (M2 := MX3_width) (n := 0) (ci := 3) (av := []) (st := []) (show decode cX9_count 62 = .ok (.invokevirtual 184, 3) by decide +kernel) ml_X9_184 mt_X3_width min_X3_width mse_X3_width (by decide) q17 rfl (Nat.le_of_ble_eq_true rfl) (by omega) (ok_mono h (fun w13 S14 F15 G16 h => ?_))
    obtain ⟨z18, e9, h⟩ := h
    subst e9
    show Go d MX9_count 65 [some (vR a0), some (vI a1)] [vI z18] S14 F15 G16 Q
    refine go_i2l (show decode cX9_count 65 = .ok (.i2l, 1) by decide +kernel) ?_
    exact go_lret (show decode cX9_count 66 = .ok (.lreturn, 1) by decide +kernel) rfl h
  by_cases hc2 : a1 = 2
  · have h := h_2 hc2
    refine go_swIn (tgt := 67) (show decode cX9_count 1 = .ok (.tableswitch 113 0 6 #[43, 54, 66, 78, 87, 96, 105], 43) by decide +kernel) (by omega) (by omega) (by rw [hc2]; rfl) (by decide) ?_
    refine go_aload_n (show decode cX9_count 67 = .ok (.aload_n 0, 1) by decide +kernel) (by rfl) ?_
    obtain ⟨q19, h⟩ := h
    refine go_getR (show decode cX9_count 68 = .ok (.getfield 12, 3) by decide +kernel) fl_X9_12 rfl q19 ?_
    obtain ⟨q20, h⟩ := h
    refine go_getR (show decode cX9_count 71 = .ok (.getfield 59, 3) by decide +kernel) fl_X9_59 rfl q20 ?_
    obtain ⟨q21, h⟩ := h
    obtain ⟨q26, h⟩ := h
    refine go_callV (d2 := d - 1) (M2 := MX3_height) (n := 0) (ci := 3) (av := []) (st := []) (show decode cX9_count 74 = .ok (.invokevirtual 323, 3) by decide +kernel) ml_X9_323 mt_X3_height min_X3_height mse_X3_height (by decide) q26 rfl (Nat.le_of_ble_eq_true rfl) (by omega) (ok_mono h (fun w22 S23 F24 G25 h => ?_))
    obtain ⟨z27, e9, h⟩ := h
    subst e9
    show Go d MX9_count 77 [some (vR a0), some (vI a1)] [vI z27] S23 F24 G25 Q
    refine go_i2l (show decode cX9_count 77 = .ok (.i2l, 1) by decide +kernel) ?_
    exact go_lret (show decode cX9_count 78 = .ok (.lreturn, 1) by decide +kernel) rfl h
  by_cases hc3 : a1 = 3
  · have h := h_3 hc3
    refine go_swIn (tgt := 79) (show decode cX9_count 1 = .ok (.tableswitch 113 0 6 #[43, 54, 66, 78, 87, 96, 105], 43) by decide +kernel) (by omega) (by omega) (by rw [hc3]; rfl) (by decide) ?_
    refine go_aload_n (show decode cX9_count 79 = .ok (.aload_n 0, 1) by decide +kernel) (by rfl) ?_
    obtain ⟨q28, h⟩ := h
    refine go_getR (show decode cX9_count 80 = .ok (.getfield 12, 3) by decide +kernel) fl_X9_12 rfl q28 ?_
    obtain ⟨q29, h⟩ := h
    refine go_getI (show decode cX9_count 83 = .ok (.getfield 223, 3) by decide +kernel) fl_X9_223 (Or.inl rfl) q29 ?_
    refine go_i2l (show decode cX9_count 86 = .ok (.i2l, 1) by decide +kernel) ?_
    exact go_lret (show decode cX9_count 87 = .ok (.lreturn, 1) by decide +kernel) rfl h
  by_cases hc4 : a1 = 4
  · have h := h_4 hc4
    refine go_swIn (tgt := 88) (show decode cX9_count 1 = .ok (.tableswitch 113 0 6 #[43, 54, 66, 78, 87, 96, 105], 43) by decide +kernel) (by omega) (by omega) (by rw [hc4]; rfl) (by decide) ?_
    refine go_aload_n (show decode cX9_count 88 = .ok (.aload_n 0, 1) by decide +kernel) (by rfl) ?_
    obtain ⟨q30, h⟩ := h
    refine go_getR (show decode cX9_count 89 = .ok (.getfield 28, 3) by decide +kernel) fl_X9_28 rfl q30 ?_
    obtain ⟨q31, h⟩ := h
    refine go_getI (show decode cX9_count 92 = .ok (.getfield 352, 3) by decide +kernel) fl_X9_352 (Or.inl rfl) q31 ?_
    refine go_i2l (show decode cX9_count 95 = .ok (.i2l, 1) by decide +kernel) ?_
    exact go_lret (show decode cX9_count 96 = .ok (.lreturn, 1) by decide +kernel) rfl h
  by_cases hc5 : a1 = 5
  · have h := h_5 hc5
    refine go_swIn (tgt := 97) (show decode cX9_count 1 = .ok (.tableswitch 113 0 6 #[43, 54, 66, 78, 87, 96, 105], 43) by decide +kernel) (by omega) (by omega) (by rw [hc5]; rfl) (by decide) ?_
    refine go_aload_n (show decode cX9_count 97 = .ok (.aload_n 0, 1) by decide +kernel) (by rfl) ?_
    obtain ⟨q32, h⟩ := h
    refine go_getR (show decode cX9_count 98 = .ok (.getfield 35, 3) by decide +kernel) fl_X9_35 rfl q32 ?_
    obtain ⟨q33, h⟩ := h
    refine go_getI (show decode cX9_count 101 = .ok (.getfield 242, 3) by decide +kernel) fl_X9_242 (Or.inl rfl) q33 ?_
    refine go_i2l (show decode cX9_count 104 = .ok (.i2l, 1) by decide +kernel) ?_
    exact go_lret (show decode cX9_count 105 = .ok (.lreturn, 1) by decide +kernel) rfl h
  by_cases hc6 : a1 = 6
  · have h := h_6 hc6
    refine go_swIn (tgt := 106) (show decode cX9_count 1 = .ok (.tableswitch 113 0 6 #[43, 54, 66, 78, 87, 96, 105], 43) by decide +kernel) (by omega) (by omega) (by rw [hc6]; rfl) (by decide) ?_
    refine go_aload_n (show decode cX9_count 106 = .ok (.aload_n 0, 1) by decide +kernel) (by rfl) ?_
    obtain ⟨q34, h⟩ := h
    refine go_getR (show decode cX9_count 107 = .ok (.getfield 12, 3) by decide +kernel) fl_X9_12 rfl q34 ?_
    obtain ⟨q35, h⟩ := h
    refine go_getJ (show decode cX9_count 110 = .ok (.getfield 356, 3) by decide +kernel) fl_X9_356 rfl q35 ?_
    exact go_lret (show decode cX9_count 113 = .ok (.lreturn, 1) by decide +kernel) rfl h
  exact absurd hd9 (by omega)
