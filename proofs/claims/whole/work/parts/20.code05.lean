def V_X9_depot_0 (d : Nat) (S : AS) (F : AF) (G : AG) (Q : AQ) (a1 : Int) (a2 : Int) : Prop :=
  (1 ≤ d) ∧
  ∃ z6 : Int, Pu (d - 1) MX9_isGood [vI a1] S F G (some (vI z6)) ∧
  ((z6 = 0) →
    Q (some (vJ (-2))) S F G) ∧
  ((¬ z6 = 0) →
    ((a2 < 0) →
      Q (some (vJ (-2))) S F G) ∧
    ((¬ a2 < 0) →
      ((a2 ≤ 2) →
        ∃ z12 : Int, Pu (d - 1) MX2_sumOf [vR 2, vI a1, vR 17] S F G (some (vJ z12)) ∧
        ((1 ≤ z12) →
          ((¬ a2 = 0) →
            ((¬ a2 = 1) →
              Ok (d - 1) MX7_middle [vR 34, vI a1, vI 1, vJ z12] S F G (fun w14 S15 F16 G17 =>
              S15 = S ∧
              ∃ z18 : Int, w14 = some (vI z18) ∧
              Ok (d - 1) MX7_haulAcross [vR 34, vI a1, vI 1, vI z18, vJ 0] S F16 G17 (fun w19 S20 F21 G22 =>
              S20 = S ∧
              ∃ z23 : Int, w19 = some (vJ z23) ∧
              Ok (d - 1) MX7_middle [vR 34, vI a1, vI 0, vJ z12] S F21 G22 (fun w24 S25 F26 G27 =>
              S25 = S ∧
              ∃ z28 : Int, w24 = some (vI z28) ∧
              Ok (d - 1) MX7_haulAcross [vR 34, vI a1, vI 0, vI z28, vJ z23] S F26 G27 (fun w29 S30 F31 G32 =>
              S30 = S ∧
              ∃ z33 : Int, w29 = some (vJ z33) ∧
              ((z33 ≤ 3000000000000000000) →
                Q (some (vJ z33)) S F31 G32) ∧
              ((¬ z33 ≤ 3000000000000000000) →
                Q (some (vJ (-6))) S F31 G32)))))) ∧
            ((a2 = 1) →
              Ok (d - 1) MX7_middle [vR 34, vI a1, vI 0, vJ z12] S F G (fun w34 S35 F36 G37 =>
              S35 = S ∧
              ∃ z38 : Int, w34 = some (vI z38) ∧
              Q (some (vJ z38)) S F36 G37))) ∧
          ((a2 = 0) →
            Ok (d - 1) MX7_middle [vR 34, vI a1, vI 1, vJ z12] S F G (fun w39 S40 F41 G42 =>
            S40 = S ∧
            ∃ z43 : Int, w39 = some (vI z43) ∧
            Q (some (vJ z43)) S F41 G42))) ∧
        ((¬ 1 ≤ z12) →
          Q (some (vJ (-1))) S F G)) ∧
      ((¬ a2 ≤ 2) →
        Q (some (vJ (-2))) S F G)))
theorem R_X9_depot_0 {d : Nat} {S : AS} {F : AF} {G : AG} {Q : AQ} {a1 : Int} {a2 : Int} (hsh : ShC S) (h : V_X9_depot_0 d S F G Q a1 a2) : Go d MX9_depot 0 [some (vR 1), some (vI a1), some (vI a2), none, none, none, none] [] S F G Q := by
  unfold V_X9_depot_0 at h
  refine go_iload_n (show decode cX9_depot 0 = .ok (.iload_n 1, 1) by decide +kernel) (by rfl) ?_
  obtain ⟨q1, h⟩ := h
  obtain ⟨z6, p7, h⟩ := h
  refine go_callS (d2 := d - 1) (M2 := MX9_isGood) (n := 1) (av := [vI a1]) (st := []) (show decode cX9_depot 1 = .ok (.invokestatic 64, 3) by decide +kernel) ml_X9_64 mt_X9_isGood mst_X9_isGood rfl (Nat.le_of_ble_eq_true rfl) (by omega) (ok_mono p7 (fun w2 S3 F4 G5 e9 => ?_))
  obtain ⟨e1, e2, e3, e4⟩ := e9
  subst e1
  replace e2 := e2.symm; subst e2
  replace e3 := e3.symm; subst e3
  replace e4 := e4.symm; subst e4
  show Go d MX9_depot 4 [some (vR 1), some (vI a1), some (vI a2), none, none, none, none] [vI z6] S F G Q
  obtain ⟨ht, hf⟩ := h
  refine go_ifeq (tgt := 16) (show decode cX9_depot 4 = .ok (.ifCond .eq 12, 3) by decide +kernel) (by decide) (fun hc => ?_) (fun hc => ?_)
  · have h := ht hc
    refine go_ldc2 (show decode cX9_depot 16 = .ok (.ldc2_w 72, 3) by decide +kernel) lc_X9_72 (by decide) ?_
    exact go_lret (show decode cX9_depot 19 = .ok (.lreturn, 1) by decide +kernel) rfl h
  · have h := hf hc
    refine go_iload_n (show decode cX9_depot 7 = .ok (.iload_n 2, 1) by decide +kernel) (by rfl) ?_
    obtain ⟨ht, hf⟩ := h
    refine go_iflt (tgt := 16) (show decode cX9_depot 8 = .ok (.ifCond .lt 8, 3) by decide +kernel) (by decide) (fun hc => ?_) (fun hc => ?_)
    · have h := ht hc
      refine go_ldc2 (show decode cX9_depot 16 = .ok (.ldc2_w 72, 3) by decide +kernel) lc_X9_72 (by decide) ?_
      exact go_lret (show decode cX9_depot 19 = .ok (.lreturn, 1) by decide +kernel) rfl h
    · have h := hf hc
      refine go_iload_n (show decode cX9_depot 11 = .ok (.iload_n 2, 1) by decide +kernel) (by rfl) ?_
      refine go_iconst (show decode cX9_depot 12 = .ok (.iconst 2, 1) by decide +kernel) (by decide) ?_
      obtain ⟨ht, hf⟩ := h
      refine go_icmple (tgt := 20) (show decode cX9_depot 13 = .ok (.if_icmp .le 7, 3) by decide +kernel) (by decide) (fun hc => ?_) (fun hc => ?_)
      · have h := ht hc
        refine go_aload_n (show decode cX9_depot 20 = .ok (.aload_n 0, 1) by decide +kernel) (by rfl) ?_
        refine go_getRc (show decode cX9_depot 21 = .ok (.getfield 20, 3) by decide +kernel) fl_X9_20 rfl (shc_k hsh 1 (by decide) (by decide)) (v := 2) (shc_r hsh 1 1 (by decide) (by decide) (by decide)) ?_
        refine go_iload_n (show decode cX9_depot 24 = .ok (.iload_n 1, 1) by decide +kernel) (by rfl) ?_
        refine go_aload_n (show decode cX9_depot 25 = .ok (.aload_n 0, 1) by decide +kernel) (by rfl) ?_
        refine go_getRc (show decode cX9_depot 26 = .ok (.getfield 20, 3) by decide +kernel) fl_X9_20 rfl (shc_k hsh 1 (by decide) (by decide)) (v := 2) (shc_r hsh 1 1 (by decide) (by decide) (by decide)) ?_
        refine go_getRc (show decode cX9_depot 29 = .ok (.getfield 57, 3) by decide +kernel) fl_X9_57 rfl (shc_k hsh 2 (by decide) (by decide)) (v := 17) (shc_r hsh 2 2 (by decide) (by decide) (by decide)) ?_
        obtain ⟨z12, p13, h⟩ := h
        refine go_callV (d2 := d - 1) (M2 := MX2_sumOf) (n := 2) (ci := 2) (av := [vI a1, vR 17]) (st := []) (show decode cX9_depot 32 = .ok (.invokevirtual 101, 3) by decide +kernel) ml_X9_101 mt_X2_sumOf min_X2_sumOf mse_X2_sumOf (by decide) (shc_k hsh 2 (by decide) (by decide)) rfl (Nat.le_of_ble_eq_true rfl) (by omega) (ok_mono p13 (fun w8 S9 F10 G11 e9 => ?_))
        obtain ⟨e1, e2, e3, e4⟩ := e9
        subst e1
        replace e2 := e2.symm; subst e2
        replace e3 := e3.symm; subst e3
        replace e4 := e4.symm; subst e4
        show Go d MX9_depot 35 [some (vR 1), some (vI a1), some (vI a2), none, none, none, none] [vJ z12] S F G Q
        refine go_lstore_n (show decode cX9_depot 35 = .ok (.lstore_n 3, 1) by decide +kernel) (by decide) ?_
        show Go d MX9_depot 36 [some (vR 1), some (vI a1), some (vI a2), some (vJ z12), none, none, none] [] S F G Q
        refine go_lload_n (show decode cX9_depot 36 = .ok (.lload_n 3, 1) by decide +kernel) (by rfl) ?_
        refine go_lconst (n := 1) (show decode cX9_depot 37 = .ok (.lconst 1, 1) by decide +kernel) ?_
        show Go d MX9_depot 38 [some (vR 1), some (vI a1), some (vI a2), some (vJ z12), none, none, none] [vJ 1, vJ z12] S F G Q
        obtain ⟨ht, hf⟩ := h
        refine go_jge (tgt := 46) (show decode cX9_depot 38 = .ok (.lcmp, 1) by decide +kernel) (show decode cX9_depot 39 = .ok (.ifCond .ge 7, 3) by decide +kernel) (by decide) (fun hc => ?_) (fun hc => ?_)
        · have h := ht hc
          refine go_iload_n (show decode cX9_depot 46 = .ok (.iload_n 2, 1) by decide +kernel) (by rfl) ?_
          obtain ⟨ht, hf⟩ := h
          refine go_ifne (tgt := 62) (show decode cX9_depot 47 = .ok (.ifCond .ne 15, 3) by decide +kernel) (by decide) (fun hc => ?_) (fun hc => ?_)
          · have h := ht hc
            refine go_iload_n (show decode cX9_depot 62 = .ok (.iload_n 2, 1) by decide +kernel) (by rfl) ?_
            refine go_iconst (show decode cX9_depot 63 = .ok (.iconst 1, 1) by decide +kernel) (by decide) ?_
            obtain ⟨ht, hf⟩ := h
            refine go_icmpne (tgt := 79) (show decode cX9_depot 64 = .ok (.if_icmp .ne 15, 3) by decide +kernel) (by decide) (fun hc => ?_) (fun hc => ?_)
            · have h := ht hc
              refine go_aload_n (show decode cX9_depot 79 = .ok (.aload_n 0, 1) by decide +kernel) (by rfl) ?_
              refine go_getRc (show decode cX9_depot 80 = .ok (.getfield 12, 3) by decide +kernel) fl_X9_12 rfl (shc_k hsh 1 (by decide) (by decide)) (v := 34) (shc_r hsh 1 0 (by decide) (by decide) (by decide)) ?_
              refine go_iload_n (show decode cX9_depot 83 = .ok (.iload_n 1, 1) by decide +kernel) (by rfl) ?_
              refine go_iconst (show decode cX9_depot 84 = .ok (.iconst 1, 1) by decide +kernel) (by decide) ?_
              refine go_aload_n (show decode cX9_depot 85 = .ok (.aload_n 0, 1) by decide +kernel) (by rfl) ?_
              refine go_getRc (show decode cX9_depot 86 = .ok (.getfield 12, 3) by decide +kernel) fl_X9_12 rfl (shc_k hsh 1 (by decide) (by decide)) (v := 34) (shc_r hsh 1 0 (by decide) (by decide) (by decide)) ?_
              refine go_iload_n (show decode cX9_depot 89 = .ok (.iload_n 1, 1) by decide +kernel) (by rfl) ?_
              refine go_iconst (show decode cX9_depot 90 = .ok (.iconst 1, 1) by decide +kernel) (by decide) ?_
              refine go_lload_n (show decode cX9_depot 91 = .ok (.lload_n 3, 1) by decide +kernel) (by rfl) ?_
              refine go_callV (d2 := d - 1) (M2 := MX7_middle) (n := 3) (ci := 7) (av := [vI a1, vI 1, vJ z12]) (st := [vI 1, vI a1, vR 34]) (show decode cX9_depot 92 = .ok (.invokevirtual 311, 3) by decide +kernel) ml_X9_311 mt_X7_middle min_X7_middle mse_X7_middle (by decide) (shc_k hsh 34 (by decide) (by decide)) rfl (Nat.le_of_ble_eq_true rfl) (by omega) (ok_mono h (fun w14 S15 F16 G17 h => ?_))
              obtain ⟨e8, h⟩ := h
              replace e8 := e8.symm; subst e8
              obtain ⟨z18, e9, h⟩ := h
              subst e9
              show Go d MX9_depot 95 [some (vR 1), some (vI a1), some (vI a2), some (vJ z12), none, none, none] [vI z18, vI 1, vI a1, vR 34] S F16 G17 Q
              refine go_lconst (n := 0) (show decode cX9_depot 95 = .ok (.lconst 0, 1) by decide +kernel) ?_
              show Go d MX9_depot 96 [some (vR 1), some (vI a1), some (vI a2), some (vJ z12), none, none, none] [vJ 0, vI z18, vI 1, vI a1, vR 34] S F16 G17 Q
              refine go_callV (d2 := d - 1) (M2 := MX7_haulAcross) (n := 4) (ci := 7) (av := [vI a1, vI 1, vI z18, vJ 0]) (st := []) (show decode cX9_depot 96 = .ok (.invokevirtual 315, 3) by decide +kernel) ml_X9_315 mt_X7_haulAcross min_X7_haulAcross mse_X7_haulAcross (by decide) (shc_k hsh 34 (by decide) (by decide)) rfl (Nat.le_of_ble_eq_true rfl) (by omega) (ok_mono h (fun w19 S20 F21 G22 h => ?_))
              obtain ⟨e8, h⟩ := h
              replace e8 := e8.symm; subst e8
              obtain ⟨z23, e9, h⟩ := h
              subst e9
              show Go d MX9_depot 99 [some (vR 1), some (vI a1), some (vI a2), some (vJ z12), none, none, none] [vJ z23] S F21 G22 Q
              refine go_lstore (show decode cX9_depot 99 = .ok (.lstore 5, 2) by decide +kernel) (by decide) ?_
              show Go d MX9_depot 101 [some (vR 1), some (vI a1), some (vI a2), some (vJ z12), none, some (vJ z23), none] [] S F21 G22 Q
              refine go_aload_n (show decode cX9_depot 101 = .ok (.aload_n 0, 1) by decide +kernel) (by rfl) ?_
              refine go_getRc (show decode cX9_depot 102 = .ok (.getfield 12, 3) by decide +kernel) fl_X9_12 rfl (shc_k hsh 1 (by decide) (by decide)) (v := 34) (shc_r hsh 1 0 (by decide) (by decide) (by decide)) ?_
              refine go_iload_n (show decode cX9_depot 105 = .ok (.iload_n 1, 1) by decide +kernel) (by rfl) ?_
              refine go_iconst (show decode cX9_depot 106 = .ok (.iconst 0, 1) by decide +kernel) (by decide) ?_
              refine go_aload_n (show decode cX9_depot 107 = .ok (.aload_n 0, 1) by decide +kernel) (by rfl) ?_
              refine go_getRc (show decode cX9_depot 108 = .ok (.getfield 12, 3) by decide +kernel) fl_X9_12 rfl (shc_k hsh 1 (by decide) (by decide)) (v := 34) (shc_r hsh 1 0 (by decide) (by decide) (by decide)) ?_
              refine go_iload_n (show decode cX9_depot 111 = .ok (.iload_n 1, 1) by decide +kernel) (by rfl) ?_
              refine go_iconst (show decode cX9_depot 112 = .ok (.iconst 0, 1) by decide +kernel) (by decide) ?_
              refine go_lload_n (show decode cX9_depot 113 = .ok (.lload_n 3, 1) by decide +kernel) (by rfl) ?_
              refine go_callV (d2 := d - 1) (M2 := MX7_middle) (n := 3) (ci := 7) (av := [vI a1, vI 0, vJ z12]) (st := [vI 0, vI a1, vR 34]) (show decode cX9_depot 114 = .ok (.invokevirtual 311, 3) by decide +kernel) ml_X9_311 mt_X7_middle min_X7_middle mse_X7_middle (by decide) (shc_k hsh 34 (by decide) (by decide)) rfl (Nat.le_of_ble_eq_true rfl) (by omega) (ok_mono h (fun w24 S25 F26 G27 h => ?_))
              obtain ⟨e8, h⟩ := h
              replace e8 := e8.symm; subst e8
              obtain ⟨z28, e9, h⟩ := h
              subst e9
              show Go d MX9_depot 117 [some (vR 1), some (vI a1), some (vI a2), some (vJ z12), none, some (vJ z23), none] [vI z28, vI 0, vI a1, vR 34] S F26 G27 Q
              refine go_lload (show decode cX9_depot 117 = .ok (.lload 5, 2) by decide +kernel) (by rfl) ?_
              refine go_callV (d2 := d - 1) (M2 := MX7_haulAcross) (n := 4) (ci := 7) (av := [vI a1, vI 0, vI z28, vJ z23]) (st := []) (show decode cX9_depot 119 = .ok (.invokevirtual 315, 3) by decide +kernel) ml_X9_315 mt_X7_haulAcross min_X7_haulAcross mse_X7_haulAcross (by decide) (shc_k hsh 34 (by decide) (by decide)) rfl (Nat.le_of_ble_eq_true rfl) (by omega) (ok_mono h (fun w29 S30 F31 G32 h => ?_))
              obtain ⟨e8, h⟩ := h
              replace e8 := e8.symm; subst e8
              obtain ⟨z33, e9, h⟩ := h
              subst e9
              show Go d MX9_depot 122 [some (vR 1), some (vI a1), some (vI a2), some (vJ z12), none, some (vJ z23), none] [vJ z33] S F31 G32 Q
              refine go_lstore (show decode cX9_depot 122 = .ok (.lstore 5, 2) by decide +kernel) (by decide) ?_
              show Go d MX9_depot 124 [some (vR 1), some (vI a1), some (vI a2), some (vJ z12), none, some (vJ z33), none] [] S F31 G32 Q
              refine go_lload (show decode cX9_depot 124 = .ok (.lload 5, 2) by decide +kernel) (by rfl) ?_
              refine go_ldc2 (show decode cX9_depot 126 = .ok (.ldc2_w 105, 3) by decide +kernel) lc_X9_105 (by decide) ?_
              obtain ⟨ht, hf⟩ := h
              refine go_jle (tgt := 139) (show decode cX9_depot 129 = .ok (.lcmp, 1) by decide +kernel) (show decode cX9_depot 130 = .ok (.ifCond .le 9, 3) by decide +kernel) (by decide) (fun hc => ?_) (fun hc => ?_)
              · have h := ht hc
                refine go_lload (show decode cX9_depot 139 = .ok (.lload 5, 2) by decide +kernel) (by rfl) ?_
                exact go_lret (show decode cX9_depot 141 = .ok (.lreturn, 1) by decide +kernel) rfl h
              · have h := hf hc
                refine go_ldc2 (show decode cX9_depot 133 = .ok (.ldc2_w 319, 3) by decide +kernel) lc_X9_319 (by decide) ?_
                refine go_goto (tgt := 141) (show decode cX9_depot 136 = .ok (.goto 5, 3) by decide +kernel) (by decide) ?_
                exact go_lret (show decode cX9_depot 141 = .ok (.lreturn, 1) by decide +kernel) rfl h
            · have h := hf hc
              refine go_aload_n (show decode cX9_depot 67 = .ok (.aload_n 0, 1) by decide +kernel) (by rfl) ?_
              refine go_getRc (show decode cX9_depot 68 = .ok (.getfield 12, 3) by decide +kernel) fl_X9_12 rfl (shc_k hsh 1 (by decide) (by decide)) (v := 34) (shc_r hsh 1 0 (by decide) (by decide) (by decide)) ?_
              refine go_iload_n (show decode cX9_depot 71 = .ok (.iload_n 1, 1) by decide +kernel) (by rfl) ?_
              refine go_iconst (show decode cX9_depot 72 = .ok (.iconst 0, 1) by decide +kernel) (by decide) ?_
              refine go_lload_n (show decode cX9_depot 73 = .ok (.lload_n 3, 1) by decide +kernel) (by rfl) ?_
              refine go_callV (d2 := d - 1) (M2 := MX7_middle) (n := 3) (ci := 7) (av := [vI a1, vI 0, vJ z12]) (st := []) (show decode cX9_depot 74 = .ok (.invokevirtual 311, 3) by decide +kernel) ml_X9_311 mt_X7_middle min_X7_middle mse_X7_middle (by decide) (shc_k hsh 34 (by decide) (by decide)) rfl (Nat.le_of_ble_eq_true rfl) (by omega) (ok_mono h (fun w34 S35 F36 G37 h => ?_))
              obtain ⟨e8, h⟩ := h
              replace e8 := e8.symm; subst e8
              obtain ⟨z38, e9, h⟩ := h
              subst e9
              show Go d MX9_depot 77 [some (vR 1), some (vI a1), some (vI a2), some (vJ z12), none, none, none] [vI z38] S F36 G37 Q
              refine go_i2l (show decode cX9_depot 77 = .ok (.i2l, 1) by decide +kernel) ?_
              exact go_lret (show decode cX9_depot 78 = .ok (.lreturn, 1) by decide +kernel) rfl h
          · have h := hf hc
            refine go_aload_n (show decode cX9_depot 50 = .ok (.aload_n 0, 1) by decide +kernel) (by rfl) ?_
            refine go_getRc (show decode cX9_depot 51 = .ok (.getfield 12, 3) by decide +kernel) fl_X9_12 rfl (shc_k hsh 1 (by decide) (by decide)) (v := 34) (shc_r hsh 1 0 (by decide) (by decide) (by decide)) ?_
            refine go_iload_n (show decode cX9_depot 54 = .ok (.iload_n 1, 1) by decide +kernel) (by rfl) ?_
            refine go_iconst (show decode cX9_depot 55 = .ok (.iconst 1, 1) by decide +kernel) (by decide) ?_
            refine go_lload_n (show decode cX9_depot 56 = .ok (.lload_n 3, 1) by decide +kernel) (by rfl) ?_
            refine go_callV (d2 := d - 1) (M2 := MX7_middle) (n := 3) (ci := 7) (av := [vI a1, vI 1, vJ z12]) (st := []) (show decode cX9_depot 57 = .ok (.invokevirtual 311, 3) by decide +kernel) ml_X9_311 mt_X7_middle min_X7_middle mse_X7_middle (by decide) (shc_k hsh 34 (by decide) (by decide)) rfl (Nat.le_of_ble_eq_true rfl) (by omega) (ok_mono h (fun w39 S40 F41 G42 h => ?_))
            obtain ⟨e8, h⟩ := h
            replace e8 := e8.symm; subst e8
            obtain ⟨z43, e9, h⟩ := h
            subst e9
            show Go d MX9_depot 60 [some (vR 1), some (vI a1), some (vI a2), some (vJ z12), none, none, none] [vI z43] S F41 G42 Q
            refine go_i2l (show decode cX9_depot 60 = .ok (.i2l, 1) by decide +kernel) ?_
            exact go_lret (show decode cX9_depot 61 = .ok (.lreturn, 1) by decide +kernel) rfl h
        · have h := hf hc
          refine go_ldc2 (show decode cX9_depot 42 = .ok (.ldc2_w 216, 3) by decide +kernel) lc_X9_216 (by decide) ?_
          exact go_lret (show decode cX9_depot 45 = .ok (.lreturn, 1) by decide +kernel) rfl h
      · have h := hf hc
        refine go_ldc2 (show decode cX9_depot 16 = .ok (.ldc2_w 72, 3) by decide +kernel) lc_X9_72 (by decide) ?_
        exact go_lret (show decode cX9_depot 19 = .ok (.lreturn, 1) by decide +kernel) rfl h
def V_X9_window_0 (d : Nat) (S : AS) (F : AF) (G : AG) (Q : AQ) (a1 : Int) (a2 : Int) (a3 : Int) (a4 : Int) : Prop :=
  (1 ≤ d) ∧
  ∃ z6 : Int, Pu (d - 1) MX9_isGood [vI a1] S F G (some (vI z6)) ∧
  ((z6 = 0) →
    Q (some (vJ (-2))) S F G) ∧
  ((¬ z6 = 0) →
    ((a4 < 0) →
      Q (some (vJ (-2))) S F G) ∧
    ((¬ a4 < 0) →
      ((a4 ≤ 2) →
        ((a2 < 1) →
          Q (some (vJ (-3))) S F G) ∧
        ((¬ a2 < 1) →
          ∃ z12 : Int, Pu (d - 1) MX3_width [vR 17] S F G (some (vI z12)) ∧
          ((z12 < a2) →
            Q (some (vJ (-3))) S F G) ∧
          ((¬ z12 < a2) →
            ((a3 < 1) →
              Q (some (vJ (-3))) S F G) ∧
            ((¬ a3 < 1) →
              ∃ z18 : Int, Pu (d - 1) MX3_height [vR 17] S F G (some (vI z18)) ∧
              ((a3 ≤ z18) →
                Ok (d - 1) MX7_findWindow [vR 34, vI a1, vI a2, vI a3] S F G (fun w20 S21 F22 G23 =>
                S21 = S ∧
                w20 = none ∧
                ((a4 = 0) →
                  Q (some (vJ (F22 34 4))) S F22 G23) ∧
                ((a4 = 1) →
                  Q (some (vJ (F22 34 5))) S F22 G23) ∧
                ((¬ a4 = 0 ∧ ¬ a4 = 1) →
                  Q (some (vJ (F22 34 8))) S F22 G23))) ∧
              ((¬ a3 ≤ z18) →
                Q (some (vJ (-3))) S F G))))) ∧
      ((¬ a4 ≤ 2) →
        Q (some (vJ (-2))) S F G)))
theorem R_X9_window_0 {d : Nat} {S : AS} {F : AF} {G : AG} {Q : AQ} {a1 : Int} {a2 : Int} {a3 : Int} {a4 : Int} (hsh : ShC S) (h : V_X9_window_0 d S F G Q a1 a2 a3 a4) : Go d MX9_window 0 [some (vR 1), some (vI a1), some (vI a2), some (vI a3), some (vI a4)] [] S F G Q := by
  unfold V_X9_window_0 at h
  refine go_iload_n (show decode cX9_window 0 = .ok (.iload_n 1, 1) by decide +kernel) (by rfl) ?_
  obtain ⟨q1, h⟩ := h
  obtain ⟨z6, p7, h⟩ := h
  refine go_callS (d2 := d - 1) (M2 := MX9_isGood) (n := 1) (av := [vI a1]) (st := []) (show decode cX9_window 1 = .ok (.invokestatic 64, 3) by decide +kernel) ml_X9_64 mt_X9_isGood mst_X9_isGood rfl (Nat.le_of_ble_eq_true rfl) (by omega) (ok_mono p7 (fun w2 S3 F4 G5 e9 => ?_))
  obtain ⟨e1, e2, e3, e4⟩ := e9
  subst e1
  replace e2 := e2.symm; subst e2
  replace e3 := e3.symm; subst e3
  replace e4 := e4.symm; subst e4
  show Go d MX9_window 4 [some (vR 1), some (vI a1), some (vI a2), some (vI a3), some (vI a4)] [vI z6] S F G Q
  obtain ⟨ht, hf⟩ := h
  refine go_ifeq (tgt := 18) (show decode cX9_window 4 = .ok (.ifCond .eq 14, 3) by decide +kernel) (by decide) (fun hc => ?_) (fun hc => ?_)
  · have h := ht hc
    refine go_ldc2 (show decode cX9_window 18 = .ok (.ldc2_w 72, 3) by decide +kernel) lc_X9_72 (by decide) ?_
    exact go_lret (show decode cX9_window 21 = .ok (.lreturn, 1) by decide +kernel) rfl h
  · have h := hf hc
    refine go_iload (show decode cX9_window 7 = .ok (.iload 4, 2) by decide +kernel) (by rfl) ?_
    obtain ⟨ht, hf⟩ := h
    refine go_iflt (tgt := 18) (show decode cX9_window 9 = .ok (.ifCond .lt 9, 3) by decide +kernel) (by decide) (fun hc => ?_) (fun hc => ?_)
    · have h := ht hc
      refine go_ldc2 (show decode cX9_window 18 = .ok (.ldc2_w 72, 3) by decide +kernel) lc_X9_72 (by decide) ?_
      exact go_lret (show decode cX9_window 21 = .ok (.lreturn, 1) by decide +kernel) rfl h
    · have h := hf hc
      refine go_iload (show decode cX9_window 12 = .ok (.iload 4, 2) by decide +kernel) (by rfl) ?_
      refine go_iconst (show decode cX9_window 14 = .ok (.iconst 2, 1) by decide +kernel) (by decide) ?_
      obtain ⟨ht, hf⟩ := h
      refine go_icmple (tgt := 22) (show decode cX9_window 15 = .ok (.if_icmp .le 7, 3) by decide +kernel) (by decide) (fun hc => ?_) (fun hc => ?_)
      · have h := ht hc
        refine go_iload_n (show decode cX9_window 22 = .ok (.iload_n 2, 1) by decide +kernel) (by rfl) ?_
        refine go_iconst (show decode cX9_window 23 = .ok (.iconst 1, 1) by decide +kernel) (by decide) ?_
        obtain ⟨ht, hf⟩ := h
        refine go_icmplt (tgt := 60) (show decode cX9_window 24 = .ok (.if_icmp .lt 36, 3) by decide +kernel) (by decide) (fun hc => ?_) (fun hc => ?_)
        · have h := ht hc
          refine go_ldc2 (show decode cX9_window 60 = .ok (.ldc2_w 53, 3) by decide +kernel) lc_X9_53 (by decide) ?_
          exact go_lret (show decode cX9_window 63 = .ok (.lreturn, 1) by decide +kernel) rfl h
        · have h := hf hc
          refine go_iload_n (show decode cX9_window 27 = .ok (.iload_n 2, 1) by decide +kernel) (by rfl) ?_
          refine go_aload_n (show decode cX9_window 28 = .ok (.aload_n 0, 1) by decide +kernel) (by rfl) ?_
          refine go_getRc (show decode cX9_window 29 = .ok (.getfield 20, 3) by decide +kernel) fl_X9_20 rfl (shc_k hsh 1 (by decide) (by decide)) (v := 2) (shc_r hsh 1 1 (by decide) (by decide) (by decide)) ?_
          refine go_getRc (show decode cX9_window 32 = .ok (.getfield 57, 3) by decide +kernel) fl_X9_57 rfl (shc_k hsh 2 (by decide) (by decide)) (v := 17) (shc_r hsh 2 2 (by decide) (by decide) (by decide)) ?_
          obtain ⟨z12, p13, h⟩ := h
          refine go_callV (d2 := d - 1) (M2 := MX3_width) (n := 0) (ci := 3) (av := []) (st := [vI a2]) (show decode cX9_window 35 = .ok (.invokevirtual 182, 3) by decide +kernel) ml_X9_182 mt_X3_width min_X3_width mse_X3_width (by decide) (shc_k hsh 17 (by decide) (by decide)) rfl (Nat.le_of_ble_eq_true rfl) (by omega) (ok_mono p13 (fun w8 S9 F10 G11 e9 => ?_))
          obtain ⟨e1, e2, e3, e4⟩ := e9
          subst e1
          replace e2 := e2.symm; subst e2
          replace e3 := e3.symm; subst e3
          replace e4 := e4.symm; subst e4
          show Go d MX9_window 38 [some (vR 1), some (vI a1), some (vI a2), some (vI a3), some (vI a4)] [vI z12, vI a2] S F G Q
          obtain ⟨ht, hf⟩ := h
          refine go_icmpgt (tgt := 60) (show decode cX9_window 38 = .ok (.if_icmp .gt 22, 3) by decide +kernel) (by decide) (fun hc => ?_) (fun hc => ?_)
          · have h := ht hc
            refine go_ldc2 (show decode cX9_window 60 = .ok (.ldc2_w 53, 3) by decide +kernel) lc_X9_53 (by decide) ?_
            exact go_lret (show decode cX9_window 63 = .ok (.lreturn, 1) by decide +kernel) rfl h
          · have h := hf hc
            refine go_iload_n (show decode cX9_window 41 = .ok (.iload_n 3, 1) by decide +kernel) (by rfl) ?_
            refine go_iconst (show decode cX9_window 42 = .ok (.iconst 1, 1) by decide +kernel) (by decide) ?_
            obtain ⟨ht, hf⟩ := h
            refine go_icmplt (tgt := 60) (show decode cX9_window 43 = .ok (.if_icmp .lt 17, 3) by decide +kernel) (by decide) (fun hc => ?_) (fun hc => ?_)
            · have h := ht hc
              refine go_ldc2 (show decode cX9_window 60 = .ok (.ldc2_w 53, 3) by decide +kernel) lc_X9_53 (by decide) ?_
              exact go_lret (show decode cX9_window 63 = .ok (.lreturn, 1) by decide +kernel) rfl h
            · have h := hf hc
              refine go_iload_n (show decode cX9_window 46 = .ok (.iload_n 3, 1) by decide +kernel) (by rfl) ?_
              refine go_aload_n (show decode cX9_window 47 = .ok (.aload_n 0, 1) by decide +kernel) (by rfl) ?_
              refine go_getRc (show decode cX9_window 48 = .ok (.getfield 20, 3) by decide +kernel) fl_X9_20 rfl (shc_k hsh 1 (by decide) (by decide)) (v := 2) (shc_r hsh 1 1 (by decide) (by decide) (by decide)) ?_
              refine go_getRc (show decode cX9_window 51 = .ok (.getfield 57, 3) by decide +kernel) fl_X9_57 rfl (shc_k hsh 2 (by decide) (by decide)) (v := 17) (shc_r hsh 2 2 (by decide) (by decide) (by decide)) ?_
              obtain ⟨z18, p19, h⟩ := h
              refine go_callV (d2 := d - 1) (M2 := MX3_height) (n := 0) (ci := 3) (av := []) (st := [vI a3]) (show decode cX9_window 54 = .ok (.invokevirtual 321, 3) by decide +kernel) ml_X9_321 mt_X3_height min_X3_height mse_X3_height (by decide) (shc_k hsh 17 (by decide) (by decide)) rfl (Nat.le_of_ble_eq_true rfl) (by omega) (ok_mono p19 (fun w14 S15 F16 G17 e9 => ?_))
              obtain ⟨e1, e2, e3, e4⟩ := e9
              subst e1
              replace e2 := e2.symm; subst e2
              replace e3 := e3.symm; subst e3
              replace e4 := e4.symm; subst e4
              show Go d MX9_window 57 [some (vR 1), some (vI a1), some (vI a2), some (vI a3), some (vI a4)] [vI z18, vI a3] S F G Q
              obtain ⟨ht, hf⟩ := h
              refine go_icmple (tgt := 64) (show decode cX9_window 57 = .ok (.if_icmp .le 7, 3) by decide +kernel) (by decide) (fun hc => ?_) (fun hc => ?_)
              · have h := ht hc
                refine go_aload_n (show decode cX9_window 64 = .ok (.aload_n 0, 1) by decide +kernel) (by rfl) ?_
                refine go_getRc (show decode cX9_window 65 = .ok (.getfield 12, 3) by decide +kernel) fl_X9_12 rfl (shc_k hsh 1 (by decide) (by decide)) (v := 34) (shc_r hsh 1 0 (by decide) (by decide) (by decide)) ?_
                refine go_iload_n (show decode cX9_window 68 = .ok (.iload_n 1, 1) by decide +kernel) (by rfl) ?_
                refine go_iload_n (show decode cX9_window 69 = .ok (.iload_n 2, 1) by decide +kernel) (by rfl) ?_
                refine go_iload_n (show decode cX9_window 70 = .ok (.iload_n 3, 1) by decide +kernel) (by rfl) ?_
                refine go_callV (d2 := d - 1) (M2 := MX7_findWindow) (n := 3) (ci := 7) (av := [vI a1, vI a2, vI a3]) (st := []) (show decode cX9_window 71 = .ok (.invokevirtual 324, 3) by decide +kernel) ml_X9_324 mt_X7_findWindow min_X7_findWindow mse_X7_findWindow (by decide) (shc_k hsh 34 (by decide) (by decide)) rfl (Nat.le_of_ble_eq_true rfl) (by omega) (ok_mono h (fun w20 S21 F22 G23 h => ?_))
                obtain ⟨e8, h⟩ := h
                replace e8 := e8.symm; subst e8
                obtain ⟨e9, h⟩ := h
                subst e9
                show Go d MX9_window 74 [some (vR 1), some (vI a1), some (vI a2), some (vI a3), some (vI a4)] [] S F22 G23 Q
                refine go_iload (show decode cX9_window 74 = .ok (.iload 4, 2) by decide +kernel) (by rfl) ?_
                obtain ⟨h_0, h_1, h_d⟩ := h
                by_cases hc0 : a4 = 0
                · have h := h_0 hc0
                  refine go_lookup (tgt := 104) (show decode cX9_window 76 = .ok (.lookupswitch 46 #[(0, 28), (1, 37)], 28) by decide +kernel) (by decide) (by first | (rw [hc0]; done) | (rw [hc0]; rfl)) (by decide) ?_
                  refine go_aload_n (show decode cX9_window 104 = .ok (.aload_n 0, 1) by decide +kernel) (by rfl) ?_
                  refine go_getRc (show decode cX9_window 105 = .ok (.getfield 12, 3) by decide +kernel) fl_X9_12 rfl (shc_k hsh 1 (by decide) (by decide)) (v := 34) (shc_r hsh 1 0 (by decide) (by decide) (by decide)) ?_
                  refine go_getI (show decode cX9_window 108 = .ok (.getfield 113, 3) by decide +kernel) fl_X9_113 (Or.inl rfl) (shc_k hsh 34 (by decide) (by decide)) ?_
                  refine go_i2l (show decode cX9_window 111 = .ok (.i2l, 1) by decide +kernel) ?_
                  exact go_lret (show decode cX9_window 112 = .ok (.lreturn, 1) by decide +kernel) rfl h
                by_cases hc1 : a4 = 1
                · have h := h_1 hc1
                  refine go_lookup (tgt := 113) (show decode cX9_window 76 = .ok (.lookupswitch 46 #[(0, 28), (1, 37)], 28) by decide +kernel) (by decide) (by first | (rw [hc1]; done) | (rw [hc1]; rfl)) (by decide) ?_
                  refine go_aload_n (show decode cX9_window 113 = .ok (.aload_n 0, 1) by decide +kernel) (by rfl) ?_
                  refine go_getRc (show decode cX9_window 114 = .ok (.getfield 12, 3) by decide +kernel) fl_X9_12 rfl (shc_k hsh 1 (by decide) (by decide)) (v := 34) (shc_r hsh 1 0 (by decide) (by decide) (by decide)) ?_
                  refine go_getI (show decode cX9_window 117 = .ok (.getfield 117, 3) by decide +kernel) fl_X9_117 (Or.inl rfl) (shc_k hsh 34 (by decide) (by decide)) ?_
                  refine go_i2l (show decode cX9_window 120 = .ok (.i2l, 1) by decide +kernel) ?_
                  exact go_lret (show decode cX9_window 121 = .ok (.lreturn, 1) by decide +kernel) rfl h
                have h := h_d ⟨hc0, hc1⟩
                refine go_lookup (tgt := 122) (show decode cX9_window 76 = .ok (.lookupswitch 46 #[(0, 28), (1, 37)], 28) by decide +kernel) (by decide) (off := 46) (by first | (rw [Op.lookupswitch.offset_cons, if_neg (fun e => hc0 e.symm), Op.lookupswitch.offset_cons, if_neg (fun e => hc1 e.symm)]; done) | (rw [Op.lookupswitch.offset_cons, if_neg (fun e => hc0 e.symm), Op.lookupswitch.offset_cons, if_neg (fun e => hc1 e.symm)]; rfl)) (by decide) ?_
                refine go_aload_n (show decode cX9_window 122 = .ok (.aload_n 0, 1) by decide +kernel) (by rfl) ?_
                refine go_getRc (show decode cX9_window 123 = .ok (.getfield 12, 3) by decide +kernel) fl_X9_12 rfl (shc_k hsh 1 (by decide) (by decide)) (v := 34) (shc_r hsh 1 0 (by decide) (by decide) (by decide)) ?_
                refine go_getJ (show decode cX9_window 126 = .ok (.getfield 327, 3) by decide +kernel) fl_X9_327 rfl (shc_k hsh 34 (by decide) (by decide)) ?_
                exact go_lret (show decode cX9_window 129 = .ok (.lreturn, 1) by decide +kernel) rfl h
              · have h := hf hc
                refine go_ldc2 (show decode cX9_window 60 = .ok (.ldc2_w 53, 3) by decide +kernel) lc_X9_53 (by decide) ?_
                exact go_lret (show decode cX9_window 63 = .ok (.lreturn, 1) by decide +kernel) rfl h
      · have h := hf hc
        refine go_ldc2 (show decode cX9_window 18 = .ok (.ldc2_w 72, 3) by decide +kernel) lc_X9_72 (by decide) ?_
        exact go_lret (show decode cX9_window 21 = .ok (.lreturn, 1) by decide +kernel) rfl h
def V_X9_line_41 (d : Nat) (S : AS) (F : AF) (G : AG) (Q : AQ) (a1 : Int) (a2 : Int) (a3 : Int) (s0 : Int) (s1 : Int) : Prop :=
  (1 ≤ d) ∧
  Ok (d - 1) MX7_findLine [vR 34, vI s1, vI s0] S F G (fun w2 S3 F4 G5 =>
  S3 = S ∧
  ∃ z6 : Int, w2 = some (vI z6) ∧
  ((¬ a3 = 0) →
    Q (some (vJ (F4 34 8))) S F4 G5) ∧
  ((a3 = 0) →
    Q (some (vJ z6)) S F4 G5))
theorem R_X9_line_41 {d : Nat} {S : AS} {F : AF} {G : AG} {Q : AQ} {a1 : Int} {a2 : Int} {a3 : Int} {s0 : Int} {s1 : Int} (hsh : ShC S) (h : V_X9_line_41 d S F G Q a1 a2 a3 s0 s1) : Go d MX9_line 41 [some (vR 1), some (vI a1), some (vI a2), some (vI a3), none] [vI s0, vI s1, vR 34] S F G Q := by
  unfold V_X9_line_41 at h
  obtain ⟨q1, h⟩ := h
  refine go_callV (d2 := d - 1) (M2 := MX7_findLine) (n := 2) (ci := 7) (av := [vI s1, vI s0]) (st := []) (show decode cX9_line 41 = .ok (.invokevirtual 330, 3) by decide +kernel) ml_X9_330 mt_X7_findLine min_X7_findLine mse_X7_findLine (by decide) (shc_k hsh 34 (by decide) (by decide)) rfl (Nat.le_of_ble_eq_true rfl) (by omega) (ok_mono h (fun w2 S3 F4 G5 h => ?_))
  obtain ⟨e8, h⟩ := h
  replace e8 := e8.symm; subst e8
  obtain ⟨z6, e9, h⟩ := h
  subst e9
  show Go d MX9_line 44 [some (vR 1), some (vI a1), some (vI a2), some (vI a3), none] [vI z6] S F4 G5 Q
  refine go_istore (show decode cX9_line 44 = .ok (.istore 4, 2) by decide +kernel) (by decide) ?_
  show Go d MX9_line 46 [some (vR 1), some (vI a1), some (vI a2), some (vI a3), some (vI z6)] [] S F4 G5 Q
  refine go_iload_n (show decode cX9_line 46 = .ok (.iload_n 3, 1) by decide +kernel) (by rfl) ?_
  obtain ⟨ht, hf⟩ := h
  refine go_ifne (tgt := 56) (show decode cX9_line 47 = .ok (.ifCond .ne 9, 3) by decide +kernel) (by decide) (fun hc => ?_) (fun hc => ?_)
  · have h := ht hc
    refine go_aload_n (show decode cX9_line 56 = .ok (.aload_n 0, 1) by decide +kernel) (by rfl) ?_
    refine go_getRc (show decode cX9_line 57 = .ok (.getfield 12, 3) by decide +kernel) fl_X9_12 rfl (shc_k hsh 1 (by decide) (by decide)) (v := 34) (shc_r hsh 1 0 (by decide) (by decide) (by decide)) ?_
    refine go_getJ (show decode cX9_line 60 = .ok (.getfield 327, 3) by decide +kernel) fl_X9_327 rfl (shc_k hsh 34 (by decide) (by decide)) ?_
    exact go_lret (show decode cX9_line 63 = .ok (.lreturn, 1) by decide +kernel) rfl h
  · have h := hf hc
    refine go_iload (show decode cX9_line 50 = .ok (.iload 4, 2) by decide +kernel) (by rfl) ?_
    refine go_i2l (show decode cX9_line 52 = .ok (.i2l, 1) by decide +kernel) ?_
    refine go_goto (tgt := 63) (show decode cX9_line 53 = .ok (.goto 10, 3) by decide +kernel) (by decide) ?_
    exact go_lret (show decode cX9_line 63 = .ok (.lreturn, 1) by decide +kernel) rfl h
def V_X9_line_0 (d : Nat) (S : AS) (F : AF) (G : AG) (Q : AQ) (a1 : Int) (a2 : Int) (a3 : Int) : Prop :=
  (1 ≤ d) ∧
  ∃ z6 : Int, Pu (d - 1) MX9_isGood [vI a1] S F G (some (vI z6)) ∧
  ((z6 = 0) →
    Q (some (vJ (-2))) S F G) ∧
  ((¬ z6 = 0) →
    ∃ z12 : Int, Pu (d - 1) MX9_isAxis [vI a2] S F G (some (vI z12)) ∧
    ((z12 = 0) →
      Q (some (vJ (-2))) S F G) ∧
    ((¬ z12 = 0) →
      ((a3 < 0) →
        Q (some (vJ (-2))) S F G) ∧
      ((¬ a3 < 0) →
        ((a3 ≤ 1) →
          ((¬ a2 = 0) →
            V_X9_line_41 d S F G Q a1 a2 a3 0 a1) ∧
          ((a2 = 0) →
            V_X9_line_41 d S F G Q a1 a2 a3 1 a1)) ∧
        ((¬ a3 ≤ 1) →
          Q (some (vJ (-2))) S F G))))
theorem R_X9_line_0 {d : Nat} {S : AS} {F : AF} {G : AG} {Q : AQ} {a1 : Int} {a2 : Int} {a3 : Int} (hsh : ShC S) (h : V_X9_line_0 d S F G Q a1 a2 a3) : Go d MX9_line 0 [some (vR 1), some (vI a1), some (vI a2), some (vI a3), none] [] S F G Q := by
  unfold V_X9_line_0 at h
  refine go_iload_n (show decode cX9_line 0 = .ok (.iload_n 1, 1) by decide +kernel) (by rfl) ?_
  obtain ⟨q1, h⟩ := h
  obtain ⟨z6, p7, h⟩ := h
  refine go_callS (d2 := d - 1) (M2 := MX9_isGood) (n := 1) (av := [vI a1]) (st := []) (show decode cX9_line 1 = .ok (.invokestatic 64, 3) by decide +kernel) ml_X9_64 mt_X9_isGood mst_X9_isGood rfl (Nat.le_of_ble_eq_true rfl) (by omega) (ok_mono p7 (fun w2 S3 F4 G5 e9 => ?_))
  obtain ⟨e1, e2, e3, e4⟩ := e9
  subst e1
  replace e2 := e2.symm; subst e2
  replace e3 := e3.symm; subst e3
  replace e4 := e4.symm; subst e4
  show Go d MX9_line 4 [some (vR 1), some (vI a1), some (vI a2), some (vI a3), none] [vI z6] S F G Q
  obtain ⟨ht, hf⟩ := h
  refine go_ifeq (tgt := 23) (show decode cX9_line 4 = .ok (.ifCond .eq 19, 3) by decide +kernel) (by decide) (fun hc => ?_) (fun hc => ?_)
  · have h := ht hc
    refine go_ldc2 (show decode cX9_line 23 = .ok (.ldc2_w 72, 3) by decide +kernel) lc_X9_72 (by decide) ?_
    exact go_lret (show decode cX9_line 26 = .ok (.lreturn, 1) by decide +kernel) rfl h
  · have h := hf hc
    refine go_iload_n (show decode cX9_line 7 = .ok (.iload_n 2, 1) by decide +kernel) (by rfl) ?_
    obtain ⟨z12, p13, h⟩ := h
    refine go_callS (d2 := d - 1) (M2 := MX9_isAxis) (n := 1) (av := [vI a2]) (st := []) (show decode cX9_line 8 = .ok (.invokestatic 295, 3) by decide +kernel) ml_X9_295 mt_X9_isAxis mst_X9_isAxis rfl (Nat.le_of_ble_eq_true rfl) (by omega) (ok_mono p13 (fun w8 S9 F10 G11 e9 => ?_))
    obtain ⟨e1, e2, e3, e4⟩ := e9
    subst e1
    replace e2 := e2.symm; subst e2
    replace e3 := e3.symm; subst e3
    replace e4 := e4.symm; subst e4
    show Go d MX9_line 11 [some (vR 1), some (vI a1), some (vI a2), some (vI a3), none] [vI z12] S F G Q
    obtain ⟨ht, hf⟩ := h
    refine go_ifeq (tgt := 23) (show decode cX9_line 11 = .ok (.ifCond .eq 12, 3) by decide +kernel) (by decide) (fun hc => ?_) (fun hc => ?_)
    · have h := ht hc
      refine go_ldc2 (show decode cX9_line 23 = .ok (.ldc2_w 72, 3) by decide +kernel) lc_X9_72 (by decide) ?_
      exact go_lret (show decode cX9_line 26 = .ok (.lreturn, 1) by decide +kernel) rfl h
    · have h := hf hc
      refine go_iload_n (show decode cX9_line 14 = .ok (.iload_n 3, 1) by decide +kernel) (by rfl) ?_
      obtain ⟨ht, hf⟩ := h
      refine go_iflt (tgt := 23) (show decode cX9_line 15 = .ok (.ifCond .lt 8, 3) by decide +kernel) (by decide) (fun hc => ?_) (fun hc => ?_)
      · have h := ht hc
        refine go_ldc2 (show decode cX9_line 23 = .ok (.ldc2_w 72, 3) by decide +kernel) lc_X9_72 (by decide) ?_
        exact go_lret (show decode cX9_line 26 = .ok (.lreturn, 1) by decide +kernel) rfl h
      · have h := hf hc
        refine go_iload_n (show decode cX9_line 18 = .ok (.iload_n 3, 1) by decide +kernel) (by rfl) ?_
        refine go_iconst (show decode cX9_line 19 = .ok (.iconst 1, 1) by decide +kernel) (by decide) ?_
        obtain ⟨ht, hf⟩ := h
        refine go_icmple (tgt := 27) (show decode cX9_line 20 = .ok (.if_icmp .le 7, 3) by decide +kernel) (by decide) (fun hc => ?_) (fun hc => ?_)
        · have h := ht hc
          refine go_aload_n (show decode cX9_line 27 = .ok (.aload_n 0, 1) by decide +kernel) (by rfl) ?_
          refine go_getRc (show decode cX9_line 28 = .ok (.getfield 12, 3) by decide +kernel) fl_X9_12 rfl (shc_k hsh 1 (by decide) (by decide)) (v := 34) (shc_r hsh 1 0 (by decide) (by decide) (by decide)) ?_
          refine go_iload_n (show decode cX9_line 31 = .ok (.iload_n 1, 1) by decide +kernel) (by rfl) ?_
          refine go_iload_n (show decode cX9_line 32 = .ok (.iload_n 2, 1) by decide +kernel) (by rfl) ?_
          obtain ⟨ht, hf⟩ := h
          refine go_ifne (tgt := 40) (show decode cX9_line 33 = .ok (.ifCond .ne 7, 3) by decide +kernel) (by decide) (fun hc => ?_) (fun hc => ?_)
          · have h := ht hc
            refine go_iconst (show decode cX9_line 40 = .ok (.iconst 0, 1) by decide +kernel) (by decide) ?_
            exact R_X9_line_41 hsh h
          · have h := hf hc
            refine go_iconst (show decode cX9_line 36 = .ok (.iconst 1, 1) by decide +kernel) (by decide) ?_
            refine go_goto (tgt := 41) (show decode cX9_line 37 = .ok (.goto 4, 3) by decide +kernel) (by decide) ?_
            exact R_X9_line_41 hsh h
        · have h := hf hc
          refine go_ldc2 (show decode cX9_line 23 = .ok (.ldc2_w 72, 3) by decide +kernel) lc_X9_72 (by decide) ?_
          exact go_lret (show decode cX9_line 26 = .ok (.lreturn, 1) by decide +kernel) rfl h
def V_X9_borders_0 (d : Nat) (S : AS) (F : AF) (G : AG) (Q : AQ) (a1 : Int) (a2 : Int) : Prop :=
  (1 ≤ d) ∧
  ∃ z6 : Int, Pu (d - 1) MX9_isAxis [vI a1] S F G (some (vI z6)) ∧
  ((z6 = 0) →
    Q (some (vI (-2))) S F G) ∧
  ((¬ z6 = 0) →
    ((a2 < 0) →
      Q (some (vI (-2))) S F G) ∧
    ((¬ a2 < 0) →
      ((a2 ≤ 1) →
        ∃ z12 : Nat, Pu (d - 1) MX2_axisOf [vR 2, vI a1] S F G (some (vR z12)) ∧
        ((¬ a2 = 0) →
          (AtAxis S z12) ∧
          Q (some (vI (F z12 4))) S F G) ∧
        ((a2 = 0) →
          (AtAxis S z12) ∧
          Q (some (vI (F (z12 + 1) 1))) S F G)) ∧
      ((¬ a2 ≤ 1) →
        Q (some (vI (-2))) S F G)))
theorem R_X9_borders_0 {d : Nat} {S : AS} {F : AF} {G : AG} {Q : AQ} {a1 : Int} {a2 : Int} (hsh : ShC S) (h : V_X9_borders_0 d S F G Q a1 a2) : Go d MX9_borders 0 [some (vR 1), some (vI a1), some (vI a2), none] [] S F G Q := by
  unfold V_X9_borders_0 at h
  refine go_iload_n (show decode cX9_borders 0 = .ok (.iload_n 1, 1) by decide +kernel) (by rfl) ?_
  obtain ⟨q1, h⟩ := h
  obtain ⟨z6, p7, h⟩ := h
  refine go_callS (d2 := d - 1) (M2 := MX9_isAxis) (n := 1) (av := [vI a1]) (st := []) (show decode cX9_borders 1 = .ok (.invokestatic 295, 3) by decide +kernel) ml_X9_295 mt_X9_isAxis mst_X9_isAxis rfl (Nat.le_of_ble_eq_true rfl) (by omega) (ok_mono p7 (fun w2 S3 F4 G5 e9 => ?_))
  obtain ⟨e1, e2, e3, e4⟩ := e9
  subst e1
  replace e2 := e2.symm; subst e2
  replace e3 := e3.symm; subst e3
  replace e4 := e4.symm; subst e4
  show Go d MX9_borders 4 [some (vR 1), some (vI a1), some (vI a2), none] [vI z6] S F G Q
  obtain ⟨ht, hf⟩ := h
  refine go_ifeq (tgt := 16) (show decode cX9_borders 4 = .ok (.ifCond .eq 12, 3) by decide +kernel) (by decide) (fun hc => ?_) (fun hc => ?_)
  · have h := ht hc
    refine go_bipush (show decode cX9_borders 16 = .ok (.bipush (-2), 2) by decide +kernel) (by decide) ?_
    exact go_iret (show decode cX9_borders 18 = .ok (.ireturn, 1) by decide +kernel) rfl h
  · have h := hf hc
    refine go_iload_n (show decode cX9_borders 7 = .ok (.iload_n 2, 1) by decide +kernel) (by rfl) ?_
    obtain ⟨ht, hf⟩ := h
    refine go_iflt (tgt := 16) (show decode cX9_borders 8 = .ok (.ifCond .lt 8, 3) by decide +kernel) (by decide) (fun hc => ?_) (fun hc => ?_)
    · have h := ht hc
      refine go_bipush (show decode cX9_borders 16 = .ok (.bipush (-2), 2) by decide +kernel) (by decide) ?_
      exact go_iret (show decode cX9_borders 18 = .ok (.ireturn, 1) by decide +kernel) rfl h
    · have h := hf hc
      refine go_iload_n (show decode cX9_borders 11 = .ok (.iload_n 2, 1) by decide +kernel) (by rfl) ?_
      refine go_iconst (show decode cX9_borders 12 = .ok (.iconst 1, 1) by decide +kernel) (by decide) ?_
      obtain ⟨ht, hf⟩ := h
      refine go_icmple (tgt := 19) (show decode cX9_borders 13 = .ok (.if_icmp .le 6, 3) by decide +kernel) (by decide) (fun hc => ?_) (fun hc => ?_)
      · have h := ht hc
        refine go_aload_n (show decode cX9_borders 19 = .ok (.aload_n 0, 1) by decide +kernel) (by rfl) ?_
        refine go_getRc (show decode cX9_borders 20 = .ok (.getfield 20, 3) by decide +kernel) fl_X9_20 rfl (shc_k hsh 1 (by decide) (by decide)) (v := 2) (shc_r hsh 1 1 (by decide) (by decide) (by decide)) ?_
        refine go_iload_n (show decode cX9_borders 23 = .ok (.iload_n 1, 1) by decide +kernel) (by rfl) ?_
        obtain ⟨z12, p13, h⟩ := h
        refine go_callV (d2 := d - 1) (M2 := MX2_axisOf) (n := 1) (ci := 2) (av := [vI a1]) (st := []) (show decode cX9_borders 24 = .ok (.invokevirtual 333, 3) by decide +kernel) ml_X9_333 mt_X2_axisOf min_X2_axisOf mse_X2_axisOf (by decide) (shc_k hsh 2 (by decide) (by decide)) rfl (Nat.le_of_ble_eq_true rfl) (by omega) (ok_mono p13 (fun w8 S9 F10 G11 e9 => ?_))
        obtain ⟨e1, e2, e3, e4⟩ := e9
        subst e1
        replace e2 := e2.symm; subst e2
        replace e3 := e3.symm; subst e3
        replace e4 := e4.symm; subst e4
        show Go d MX9_borders 27 [some (vR 1), some (vI a1), some (vI a2), none] [vR z12] S F G Q
        refine go_astore_n (show decode cX9_borders 27 = .ok (.astore_n 3, 1) by decide +kernel) (by decide) ?_
        show Go d MX9_borders 28 [some (vR 1), some (vI a1), some (vI a2), some (vR z12)] [] S F G Q
        refine go_iload_n (show decode cX9_borders 28 = .ok (.iload_n 2, 1) by decide +kernel) (by rfl) ?_
        obtain ⟨ht, hf⟩ := h
        refine go_ifne (tgt := 42) (show decode cX9_borders 29 = .ok (.ifCond .ne 13, 3) by decide +kernel) (by decide) (fun hc => ?_) (fun hc => ?_)
        · have h := ht hc
          refine go_aload_n (show decode cX9_borders 42 = .ok (.aload_n 3, 1) by decide +kernel) (by rfl) ?_
          obtain ⟨q14, h⟩ := h
          refine go_getI (show decode cX9_borders 43 = .ok (.getfield 343, 3) by decide +kernel) fl_X9_343 (Or.inl rfl) q14.1 ?_
          exact go_iret (show decode cX9_borders 46 = .ok (.ireturn, 1) by decide +kernel) rfl h
        · have h := hf hc
          refine go_aload_n (show decode cX9_borders 32 = .ok (.aload_n 3, 1) by decide +kernel) (by rfl) ?_
          obtain ⟨q15, h⟩ := h
          refine go_getRc (show decode cX9_borders 33 = .ok (.getfield 337, 3) by decide +kernel) fl_X9_337 rfl q15.1 (v := (z12 + 1)) q15.2.1 ?_
          refine go_getI (show decode cX9_borders 36 = .ok (.getfield 340, 3) by decide +kernel) fl_X9_340 (Or.inl rfl) q15.2.2.2.2.2.1.1 ?_
          refine go_goto (tgt := 46) (show decode cX9_borders 39 = .ok (.goto 7, 3) by decide +kernel) (by decide) ?_
          exact go_iret (show decode cX9_borders 46 = .ok (.ireturn, 1) by decide +kernel) rfl h
      · have h := hf hc
        refine go_bipush (show decode cX9_borders 16 = .ok (.bipush (-2), 2) by decide +kernel) (by decide) ?_
        exact go_iret (show decode cX9_borders 18 = .ok (.ireturn, 1) by decide +kernel) rfl h
def V_X9_border_0 (d : Nat) (S : AS) (F : AF) (G : AG) (Q : AQ) (a1 : Int) (a2 : Int) : Prop :=
  (1 ≤ d) ∧
  ∃ z6 : Int, Pu (d - 1) MX9_isAxis [vI a1] S F G (some (vI z6)) ∧
  ((¬ z6 = 0) →
    ((0 ≤ a2) →
      ∃ z12 : Nat, Pu (d - 1) MX2_axisOf [vR 2, vI a1] S F G (some (vR z12)) ∧
      (AtAxis S z12) ∧
      ∀ x15 : Nat, x15 = z12 + 1 →
      (AtCuts S x15) ∧
      ((F x15 1 ≤ a2) →
        Q (some (vI (-1))) S F G) ∧
      ((¬ F x15 1 ≤ a2) →
        ((0 : Int) ≤ a2) ∧
        ((a2 : Int) < 105) ∧
        Q (some (vI (G (x15 + 1) a2))) S F G)) ∧
    ((¬ 0 ≤ a2) →
      Q (some (vI (-3))) S F G)) ∧
  ((z6 = 0) →
    Q (some (vI (-2))) S F G)
theorem R_X9_border_0 {d : Nat} {S : AS} {F : AF} {G : AG} {Q : AQ} {a1 : Int} {a2 : Int} (hsh : ShC S) (h : V_X9_border_0 d S F G Q a1 a2) : Go d MX9_border 0 [some (vR 1), some (vI a1), some (vI a2), none] [] S F G Q := by
  unfold V_X9_border_0 at h
  refine go_iload_n (show decode cX9_border 0 = .ok (.iload_n 1, 1) by decide +kernel) (by rfl) ?_
  obtain ⟨q1, h⟩ := h
  obtain ⟨z6, p7, h⟩ := h
  refine go_callS (d2 := d - 1) (M2 := MX9_isAxis) (n := 1) (av := [vI a1]) (st := []) (show decode cX9_border 1 = .ok (.invokestatic 295, 3) by decide +kernel) ml_X9_295 mt_X9_isAxis mst_X9_isAxis rfl (Nat.le_of_ble_eq_true rfl) (by omega) (ok_mono p7 (fun w2 S3 F4 G5 e9 => ?_))
  obtain ⟨e1, e2, e3, e4⟩ := e9
  subst e1
  replace e2 := e2.symm; subst e2
  replace e3 := e3.symm; subst e3
  replace e4 := e4.symm; subst e4
  show Go d MX9_border 4 [some (vR 1), some (vI a1), some (vI a2), none] [vI z6] S F G Q
  obtain ⟨ht, hf⟩ := h
  refine go_ifne (tgt := 10) (show decode cX9_border 4 = .ok (.ifCond .ne 6, 3) by decide +kernel) (by decide) (fun hc => ?_) (fun hc => ?_)
  · have h := ht hc
    refine go_iload_n (show decode cX9_border 10 = .ok (.iload_n 2, 1) by decide +kernel) (by rfl) ?_
    obtain ⟨ht, hf⟩ := h
    refine go_ifge (tgt := 17) (show decode cX9_border 11 = .ok (.ifCond .ge 6, 3) by decide +kernel) (by decide) (fun hc => ?_) (fun hc => ?_)
    · have h := ht hc
      refine go_aload_n (show decode cX9_border 17 = .ok (.aload_n 0, 1) by decide +kernel) (by rfl) ?_
      refine go_getRc (show decode cX9_border 18 = .ok (.getfield 20, 3) by decide +kernel) fl_X9_20 rfl (shc_k hsh 1 (by decide) (by decide)) (v := 2) (shc_r hsh 1 1 (by decide) (by decide) (by decide)) ?_
      refine go_iload_n (show decode cX9_border 21 = .ok (.iload_n 1, 1) by decide +kernel) (by rfl) ?_
      obtain ⟨z12, p13, h⟩ := h
      refine go_callV (d2 := d - 1) (M2 := MX2_axisOf) (n := 1) (ci := 2) (av := [vI a1]) (st := []) (show decode cX9_border 22 = .ok (.invokevirtual 333, 3) by decide +kernel) ml_X9_333 mt_X2_axisOf min_X2_axisOf mse_X2_axisOf (by decide) (shc_k hsh 2 (by decide) (by decide)) rfl (Nat.le_of_ble_eq_true rfl) (by omega) (ok_mono p13 (fun w8 S9 F10 G11 e9 => ?_))
      obtain ⟨e1, e2, e3, e4⟩ := e9
      subst e1
      replace e2 := e2.symm; subst e2
      replace e3 := e3.symm; subst e3
      replace e4 := e4.symm; subst e4
      show Go d MX9_border 25 [some (vR 1), some (vI a1), some (vI a2), none] [vR z12] S F G Q
      obtain ⟨q14, h⟩ := h
      refine go_getRc (show decode cX9_border 25 = .ok (.getfield 337, 3) by decide +kernel) fl_X9_337 rfl q14.1 (v := (z12 + 1)) q14.2.1 ?_
      obtain ⟨x15, x15e⟩ : ∃ x15 : Nat, x15 = z12 + 1 := ⟨_, rfl⟩
      have h := h x15 x15e
      rw [← x15e]
      refine go_astore_n (show decode cX9_border 28 = .ok (.astore_n 3, 1) by decide +kernel) (by decide) ?_
      show Go d MX9_border 29 [some (vR 1), some (vI a1), some (vI a2), some (vR x15)] [] S F G Q
      refine go_iload_n (show decode cX9_border 29 = .ok (.iload_n 2, 1) by decide +kernel) (by rfl) ?_
      refine go_aload_n (show decode cX9_border 30 = .ok (.aload_n 3, 1) by decide +kernel) (by rfl) ?_
      obtain ⟨q16, h⟩ := h
      refine go_getI (show decode cX9_border 31 = .ok (.getfield 340, 3) by decide +kernel) fl_X9_340 (Or.inl rfl) q16.1 ?_
      obtain ⟨ht, hf⟩ := h
      refine go_icmpge (tgt := 46) (show decode cX9_border 34 = .ok (.if_icmp .ge 12, 3) by decide +kernel) (by decide) (fun hc => ?_) (fun hc => ?_)
      · have h := ht hc
        refine go_iconst (show decode cX9_border 46 = .ok (.iconst (-1), 1) by decide +kernel) (by decide) ?_
        exact go_iret (show decode cX9_border 47 = .ok (.ireturn, 1) by decide +kernel) rfl h
      · have h := hf hc
        refine go_aload_n (show decode cX9_border 37 = .ok (.aload_n 3, 1) by decide +kernel) (by rfl) ?_
        refine go_getRc (show decode cX9_border 38 = .ok (.getfield 346, 3) by decide +kernel) fl_X9_346 rfl q16.1 (v := (x15 + 1)) q16.2.1 ?_
        refine go_iload_n (show decode cX9_border 41 = .ok (.iload_n 2, 1) by decide +kernel) (by rfl) ?_
        obtain ⟨q17, h⟩ := h
        obtain ⟨q18, h⟩ := h
        refine go_iaload (show decode cX9_border 42 = .ok (.iaload, 1) by decide +kernel) q16.2.2.1 q17 (lt_n (m := 105) q18 q16.2.2.2) ?_
        refine go_goto (tgt := 47) (show decode cX9_border 43 = .ok (.goto 4, 3) by decide +kernel) (by decide) ?_
        exact go_iret (show decode cX9_border 47 = .ok (.ireturn, 1) by decide +kernel) rfl h
    · have h := hf hc
      refine go_bipush (show decode cX9_border 14 = .ok (.bipush (-3), 2) by decide +kernel) (by decide) ?_
      exact go_iret (show decode cX9_border 16 = .ok (.ireturn, 1) by decide +kernel) rfl h
  · have h := hf hc
    refine go_bipush (show decode cX9_border 7 = .ok (.bipush (-2), 2) by decide +kernel) (by decide) ?_
    exact go_iret (show decode cX9_border 9 = .ok (.ireturn, 1) by decide +kernel) rfl h
def V_X9_act_0 (d : Nat) (S : AS) (F : AF) (G : AG) (Q : AQ) (a1 : Int) (a2 : Int) : Prop :=
  ((a1 < 0) →
    Q (some (vJ (-2))) S F G) ∧
  ((¬ a1 < 0) →
    ((F 44 2 ≤ a1) →
      Q (some (vJ (-2))) S F G) ∧
    ((¬ F 44 2 ≤ a1) →
      ((a2 < 0) →
        Q (some (vJ (-2))) S F G) ∧
      ((¬ a2 < 0) →
        ((a2 < 7) →
          (1 ≤ d) ∧
          ∃ z6 : Int, Pu (d - 1) MX6_told [vR 44, vI a1, vI a2] S F G (some (vJ z6)) ∧
          Q (some (vJ z6)) S F G) ∧
        ((¬ a2 < 7) →
          Q (some (vJ (-2))) S F G))))
theorem R_X9_act_0 {d : Nat} {S : AS} {F : AF} {G : AG} {Q : AQ} {a1 : Int} {a2 : Int} (hsh : ShC S) (h : V_X9_act_0 d S F G Q a1 a2) : Go d MX9_act 0 [some (vR 1), some (vI a1), some (vI a2)] [] S F G Q := by
  unfold V_X9_act_0 at h
  refine go_iload_n (show decode cX9_act 0 = .ok (.iload_n 1, 1) by decide +kernel) (by rfl) ?_
  obtain ⟨ht, hf⟩ := h
  refine go_iflt (tgt := 25) (show decode cX9_act 1 = .ok (.ifCond .lt 24, 3) by decide +kernel) (by decide) (fun hc => ?_) (fun hc => ?_)
  · have h := ht hc
    refine go_ldc2 (show decode cX9_act 25 = .ok (.ldc2_w 72, 3) by decide +kernel) lc_X9_72 (by decide) ?_
    exact go_lret (show decode cX9_act 28 = .ok (.lreturn, 1) by decide +kernel) rfl h
  · have h := hf hc
    refine go_iload_n (show decode cX9_act 4 = .ok (.iload_n 1, 1) by decide +kernel) (by rfl) ?_
    refine go_aload_n (show decode cX9_act 5 = .ok (.aload_n 0, 1) by decide +kernel) (by rfl) ?_
    refine go_getRc (show decode cX9_act 6 = .ok (.getfield 24, 3) by decide +kernel) fl_X9_24 rfl (shc_k hsh 1 (by decide) (by decide)) (v := 44) (shc_r hsh 1 2 (by decide) (by decide) (by decide)) ?_
    refine go_getI (show decode cX9_act 9 = .ok (.getfield 350, 3) by decide +kernel) fl_X9_350 (Or.inl rfl) (shc_k hsh 44 (by decide) (by decide)) ?_
    obtain ⟨ht, hf⟩ := h
    refine go_icmpge (tgt := 25) (show decode cX9_act 12 = .ok (.if_icmp .ge 13, 3) by decide +kernel) (by decide) (fun hc => ?_) (fun hc => ?_)
    · have h := ht hc
      refine go_ldc2 (show decode cX9_act 25 = .ok (.ldc2_w 72, 3) by decide +kernel) lc_X9_72 (by decide) ?_
      exact go_lret (show decode cX9_act 28 = .ok (.lreturn, 1) by decide +kernel) rfl h
    · have h := hf hc
      refine go_iload_n (show decode cX9_act 15 = .ok (.iload_n 2, 1) by decide +kernel) (by rfl) ?_
      obtain ⟨ht, hf⟩ := h
      refine go_iflt (tgt := 25) (show decode cX9_act 16 = .ok (.ifCond .lt 9, 3) by decide +kernel) (by decide) (fun hc => ?_) (fun hc => ?_)
      · have h := ht hc
        refine go_ldc2 (show decode cX9_act 25 = .ok (.ldc2_w 72, 3) by decide +kernel) lc_X9_72 (by decide) ?_
        exact go_lret (show decode cX9_act 28 = .ok (.lreturn, 1) by decide +kernel) rfl h
      · have h := hf hc
        refine go_iload_n (show decode cX9_act 19 = .ok (.iload_n 2, 1) by decide +kernel) (by rfl) ?_
        refine go_bipush (show decode cX9_act 20 = .ok (.bipush 7, 2) by decide +kernel) (by decide) ?_
        obtain ⟨ht, hf⟩ := h
        refine go_icmplt (tgt := 29) (show decode cX9_act 22 = .ok (.if_icmp .lt 7, 3) by decide +kernel) (by decide) (fun hc => ?_) (fun hc => ?_)
        · have h := ht hc
          refine go_aload_n (show decode cX9_act 29 = .ok (.aload_n 0, 1) by decide +kernel) (by rfl) ?_
          refine go_getRc (show decode cX9_act 30 = .ok (.getfield 24, 3) by decide +kernel) fl_X9_24 rfl (shc_k hsh 1 (by decide) (by decide)) (v := 44) (shc_r hsh 1 2 (by decide) (by decide) (by decide)) ?_
          refine go_iload_n (show decode cX9_act 33 = .ok (.iload_n 1, 1) by decide +kernel) (by rfl) ?_
          refine go_iload_n (show decode cX9_act 34 = .ok (.iload_n 2, 1) by decide +kernel) (by rfl) ?_
          obtain ⟨q1, h⟩ := h
          obtain ⟨z6, p7, h⟩ := h
          refine go_callV (d2 := d - 1) (M2 := MX6_told) (n := 2) (ci := 6) (av := [vI a1, vI a2]) (st := []) (show decode cX9_act 35 = .ok (.invokevirtual 351, 3) by decide +kernel) ml_X9_351 mt_X6_told min_X6_told mse_X6_told (by decide) (shc_k hsh 44 (by decide) (by decide)) rfl (Nat.le_of_ble_eq_true rfl) (by omega) (ok_mono p7 (fun w2 S3 F4 G5 e9 => ?_))
          obtain ⟨e1, e2, e3, e4⟩ := e9
          subst e1
          replace e2 := e2.symm; subst e2
          replace e3 := e3.symm; subst e3
          replace e4 := e4.symm; subst e4
          show Go d MX9_act 38 [some (vR 1), some (vI a1), some (vI a2)] [vJ z6] S F G Q
          exact go_lret (show decode cX9_act 38 = .ok (.lreturn, 1) by decide +kernel) rfl h
        · have h := hf hc
          refine go_ldc2 (show decode cX9_act 25 = .ok (.ldc2_w 72, 3) by decide +kernel) lc_X9_72 (by decide) ?_
          exact go_lret (show decode cX9_act 28 = .ok (.lreturn, 1) by decide +kernel) rfl h
def V_X9_count_0 (d : Nat) (S : AS) (F : AF) (G : AG) (Q : AQ) (a1 : Int) : Prop :=
  ((a1 = 0) →
    (1 ≤ d) ∧
    ∃ z6 : Int, Pu (d - 1) MX3_cells [vR 17] S F G (some (vJ z6)) ∧
    Q (some (vJ z6)) S F G) ∧
  ((a1 = 1) →
    (1 ≤ d) ∧
    ∃ z13 : Int, Pu (d - 1) MX3_width [vR 17] S F G (some (vI z13)) ∧
    Q (some (vJ z13)) S F G) ∧
  ((a1 = 2) →
    (1 ≤ d) ∧
    ∃ z20 : Int, Pu (d - 1) MX3_height [vR 17] S F G (some (vI z20)) ∧
    Q (some (vJ z20)) S F G) ∧
  ((a1 = 3) →
    Q (some (vJ (F 2 8))) S F G) ∧
  ((a1 = 4) →
    Q (some (vJ (F 44 2))) S F G) ∧
  ((a1 = 5) →
    Q (some (vJ (F 46 1))) S F G) ∧
  ((a1 = 6) →
    Q (some (vJ (F 2 7))) S F G) ∧
  ((a1 < 0 ∨ 6 < a1) →
    Q (some (vJ (-1))) S F G)
theorem R_X9_count_0 {d : Nat} {S : AS} {F : AF} {G : AG} {Q : AQ} {a1 : Int} (hsh : ShC S) (h : V_X9_count_0 d S F G Q a1) : Go d MX9_count 0 [some (vR 1), some (vI a1)] [] S F G Q := by
  unfold V_X9_count_0 at h
  refine go_iload_n (show decode cX9_count 0 = .ok (.iload_n 1, 1) by decide +kernel) (by rfl) ?_
  obtain ⟨h_0, h_1, h_2, h_3, h_4, h_5, h_6, h_d⟩ := h
  by_cases hd9 : a1 < 0 ∨ 6 < a1
  · have h := h_d hd9
    refine go_swOut (tgt := 114) (show decode cX9_count 1 = .ok (.tableswitch 113 0 6 #[43, 54, 66, 78, 87, 96, 105], 43) by decide +kernel) hd9 (by decide) ?_
    refine go_ldc2 (show decode cX9_count 114 = .ok (.ldc2_w 216, 3) by decide +kernel) lc_X9_216 (by decide) ?_
    exact go_lret (show decode cX9_count 117 = .ok (.lreturn, 1) by decide +kernel) rfl h
  by_cases hc0 : a1 = 0
  · have h := h_0 hc0
    refine go_swIn (tgt := 44) (show decode cX9_count 1 = .ok (.tableswitch 113 0 6 #[43, 54, 66, 78, 87, 96, 105], 43) by decide +kernel) (by omega) (by omega) (by rw [hc0]; rfl) (by decide) ?_
    refine go_aload_n (show decode cX9_count 44 = .ok (.aload_n 0, 1) by decide +kernel) (by rfl) ?_
    refine go_getRc (show decode cX9_count 45 = .ok (.getfield 20, 3) by decide +kernel) fl_X9_20 rfl (shc_k hsh 1 (by decide) (by decide)) (v := 2) (shc_r hsh 1 1 (by decide) (by decide) (by decide)) ?_
    refine go_getRc (show decode cX9_count 48 = .ok (.getfield 57, 3) by decide +kernel) fl_X9_57 rfl (shc_k hsh 2 (by decide) (by decide)) (v := 17) (shc_r hsh 2 2 (by decide) (by decide) (by decide)) ?_
    obtain ⟨q1, h⟩ := h
    obtain ⟨z6, p7, h⟩ := h
    refine go_callV (d2 := d - 1) (M2 := MX3_cells) (n := 0) (ci := 3) (av := []) (st := []) (show decode cX9_count 51 = .ok (.invokevirtual 60, 3) by decide +kernel) ml_X9_60 mt_X3_cells min_X3_cells mse_X3_cells (by decide) (shc_k hsh 17 (by decide) (by decide)) rfl (Nat.le_of_ble_eq_true rfl) (by omega) (ok_mono p7 (fun w2 S3 F4 G5 e9 => ?_))
    obtain ⟨e1, e2, e3, e4⟩ := e9
    subst e1
    replace e2 := e2.symm; subst e2
    replace e3 := e3.symm; subst e3
    replace e4 := e4.symm; subst e4
    show Go d MX9_count 54 [some (vR 1), some (vI a1)] [vJ z6] S F G Q
    exact go_lret (show decode cX9_count 54 = .ok (.lreturn, 1) by decide +kernel) rfl h
  by_cases hc1 : a1 = 1
  · have h := h_1 hc1
    refine go_swIn (tgt := 55) (show decode cX9_count 1 = .ok (.tableswitch 113 0 6 #[43, 54, 66, 78, 87, 96, 105], 43) by decide +kernel) (by omega) (by omega) (by rw [hc1]; rfl) (by decide) ?_
    refine go_aload_n (show decode cX9_count 55 = .ok (.aload_n 0, 1) by decide +kernel) (by rfl) ?_
    refine go_getRc (show decode cX9_count 56 = .ok (.getfield 20, 3) by decide +kernel) fl_X9_20 rfl (shc_k hsh 1 (by decide) (by decide)) (v := 2) (shc_r hsh 1 1 (by decide) (by decide) (by decide)) ?_
    refine go_getRc (show decode cX9_count 59 = .ok (.getfield 57, 3) by decide +kernel) fl_X9_57 rfl (shc_k hsh 2 (by decide) (by decide)) (v := 17) (shc_r hsh 2 2 (by decide) (by decide) (by decide)) ?_
    obtain ⟨q8, h⟩ := h
    obtain ⟨z13, p14, h⟩ := h
    refine go_callV (d2 := d - 1) (M2 := MX3_width) (n := 0) (ci := 3) (av := []) (st := []) (show decode cX9_count 62 = .ok (.invokevirtual 182, 3) by decide +kernel) ml_X9_182 mt_X3_width min_X3_width mse_X3_width (by decide) (shc_k hsh 17 (by decide) (by decide)) rfl (Nat.le_of_ble_eq_true rfl) (by omega) (ok_mono p14 (fun w9 S10 F11 G12 e9 => ?_))
    obtain ⟨e1, e2, e3, e4⟩ := e9
    subst e1
    replace e2 := e2.symm; subst e2
    replace e3 := e3.symm; subst e3
    replace e4 := e4.symm; subst e4
    show Go d MX9_count 65 [some (vR 1), some (vI a1)] [vI z13] S F G Q
    refine go_i2l (show decode cX9_count 65 = .ok (.i2l, 1) by decide +kernel) ?_
    exact go_lret (show decode cX9_count 66 = .ok (.lreturn, 1) by decide +kernel) rfl h
  by_cases hc2 : a1 = 2
  · have h := h_2 hc2
    refine go_swIn (tgt := 67) (show decode cX9_count 1 = .ok (.tableswitch 113 0 6 #[43, 54, 66, 78, 87, 96, 105], 43) by decide +kernel) (by omega) (by omega) (by rw [hc2]; rfl) (by decide) ?_
    refine go_aload_n (show decode cX9_count 67 = .ok (.aload_n 0, 1) by decide +kernel) (by rfl) ?_
    refine go_getRc (show decode cX9_count 68 = .ok (.getfield 20, 3) by decide +kernel) fl_X9_20 rfl (shc_k hsh 1 (by decide) (by decide)) (v := 2) (shc_r hsh 1 1 (by decide) (by decide) (by decide)) ?_
    refine go_getRc (show decode cX9_count 71 = .ok (.getfield 57, 3) by decide +kernel) fl_X9_57 rfl (shc_k hsh 2 (by decide) (by decide)) (v := 17) (shc_r hsh 2 2 (by decide) (by decide) (by decide)) ?_
    obtain ⟨q15, h⟩ := h
    obtain ⟨z20, p21, h⟩ := h
    refine go_callV (d2 := d - 1) (M2 := MX3_height) (n := 0) (ci := 3) (av := []) (st := []) (show decode cX9_count 74 = .ok (.invokevirtual 321, 3) by decide +kernel) ml_X9_321 mt_X3_height min_X3_height mse_X3_height (by decide) (shc_k hsh 17 (by decide) (by decide)) rfl (Nat.le_of_ble_eq_true rfl) (by omega) (ok_mono p21 (fun w16 S17 F18 G19 e9 => ?_))
    obtain ⟨e1, e2, e3, e4⟩ := e9
    subst e1
    replace e2 := e2.symm; subst e2
    replace e3 := e3.symm; subst e3
    replace e4 := e4.symm; subst e4
    show Go d MX9_count 77 [some (vR 1), some (vI a1)] [vI z20] S F G Q
    refine go_i2l (show decode cX9_count 77 = .ok (.i2l, 1) by decide +kernel) ?_
    exact go_lret (show decode cX9_count 78 = .ok (.lreturn, 1) by decide +kernel) rfl h
  by_cases hc3 : a1 = 3
  · have h := h_3 hc3
    refine go_swIn (tgt := 79) (show decode cX9_count 1 = .ok (.tableswitch 113 0 6 #[43, 54, 66, 78, 87, 96, 105], 43) by decide +kernel) (by omega) (by omega) (by rw [hc3]; rfl) (by decide) ?_
    refine go_aload_n (show decode cX9_count 79 = .ok (.aload_n 0, 1) by decide +kernel) (by rfl) ?_
    refine go_getRc (show decode cX9_count 80 = .ok (.getfield 20, 3) by decide +kernel) fl_X9_20 rfl (shc_k hsh 1 (by decide) (by decide)) (v := 2) (shc_r hsh 1 1 (by decide) (by decide) (by decide)) ?_
    refine go_getI (show decode cX9_count 83 = .ok (.getfield 221, 3) by decide +kernel) fl_X9_221 (Or.inl rfl) (shc_k hsh 2 (by decide) (by decide)) ?_
    refine go_i2l (show decode cX9_count 86 = .ok (.i2l, 1) by decide +kernel) ?_
    exact go_lret (show decode cX9_count 87 = .ok (.lreturn, 1) by decide +kernel) rfl h
  by_cases hc4 : a1 = 4
  · have h := h_4 hc4
    refine go_swIn (tgt := 88) (show decode cX9_count 1 = .ok (.tableswitch 113 0 6 #[43, 54, 66, 78, 87, 96, 105], 43) by decide +kernel) (by omega) (by omega) (by rw [hc4]; rfl) (by decide) ?_
    refine go_aload_n (show decode cX9_count 88 = .ok (.aload_n 0, 1) by decide +kernel) (by rfl) ?_
    refine go_getRc (show decode cX9_count 89 = .ok (.getfield 24, 3) by decide +kernel) fl_X9_24 rfl (shc_k hsh 1 (by decide) (by decide)) (v := 44) (shc_r hsh 1 2 (by decide) (by decide) (by decide)) ?_
    refine go_getI (show decode cX9_count 92 = .ok (.getfield 350, 3) by decide +kernel) fl_X9_350 (Or.inl rfl) (shc_k hsh 44 (by decide) (by decide)) ?_
    refine go_i2l (show decode cX9_count 95 = .ok (.i2l, 1) by decide +kernel) ?_
    exact go_lret (show decode cX9_count 96 = .ok (.lreturn, 1) by decide +kernel) rfl h
  by_cases hc5 : a1 = 5
  · have h := h_5 hc5
    refine go_swIn (tgt := 97) (show decode cX9_count 1 = .ok (.tableswitch 113 0 6 #[43, 54, 66, 78, 87, 96, 105], 43) by decide +kernel) (by omega) (by omega) (by rw [hc5]; rfl) (by decide) ?_
    refine go_aload_n (show decode cX9_count 97 = .ok (.aload_n 0, 1) by decide +kernel) (by rfl) ?_
    refine go_getRc (show decode cX9_count 98 = .ok (.getfield 31, 3) by decide +kernel) fl_X9_31 rfl (shc_k hsh 1 (by decide) (by decide)) (v := 46) (shc_r hsh 1 3 (by decide) (by decide) (by decide)) ?_
    refine go_getI (show decode cX9_count 101 = .ok (.getfield 240, 3) by decide +kernel) fl_X9_240 (Or.inl rfl) (shc_k hsh 46 (by decide) (by decide)) ?_
    refine go_i2l (show decode cX9_count 104 = .ok (.i2l, 1) by decide +kernel) ?_
    exact go_lret (show decode cX9_count 105 = .ok (.lreturn, 1) by decide +kernel) rfl h
  by_cases hc6 : a1 = 6
  · have h := h_6 hc6
    refine go_swIn (tgt := 106) (show decode cX9_count 1 = .ok (.tableswitch 113 0 6 #[43, 54, 66, 78, 87, 96, 105], 43) by decide +kernel) (by omega) (by omega) (by rw [hc6]; rfl) (by decide) ?_
    refine go_aload_n (show decode cX9_count 106 = .ok (.aload_n 0, 1) by decide +kernel) (by rfl) ?_
    refine go_getRc (show decode cX9_count 107 = .ok (.getfield 20, 3) by decide +kernel) fl_X9_20 rfl (shc_k hsh 1 (by decide) (by decide)) (v := 2) (shc_r hsh 1 1 (by decide) (by decide) (by decide)) ?_
    refine go_getJ (show decode cX9_count 110 = .ok (.getfield 354, 3) by decide +kernel) fl_X9_354 rfl (shc_k hsh 2 (by decide) (by decide)) ?_
    exact go_lret (show decode cX9_count 113 = .ok (.lreturn, 1) by decide +kernel) rfl h
  exact absurd hd9 (by omega)
set_option maxRecDepth 50000 in
def V_X10_init_210 (d : Nat) (S : AS) (F : AF) (G : AG) (Q : AQ) (a0 : Nat) : Prop :=
  (sn S < 999998) ∧
  ∀ x2 : Nat, x2 = sn S + 1 →
  ∀ S3 : AS, S3 = na S 21 48 48 →
  ∀ F4 : AF, F4 = nF S F →
  ∀ G5 : AG, G5 = nG S G →
  (sK S3 a0 = 10) ∧
  (x2 ≤ sn S3) ∧
  ∀ S8 : AS, S8 = ru S3 a0 50 x2 →
  (1 ≤ d) ∧
  (sK S8 a0 = 10) ∧
  Ok (d - 1) MX10_begins [vR a0] S8 F4 G5 (fun w10 S11 F12 G13 =>
  w10 = none ∧
  Q none S11 F12 G13)
set_option maxRecDepth 50000 in
theorem R_X10_init_210 {d : Nat} {S : AS} {F : AF} {G : AG} {Q : AQ} {a0 : Nat} (h : V_X10_init_210 d S F G Q a0) : Go d MX10_init 210 [some (vR a0)] [] S F G Q := by
  unfold V_X10_init_210 at h
  refine go_aload_n (show decode cX10_init 210 = .ok (.aload_n 0, 1) by decide +kernel) (by rfl) ?_
  refine go_bipush (show decode cX10_init 211 = .ok (.bipush 48, 2) by decide +kernel) (by decide) ?_
  obtain ⟨q1, h⟩ := h
  refine go_newa (K := 21) (show decode cX10_init 213 = .ok (.newarray .long, 2) by decide +kernel) rfl (by decide) ar_21 (by decide) (by decide) q1 ?_
  show Go d MX10_init 215 [some (vR a0)] [vR (sn S + 1), vR a0] (na S 21 48 48) (nF S F) (nG S G) Q
  obtain ⟨x2, x2e⟩ : ∃ x2 : Nat, x2 = sn S + 1 := ⟨_, rfl⟩
  have h := h x2 x2e
  rw [← x2e]
  obtain ⟨S3, S3e⟩ : ∃ S3 : AS, S3 = na S 21 48 48 := ⟨_, rfl⟩
  have h := h S3 S3e
  rw [← S3e]
  obtain ⟨F4, F4e⟩ : ∃ F4 : AF, F4 = nF S F := ⟨_, rfl⟩
  have h := h F4 F4e
  rw [← F4e]
  obtain ⟨G5, G5e⟩ : ∃ G5 : AG, G5 = nG S G := ⟨_, rfl⟩
  have h := h G5 G5e
  rw [← G5e]
  obtain ⟨q6, h⟩ := h
  obtain ⟨q7, h⟩ := h
  refine go_putR (show decode cX10_init 215 = .ok (.putfield 102, 3) by decide +kernel) fl_X10_102 rfl (Or.inr ⟨rfl, rfl⟩) q6 q7 ?_
  obtain ⟨S8, S8e⟩ : ∃ S8 : AS, S8 = ru S3 a0 50 x2 := ⟨_, rfl⟩
  have h := h S8 S8e
  rw [← S8e]
  refine go_aload_n (show decode cX10_init 218 = .ok (.aload_n 0, 1) by decide +kernel) (by rfl) ?_
  obtain ⟨q9, h⟩ := h
  obtain ⟨q14, h⟩ := h
  refine go_callV (d2 := d - 1) (M2 := MX10_begins) (n := 0) (ci := 10) (av := []) (st := []) (show decode cX10_init 219 = .ok (.invokevirtual 105, 3) by decide +kernel) ml_X10_105 mt_X10_begins min_X10_begins mse_X10_begins (by decide) q14 rfl (Nat.le_of_ble_eq_true rfl) (by omega) (ok_mono h (fun w10 S11 F12 G13 h => ?_))
  obtain ⟨e9, h⟩ := h
  subst e9
  show Go d MX10_init 222 [some (vR a0)] [] S11 F12 G13 Q
  exact go_vret (show decode cX10_init 222 = .ok (.return_, 1) by decide +kernel) rfl h
set_option maxRecDepth 50000 in
def V_X10_init_186 (d : Nat) (S : AS) (F : AF) (G : AG) (Q : AQ) (a0 : Nat) : Prop :=
  (sn S < 999998) ∧
  ∀ x2 : Nat, x2 = sn S + 1 →
  ∀ S3 : AS, S3 = na S 23 48 48 →
  ∀ F4 : AF, F4 = nF S F →
  ∀ G5 : AG, G5 = nG S G →
  (sK S3 a0 = 10) ∧
  (x2 ≤ sn S3) ∧
  ∀ S8 : AS, S8 = ru S3 a0 47 x2 →
  (sn S8 < 999998) ∧
  ∀ x10 : Nat, x10 = sn S8 + 1 →
  ∀ S11 : AS, S11 = na S8 20 98 98 →
  ∀ F12 : AF, F12 = nF S8 F4 →
  ∀ G13 : AG, G13 = nG S8 G5 →
  (sK S11 a0 = 10) ∧
  (x10 ≤ sn S11) ∧
  ∀ S16 : AS, S16 = ru S11 a0 48 x10 →
  (sn S16 < 999998) ∧
  ∀ x18 : Nat, x18 = sn S16 + 1 →
  ∀ S19 : AS, S19 = na S16 20 98 98 →
  ∀ F20 : AF, F20 = nF S16 F12 →
  ∀ G21 : AG, G21 = nG S16 G13 →
  (sK S19 a0 = 10) ∧
  (x18 ≤ sn S19) ∧
  ∀ S24 : AS, S24 = ru S19 a0 49 x18 →
  V_X10_init_210 d S24 F20 G21 Q a0
set_option maxRecDepth 50000 in
theorem R_X10_init_186 {d : Nat} {S : AS} {F : AF} {G : AG} {Q : AQ} {a0 : Nat} (h : V_X10_init_186 d S F G Q a0) : Go d MX10_init 186 [some (vR a0)] [] S F G Q := by
  unfold V_X10_init_186 at h
  refine go_aload_n (show decode cX10_init 186 = .ok (.aload_n 0, 1) by decide +kernel) (by rfl) ?_
  refine go_bipush (show decode cX10_init 187 = .ok (.bipush 48, 2) by decide +kernel) (by decide) ?_
  obtain ⟨q1, h⟩ := h
  refine go_newa (K := 23) (show decode cX10_init 189 = .ok (.newarray .boolean, 2) by decide +kernel) rfl (by decide) ar_23 (by decide) (by decide) q1 ?_
  show Go d MX10_init 191 [some (vR a0)] [vR (sn S + 1), vR a0] (na S 23 48 48) (nF S F) (nG S G) Q
  obtain ⟨x2, x2e⟩ : ∃ x2 : Nat, x2 = sn S + 1 := ⟨_, rfl⟩
  have h := h x2 x2e
  rw [← x2e]
  obtain ⟨S3, S3e⟩ : ∃ S3 : AS, S3 = na S 23 48 48 := ⟨_, rfl⟩
  have h := h S3 S3e
  rw [← S3e]
  obtain ⟨F4, F4e⟩ : ∃ F4 : AF, F4 = nF S F := ⟨_, rfl⟩
  have h := h F4 F4e
  rw [← F4e]
  obtain ⟨G5, G5e⟩ : ∃ G5 : AG, G5 = nG S G := ⟨_, rfl⟩
  have h := h G5 G5e
  rw [← G5e]
  obtain ⟨q6, h⟩ := h
  obtain ⟨q7, h⟩ := h
  refine go_putR (show decode cX10_init 191 = .ok (.putfield 93, 3) by decide +kernel) fl_X10_93 rfl (Or.inr ⟨rfl, rfl⟩) q6 q7 ?_
  obtain ⟨S8, S8e⟩ : ∃ S8 : AS, S8 = ru S3 a0 47 x2 := ⟨_, rfl⟩
  have h := h S8 S8e
  rw [← S8e]
  refine go_aload_n (show decode cX10_init 194 = .ok (.aload_n 0, 1) by decide +kernel) (by rfl) ?_
  refine go_bipush (show decode cX10_init 195 = .ok (.bipush 98, 2) by decide +kernel) (by decide) ?_
  obtain ⟨q9, h⟩ := h
  refine go_newa (K := 20) (show decode cX10_init 197 = .ok (.newarray .int, 2) by decide +kernel) rfl (by decide) ar_20 (by decide) (by decide) q9 ?_
  show Go d MX10_init 199 [some (vR a0)] [vR (sn S8 + 1), vR a0] (na S8 20 98 98) (nF S8 F4) (nG S8 G5) Q
  obtain ⟨x10, x10e⟩ : ∃ x10 : Nat, x10 = sn S8 + 1 := ⟨_, rfl⟩
  have h := h x10 x10e
  rw [← x10e]
  obtain ⟨S11, S11e⟩ : ∃ S11 : AS, S11 = na S8 20 98 98 := ⟨_, rfl⟩
  have h := h S11 S11e
  rw [← S11e]
  obtain ⟨F12, F12e⟩ : ∃ F12 : AF, F12 = nF S8 F4 := ⟨_, rfl⟩
  have h := h F12 F12e
  rw [← F12e]
  obtain ⟨G13, G13e⟩ : ∃ G13 : AG, G13 = nG S8 G5 := ⟨_, rfl⟩
  have h := h G13 G13e
  rw [← G13e]
  obtain ⟨q14, h⟩ := h
  obtain ⟨q15, h⟩ := h
  refine go_putR (show decode cX10_init 199 = .ok (.putfield 96, 3) by decide +kernel) fl_X10_96 rfl (Or.inr ⟨rfl, rfl⟩) q14 q15 ?_
  obtain ⟨S16, S16e⟩ : ∃ S16 : AS, S16 = ru S11 a0 48 x10 := ⟨_, rfl⟩
  have h := h S16 S16e
  rw [← S16e]
  refine go_aload_n (show decode cX10_init 202 = .ok (.aload_n 0, 1) by decide +kernel) (by rfl) ?_
  refine go_bipush (show decode cX10_init 203 = .ok (.bipush 98, 2) by decide +kernel) (by decide) ?_
  obtain ⟨q17, h⟩ := h
  refine go_newa (K := 20) (show decode cX10_init 205 = .ok (.newarray .int, 2) by decide +kernel) rfl (by decide) ar_20 (by decide) (by decide) q17 ?_
  show Go d MX10_init 207 [some (vR a0)] [vR (sn S16 + 1), vR a0] (na S16 20 98 98) (nF S16 F12) (nG S16 G13) Q
  obtain ⟨x18, x18e⟩ : ∃ x18 : Nat, x18 = sn S16 + 1 := ⟨_, rfl⟩
  have h := h x18 x18e
  rw [← x18e]
  obtain ⟨S19, S19e⟩ : ∃ S19 : AS, S19 = na S16 20 98 98 := ⟨_, rfl⟩
  have h := h S19 S19e
  rw [← S19e]
  obtain ⟨F20, F20e⟩ : ∃ F20 : AF, F20 = nF S16 F12 := ⟨_, rfl⟩
  have h := h F20 F20e
  rw [← F20e]
  obtain ⟨G21, G21e⟩ : ∃ G21 : AG, G21 = nG S16 G13 := ⟨_, rfl⟩
  have h := h G21 G21e
  rw [← G21e]
  obtain ⟨q22, h⟩ := h
  obtain ⟨q23, h⟩ := h
  refine go_putR (show decode cX10_init 207 = .ok (.putfield 99, 3) by decide +kernel) fl_X10_99 rfl (Or.inr ⟨rfl, rfl⟩) q22 q23 ?_
  obtain ⟨S24, S24e⟩ : ∃ S24 : AS, S24 = ru S19 a0 49 x18 := ⟨_, rfl⟩
  have h := h S24 S24e
  rw [← S24e]
  exact R_X10_init_210 h
set_option maxRecDepth 50000 in
def V_X10_init_163 (d : Nat) (S : AS) (F : AF) (G : AG) (Q : AQ) (a0 : Nat) : Prop :=
  (sn S < 999998) ∧
  ∀ x2 : Nat, x2 = sn S + 1 →
  ∀ S3 : AS, S3 = na S 22 500 500 →
  ∀ F4 : AF, F4 = nF S F →
  ∀ G5 : AG, G5 = nG S G →
  (sK S3 a0 = 10) ∧
  (x2 ≤ sn S3) ∧
  ∀ S8 : AS, S8 = ru S3 a0 33 x2 →
  (sK S8 a0 = 10) ∧
  ∀ F10 : AF, F10 = fu F4 a0 38 (-1) →
  (sn S8 < 999998) ∧
  ∀ x12 : Nat, x12 = sn S8 + 1 →
  ∀ S13 : AS, S13 = na S8 21 210 210 →
  ∀ F14 : AF, F14 = nF S8 F10 →
  ∀ G15 : AG, G15 = nG S8 G5 →
  (sK S13 a0 = 10) ∧
  (x12 ≤ sn S13) ∧
  ∀ S18 : AS, S18 = ru S13 a0 40 x12 →
  V_X10_init_186 d S18 F14 G15 Q a0
set_option maxRecDepth 50000 in
theorem R_X10_init_163 {d : Nat} {S : AS} {F : AF} {G : AG} {Q : AQ} {a0 : Nat} (h : V_X10_init_163 d S F G Q a0) : Go d MX10_init 163 [some (vR a0)] [] S F G Q := by
  unfold V_X10_init_163 at h
  refine go_aload_n (show decode cX10_init 163 = .ok (.aload_n 0, 1) by decide +kernel) (by rfl) ?_
  refine go_sipush (show decode cX10_init 164 = .ok (.sipush 500, 3) by decide +kernel) (by decide) ?_
  obtain ⟨q1, h⟩ := h
  refine go_newa (K := 22) (show decode cX10_init 167 = .ok (.newarray .byte, 2) by decide +kernel) rfl (by decide) ar_22 (by decide) (by decide) q1 ?_
  show Go d MX10_init 169 [some (vR a0)] [vR (sn S + 1), vR a0] (na S 22 500 500) (nF S F) (nG S G) Q
  obtain ⟨x2, x2e⟩ : ∃ x2 : Nat, x2 = sn S + 1 := ⟨_, rfl⟩
  have h := h x2 x2e
  rw [← x2e]
  obtain ⟨S3, S3e⟩ : ∃ S3 : AS, S3 = na S 22 500 500 := ⟨_, rfl⟩
  have h := h S3 S3e
  rw [← S3e]
  obtain ⟨F4, F4e⟩ : ∃ F4 : AF, F4 = nF S F := ⟨_, rfl⟩
  have h := h F4 F4e
  rw [← F4e]
  obtain ⟨G5, G5e⟩ : ∃ G5 : AG, G5 = nG S G := ⟨_, rfl⟩
  have h := h G5 G5e
  rw [← G5e]
  obtain ⟨q6, h⟩ := h
  obtain ⟨q7, h⟩ := h
  refine go_putR (show decode cX10_init 169 = .ok (.putfield 83, 3) by decide +kernel) fl_X10_83 rfl (Or.inr ⟨rfl, rfl⟩) q6 q7 ?_
  obtain ⟨S8, S8e⟩ : ∃ S8 : AS, S8 = ru S3 a0 33 x2 := ⟨_, rfl⟩
  have h := h S8 S8e
  rw [← S8e]
  refine go_aload_n (show decode cX10_init 172 = .ok (.aload_n 0, 1) by decide +kernel) (by rfl) ?_
  refine go_iconst (show decode cX10_init 173 = .ok (.iconst (-1), 1) by decide +kernel) (by decide) ?_
  obtain ⟨q9, h⟩ := h
  refine go_putI (show decode cX10_init 174 = .ok (.putfield 87, 3) by decide +kernel) fl_X10_87 rfl (Or.inl rfl) q9 ?_
  obtain ⟨F10, F10e⟩ : ∃ F10 : AF, F10 = fu F4 a0 38 (-1) := ⟨_, rfl⟩
  have h := h F10 F10e
  rw [← F10e]
  refine go_aload_n (show decode cX10_init 177 = .ok (.aload_n 0, 1) by decide +kernel) (by rfl) ?_
  refine go_sipush (show decode cX10_init 178 = .ok (.sipush 210, 3) by decide +kernel) (by decide) ?_
  obtain ⟨q11, h⟩ := h
  refine go_newa (K := 21) (show decode cX10_init 181 = .ok (.newarray .long, 2) by decide +kernel) rfl (by decide) ar_21 (by decide) (by decide) q11 ?_
  show Go d MX10_init 183 [some (vR a0)] [vR (sn S8 + 1), vR a0] (na S8 21 210 210) (nF S8 F10) (nG S8 G5) Q
  obtain ⟨x12, x12e⟩ : ∃ x12 : Nat, x12 = sn S8 + 1 := ⟨_, rfl⟩
  have h := h x12 x12e
  rw [← x12e]
  obtain ⟨S13, S13e⟩ : ∃ S13 : AS, S13 = na S8 21 210 210 := ⟨_, rfl⟩
  have h := h S13 S13e
  rw [← S13e]
  obtain ⟨F14, F14e⟩ : ∃ F14 : AF, F14 = nF S8 F10 := ⟨_, rfl⟩
  have h := h F14 F14e
  rw [← F14e]
  obtain ⟨G15, G15e⟩ : ∃ G15 : AG, G15 = nG S8 G5 := ⟨_, rfl⟩
  have h := h G15 G15e
  rw [← G15e]
  obtain ⟨q16, h⟩ := h
  obtain ⟨q17, h⟩ := h
  refine go_putR (show decode cX10_init 183 = .ok (.putfield 90, 3) by decide +kernel) fl_X10_90 rfl (Or.inr ⟨rfl, rfl⟩) q16 q17 ?_
  obtain ⟨S18, S18e⟩ : ∃ S18 : AS, S18 = ru S13 a0 40 x12 := ⟨_, rfl⟩
  have h := h S18 S18e
  rw [← S18e]
  exact R_X10_init_186 h
set_option maxRecDepth 50000 in
def V_X10_init_139 (d : Nat) (S : AS) (F : AF) (G : AG) (Q : AQ) (a0 : Nat) : Prop :=
  (sn S < 999998) ∧
  ∀ x2 : Nat, x2 = sn S + 1 →
  ∀ S3 : AS, S3 = na S 20 2 2 →
  ∀ F4 : AF, F4 = nF S F →
  ∀ G5 : AG, G5 = nG S G →
  (sK S3 a0 = 10) ∧
  (x2 ≤ sn S3) ∧
  ∀ S8 : AS, S8 = ru S3 a0 29 x2 →
  (sn S8 < 999998) ∧
  ∀ x10 : Nat, x10 = sn S8 + 1 →
  ∀ S11 : AS, S11 = na S8 21 2304 2304 →
  ∀ F12 : AF, F12 = nF S8 F4 →
  ∀ G13 : AG, G13 = nG S8 G5 →
  (sK S11 a0 = 10) ∧
  (x10 ≤ sn S11) ∧
  ∀ S16 : AS, S16 = ru S11 a0 30 x10 →
  (sn S16 < 999998) ∧
  ∀ x18 : Nat, x18 = sn S16 + 1 →
  ∀ S19 : AS, S19 = na S16 20 64 64 →
  ∀ F20 : AF, F20 = nF S16 F12 →
  ∀ G21 : AG, G21 = nG S16 G13 →
  (sK S19 a0 = 10) ∧
  (x18 ≤ sn S19) ∧
  ∀ S24 : AS, S24 = ru S19 a0 31 x18 →
  V_X10_init_163 d S24 F20 G21 Q a0
set_option maxRecDepth 50000 in
theorem R_X10_init_139 {d : Nat} {S : AS} {F : AF} {G : AG} {Q : AQ} {a0 : Nat} (h : V_X10_init_139 d S F G Q a0) : Go d MX10_init 139 [some (vR a0)] [] S F G Q := by
  unfold V_X10_init_139 at h
  refine go_aload_n (show decode cX10_init 139 = .ok (.aload_n 0, 1) by decide +kernel) (by rfl) ?_
  refine go_iconst (show decode cX10_init 140 = .ok (.iconst 2, 1) by decide +kernel) (by decide) ?_
  obtain ⟨q1, h⟩ := h
  refine go_newa (K := 20) (show decode cX10_init 141 = .ok (.newarray .int, 2) by decide +kernel) rfl (by decide) ar_20 (by decide) (by decide) q1 ?_
  show Go d MX10_init 143 [some (vR a0)] [vR (sn S + 1), vR a0] (na S 20 2 2) (nF S F) (nG S G) Q
  obtain ⟨x2, x2e⟩ : ∃ x2 : Nat, x2 = sn S + 1 := ⟨_, rfl⟩
  have h := h x2 x2e
  rw [← x2e]
  obtain ⟨S3, S3e⟩ : ∃ S3 : AS, S3 = na S 20 2 2 := ⟨_, rfl⟩
  have h := h S3 S3e
  rw [← S3e]
  obtain ⟨F4, F4e⟩ : ∃ F4 : AF, F4 = nF S F := ⟨_, rfl⟩
  have h := h F4 F4e
  rw [← F4e]
  obtain ⟨G5, G5e⟩ : ∃ G5 : AG, G5 = nG S G := ⟨_, rfl⟩
  have h := h G5 G5e
  rw [← G5e]
  obtain ⟨q6, h⟩ := h
  obtain ⟨q7, h⟩ := h
  refine go_putR (show decode cX10_init 143 = .ok (.putfield 74, 3) by decide +kernel) fl_X10_74 rfl (Or.inr ⟨rfl, rfl⟩) q6 q7 ?_
  obtain ⟨S8, S8e⟩ : ∃ S8 : AS, S8 = ru S3 a0 29 x2 := ⟨_, rfl⟩
  have h := h S8 S8e
  rw [← S8e]
  refine go_aload_n (show decode cX10_init 146 = .ok (.aload_n 0, 1) by decide +kernel) (by rfl) ?_
  refine go_sipush (show decode cX10_init 147 = .ok (.sipush 2304, 3) by decide +kernel) (by decide) ?_
  obtain ⟨q9, h⟩ := h
  refine go_newa (K := 21) (show decode cX10_init 150 = .ok (.newarray .long, 2) by decide +kernel) rfl (by decide) ar_21 (by decide) (by decide) q9 ?_
  show Go d MX10_init 152 [some (vR a0)] [vR (sn S8 + 1), vR a0] (na S8 21 2304 2304) (nF S8 F4) (nG S8 G5) Q
  obtain ⟨x10, x10e⟩ : ∃ x10 : Nat, x10 = sn S8 + 1 := ⟨_, rfl⟩
  have h := h x10 x10e
  rw [← x10e]
  obtain ⟨S11, S11e⟩ : ∃ S11 : AS, S11 = na S8 21 2304 2304 := ⟨_, rfl⟩
  have h := h S11 S11e
  rw [← S11e]
  obtain ⟨F12, F12e⟩ : ∃ F12 : AF, F12 = nF S8 F4 := ⟨_, rfl⟩
  have h := h F12 F12e
  rw [← F12e]
  obtain ⟨G13, G13e⟩ : ∃ G13 : AG, G13 = nG S8 G5 := ⟨_, rfl⟩
  have h := h G13 G13e
  rw [← G13e]
  obtain ⟨q14, h⟩ := h
  obtain ⟨q15, h⟩ := h
  refine go_putR (show decode cX10_init 152 = .ok (.putfield 77, 3) by decide +kernel) fl_X10_77 rfl (Or.inr ⟨rfl, rfl⟩) q14 q15 ?_
  obtain ⟨S16, S16e⟩ : ∃ S16 : AS, S16 = ru S11 a0 30 x10 := ⟨_, rfl⟩
  have h := h S16 S16e
  rw [← S16e]
  refine go_aload_n (show decode cX10_init 155 = .ok (.aload_n 0, 1) by decide +kernel) (by rfl) ?_
  refine go_bipush (show decode cX10_init 156 = .ok (.bipush 64, 2) by decide +kernel) (by decide) ?_
  obtain ⟨q17, h⟩ := h
  refine go_newa (K := 20) (show decode cX10_init 158 = .ok (.newarray .int, 2) by decide +kernel) rfl (by decide) ar_20 (by decide) (by decide) q17 ?_
  show Go d MX10_init 160 [some (vR a0)] [vR (sn S16 + 1), vR a0] (na S16 20 64 64) (nF S16 F12) (nG S16 G13) Q
  obtain ⟨x18, x18e⟩ : ∃ x18 : Nat, x18 = sn S16 + 1 := ⟨_, rfl⟩
  have h := h x18 x18e
  rw [← x18e]
  obtain ⟨S19, S19e⟩ : ∃ S19 : AS, S19 = na S16 20 64 64 := ⟨_, rfl⟩
  have h := h S19 S19e
  rw [← S19e]
  obtain ⟨F20, F20e⟩ : ∃ F20 : AF, F20 = nF S16 F12 := ⟨_, rfl⟩
  have h := h F20 F20e
  rw [← F20e]
  obtain ⟨G21, G21e⟩ : ∃ G21 : AG, G21 = nG S16 G13 := ⟨_, rfl⟩
  have h := h G21 G21e
  rw [← G21e]
  obtain ⟨q22, h⟩ := h
  obtain ⟨q23, h⟩ := h
  refine go_putR (show decode cX10_init 160 = .ok (.putfield 80, 3) by decide +kernel) fl_X10_80 rfl (Or.inr ⟨rfl, rfl⟩) q22 q23 ?_
  obtain ⟨S24, S24e⟩ : ∃ S24 : AS, S24 = ru S19 a0 31 x18 := ⟨_, rfl⟩
  have h := h S24 S24e
  rw [← S24e]
  exact R_X10_init_163 h
set_option maxRecDepth 50000 in
def V_X10_init_116 (d : Nat) (S : AS) (F : AF) (G : AG) (Q : AQ) (a0 : Nat) : Prop :=
  (sn S < 999998) ∧
  ∀ x2 : Nat, x2 = sn S + 1 →
  ∀ S3 : AS, S3 = na S 20 2 2 →
  ∀ F4 : AF, F4 = nF S F →
  ∀ G5 : AG, G5 = nG S G →
  (sK S3 a0 = 10) ∧
  (x2 ≤ sn S3) ∧
  ∀ S8 : AS, S8 = ru S3 a0 18 x2 →
  (sn S8 < 999998) ∧
  ∀ x10 : Nat, x10 = sn S8 + 1 →
  ∀ S11 : AS, S11 = na S8 20 64 64 →
  ∀ F12 : AF, F12 = nF S8 F4 →
  ∀ G13 : AG, G13 = nG S8 G5 →
  (sK S11 a0 = 10) ∧
  (x10 ≤ sn S11) ∧
  ∀ S16 : AS, S16 = ru S11 a0 19 x10 →
  (sn S16 < 999998) ∧
  ∀ x18 : Nat, x18 = sn S16 + 1 →
  ∀ S19 : AS, S19 = na S16 20 96 96 →
  ∀ F20 : AF, F20 = nF S16 F12 →
  ∀ G21 : AG, G21 = nG S16 G13 →
  (sK S19 a0 = 10) ∧
  (x18 ≤ sn S19) ∧
  ∀ S24 : AS, S24 = ru S19 a0 28 x18 →
  V_X10_init_139 d S24 F20 G21 Q a0
set_option maxRecDepth 50000 in
theorem R_X10_init_116 {d : Nat} {S : AS} {F : AF} {G : AG} {Q : AQ} {a0 : Nat} (h : V_X10_init_116 d S F G Q a0) : Go d MX10_init 116 [some (vR a0)] [] S F G Q := by
  unfold V_X10_init_116 at h
  refine go_aload_n (show decode cX10_init 116 = .ok (.aload_n 0, 1) by decide +kernel) (by rfl) ?_
  refine go_iconst (show decode cX10_init 117 = .ok (.iconst 2, 1) by decide +kernel) (by decide) ?_
  obtain ⟨q1, h⟩ := h
  refine go_newa (K := 20) (show decode cX10_init 118 = .ok (.newarray .int, 2) by decide +kernel) rfl (by decide) ar_20 (by decide) (by decide) q1 ?_
  show Go d MX10_init 120 [some (vR a0)] [vR (sn S + 1), vR a0] (na S 20 2 2) (nF S F) (nG S G) Q
  obtain ⟨x2, x2e⟩ : ∃ x2 : Nat, x2 = sn S + 1 := ⟨_, rfl⟩
  have h := h x2 x2e
  rw [← x2e]
  obtain ⟨S3, S3e⟩ : ∃ S3 : AS, S3 = na S 20 2 2 := ⟨_, rfl⟩
  have h := h S3 S3e
  rw [← S3e]
  obtain ⟨F4, F4e⟩ : ∃ F4 : AF, F4 = nF S F := ⟨_, rfl⟩
  have h := h F4 F4e
  rw [← F4e]
  obtain ⟨G5, G5e⟩ : ∃ G5 : AG, G5 = nG S G := ⟨_, rfl⟩
  have h := h G5 G5e
  rw [← G5e]
  obtain ⟨q6, h⟩ := h
  obtain ⟨q7, h⟩ := h
  refine go_putR (show decode cX10_init 120 = .ok (.putfield 65, 3) by decide +kernel) fl_X10_65 rfl (Or.inr ⟨rfl, rfl⟩) q6 q7 ?_
  obtain ⟨S8, S8e⟩ : ∃ S8 : AS, S8 = ru S3 a0 18 x2 := ⟨_, rfl⟩
  have h := h S8 S8e
  rw [← S8e]
  refine go_aload_n (show decode cX10_init 123 = .ok (.aload_n 0, 1) by decide +kernel) (by rfl) ?_
  refine go_bipush (show decode cX10_init 124 = .ok (.bipush 64, 2) by decide +kernel) (by decide) ?_
  obtain ⟨q9, h⟩ := h
  refine go_newa (K := 20) (show decode cX10_init 126 = .ok (.newarray .int, 2) by decide +kernel) rfl (by decide) ar_20 (by decide) (by decide) q9 ?_
  show Go d MX10_init 128 [some (vR a0)] [vR (sn S8 + 1), vR a0] (na S8 20 64 64) (nF S8 F4) (nG S8 G5) Q
  obtain ⟨x10, x10e⟩ : ∃ x10 : Nat, x10 = sn S8 + 1 := ⟨_, rfl⟩
  have h := h x10 x10e
  rw [← x10e]
  obtain ⟨S11, S11e⟩ : ∃ S11 : AS, S11 = na S8 20 64 64 := ⟨_, rfl⟩
  have h := h S11 S11e
  rw [← S11e]
  obtain ⟨F12, F12e⟩ : ∃ F12 : AF, F12 = nF S8 F4 := ⟨_, rfl⟩
  have h := h F12 F12e
  rw [← F12e]
  obtain ⟨G13, G13e⟩ : ∃ G13 : AG, G13 = nG S8 G5 := ⟨_, rfl⟩
  have h := h G13 G13e
  rw [← G13e]
  obtain ⟨q14, h⟩ := h
  obtain ⟨q15, h⟩ := h
  refine go_putR (show decode cX10_init 128 = .ok (.putfield 68, 3) by decide +kernel) fl_X10_68 rfl (Or.inr ⟨rfl, rfl⟩) q14 q15 ?_
  obtain ⟨S16, S16e⟩ : ∃ S16 : AS, S16 = ru S11 a0 19 x10 := ⟨_, rfl⟩
  have h := h S16 S16e
  rw [← S16e]
  refine go_aload_n (show decode cX10_init 131 = .ok (.aload_n 0, 1) by decide +kernel) (by rfl) ?_
  refine go_bipush (show decode cX10_init 132 = .ok (.bipush 96, 2) by decide +kernel) (by decide) ?_
  obtain ⟨q17, h⟩ := h
  refine go_newa (K := 20) (show decode cX10_init 134 = .ok (.newarray .int, 2) by decide +kernel) rfl (by decide) ar_20 (by decide) (by decide) q17 ?_
  show Go d MX10_init 136 [some (vR a0)] [vR (sn S16 + 1), vR a0] (na S16 20 96 96) (nF S16 F12) (nG S16 G13) Q
  obtain ⟨x18, x18e⟩ : ∃ x18 : Nat, x18 = sn S16 + 1 := ⟨_, rfl⟩
  have h := h x18 x18e
  rw [← x18e]
  obtain ⟨S19, S19e⟩ : ∃ S19 : AS, S19 = na S16 20 96 96 := ⟨_, rfl⟩
  have h := h S19 S19e
  rw [← S19e]
  obtain ⟨F20, F20e⟩ : ∃ F20 : AF, F20 = nF S16 F12 := ⟨_, rfl⟩
  have h := h F20 F20e
  rw [← F20e]
  obtain ⟨G21, G21e⟩ : ∃ G21 : AG, G21 = nG S16 G13 := ⟨_, rfl⟩
  have h := h G21 G21e
  rw [← G21e]
  obtain ⟨q22, h⟩ := h
  obtain ⟨q23, h⟩ := h
  refine go_putR (show decode cX10_init 136 = .ok (.putfield 71, 3) by decide +kernel) fl_X10_71 rfl (Or.inr ⟨rfl, rfl⟩) q22 q23 ?_
  obtain ⟨S24, S24e⟩ : ∃ S24 : AS, S24 = ru S19 a0 28 x18 := ⟨_, rfl⟩
  have h := h S24 S24e
  rw [← S24e]
  exact R_X10_init_139 h
set_option maxRecDepth 50000 in
def V_X10_init_92 (d : Nat) (S : AS) (F : AF) (G : AG) (Q : AQ) (a0 : Nat) : Prop :=
  (sn S < 999998) ∧
  ∀ x2 : Nat, x2 = sn S + 1 →
  ∀ S3 : AS, S3 = na S 20 24 24 →
  ∀ F4 : AF, F4 = nF S F →
  ∀ G5 : AG, G5 = nG S G →
  (sK S3 a0 = 10) ∧
  (x2 ≤ sn S3) ∧
  ∀ S8 : AS, S8 = ru S3 a0 15 x2 →
  (sn S8 < 999998) ∧
  ∀ x10 : Nat, x10 = sn S8 + 1 →
  ∀ S11 : AS, S11 = na S8 21 6 6 →
  ∀ F12 : AF, F12 = nF S8 F4 →
  ∀ G13 : AG, G13 = nG S8 G5 →
  (sK S11 a0 = 10) ∧
  (x10 ≤ sn S11) ∧
  ∀ S16 : AS, S16 = ru S11 a0 16 x10 →
  (sn S16 < 999998) ∧
  ∀ x18 : Nat, x18 = sn S16 + 1 →
  ∀ S19 : AS, S19 = na S16 23 6 6 →
  ∀ F20 : AF, F20 = nF S16 F12 →
  ∀ G21 : AG, G21 = nG S16 G13 →
  (sK S19 a0 = 10) ∧
  (x18 ≤ sn S19) ∧
  ∀ S24 : AS, S24 = ru S19 a0 17 x18 →
  V_X10_init_116 d S24 F20 G21 Q a0
set_option maxRecDepth 50000 in
theorem R_X10_init_92 {d : Nat} {S : AS} {F : AF} {G : AG} {Q : AQ} {a0 : Nat} (h : V_X10_init_92 d S F G Q a0) : Go d MX10_init 92 [some (vR a0)] [] S F G Q := by
  unfold V_X10_init_92 at h
  refine go_aload_n (show decode cX10_init 92 = .ok (.aload_n 0, 1) by decide +kernel) (by rfl) ?_
  refine go_bipush (show decode cX10_init 93 = .ok (.bipush 24, 2) by decide +kernel) (by decide) ?_
  obtain ⟨q1, h⟩ := h
  refine go_newa (K := 20) (show decode cX10_init 95 = .ok (.newarray .int, 2) by decide +kernel) rfl (by decide) ar_20 (by decide) (by decide) q1 ?_
  show Go d MX10_init 97 [some (vR a0)] [vR (sn S + 1), vR a0] (na S 20 24 24) (nF S F) (nG S G) Q
  obtain ⟨x2, x2e⟩ : ∃ x2 : Nat, x2 = sn S + 1 := ⟨_, rfl⟩
  have h := h x2 x2e
  rw [← x2e]
  obtain ⟨S3, S3e⟩ : ∃ S3 : AS, S3 = na S 20 24 24 := ⟨_, rfl⟩
  have h := h S3 S3e
  rw [← S3e]
  obtain ⟨F4, F4e⟩ : ∃ F4 : AF, F4 = nF S F := ⟨_, rfl⟩
  have h := h F4 F4e
  rw [← F4e]
  obtain ⟨G5, G5e⟩ : ∃ G5 : AG, G5 = nG S G := ⟨_, rfl⟩
  have h := h G5 G5e
  rw [← G5e]
  obtain ⟨q6, h⟩ := h
  obtain ⟨q7, h⟩ := h
  refine go_putR (show decode cX10_init 97 = .ok (.putfield 55, 3) by decide +kernel) fl_X10_55 rfl (Or.inr ⟨rfl, rfl⟩) q6 q7 ?_
  obtain ⟨S8, S8e⟩ : ∃ S8 : AS, S8 = ru S3 a0 15 x2 := ⟨_, rfl⟩
  have h := h S8 S8e
  rw [← S8e]
  refine go_aload_n (show decode cX10_init 100 = .ok (.aload_n 0, 1) by decide +kernel) (by rfl) ?_
  refine go_bipush (show decode cX10_init 101 = .ok (.bipush 6, 2) by decide +kernel) (by decide) ?_
  obtain ⟨q9, h⟩ := h
  refine go_newa (K := 21) (show decode cX10_init 103 = .ok (.newarray .long, 2) by decide +kernel) rfl (by decide) ar_21 (by decide) (by decide) q9 ?_
  show Go d MX10_init 105 [some (vR a0)] [vR (sn S8 + 1), vR a0] (na S8 21 6 6) (nF S8 F4) (nG S8 G5) Q
  obtain ⟨x10, x10e⟩ : ∃ x10 : Nat, x10 = sn S8 + 1 := ⟨_, rfl⟩
  have h := h x10 x10e
  rw [← x10e]
  obtain ⟨S11, S11e⟩ : ∃ S11 : AS, S11 = na S8 21 6 6 := ⟨_, rfl⟩
  have h := h S11 S11e
  rw [← S11e]
  obtain ⟨F12, F12e⟩ : ∃ F12 : AF, F12 = nF S8 F4 := ⟨_, rfl⟩
  have h := h F12 F12e
  rw [← F12e]
  obtain ⟨G13, G13e⟩ : ∃ G13 : AG, G13 = nG S8 G5 := ⟨_, rfl⟩
  have h := h G13 G13e
  rw [← G13e]
  obtain ⟨q14, h⟩ := h
  obtain ⟨q15, h⟩ := h
  refine go_putR (show decode cX10_init 105 = .ok (.putfield 58, 3) by decide +kernel) fl_X10_58 rfl (Or.inr ⟨rfl, rfl⟩) q14 q15 ?_
  obtain ⟨S16, S16e⟩ : ∃ S16 : AS, S16 = ru S11 a0 16 x10 := ⟨_, rfl⟩
  have h := h S16 S16e
  rw [← S16e]
  refine go_aload_n (show decode cX10_init 108 = .ok (.aload_n 0, 1) by decide +kernel) (by rfl) ?_
  refine go_bipush (show decode cX10_init 109 = .ok (.bipush 6, 2) by decide +kernel) (by decide) ?_
  obtain ⟨q17, h⟩ := h
  refine go_newa (K := 23) (show decode cX10_init 111 = .ok (.newarray .boolean, 2) by decide +kernel) rfl (by decide) ar_23 (by decide) (by decide) q17 ?_
  show Go d MX10_init 113 [some (vR a0)] [vR (sn S16 + 1), vR a0] (na S16 23 6 6) (nF S16 F12) (nG S16 G13) Q
  obtain ⟨x18, x18e⟩ : ∃ x18 : Nat, x18 = sn S16 + 1 := ⟨_, rfl⟩
  have h := h x18 x18e
  rw [← x18e]
  obtain ⟨S19, S19e⟩ : ∃ S19 : AS, S19 = na S16 23 6 6 := ⟨_, rfl⟩
  have h := h S19 S19e
  rw [← S19e]
  obtain ⟨F20, F20e⟩ : ∃ F20 : AF, F20 = nF S16 F12 := ⟨_, rfl⟩
  have h := h F20 F20e
  rw [← F20e]
  obtain ⟨G21, G21e⟩ : ∃ G21 : AG, G21 = nG S16 G13 := ⟨_, rfl⟩
  have h := h G21 G21e
  rw [← G21e]
  obtain ⟨q22, h⟩ := h
  obtain ⟨q23, h⟩ := h
  refine go_putR (show decode cX10_init 113 = .ok (.putfield 61, 3) by decide +kernel) fl_X10_61 rfl (Or.inr ⟨rfl, rfl⟩) q22 q23 ?_
  obtain ⟨S24, S24e⟩ : ∃ S24 : AS, S24 = ru S19 a0 17 x18 := ⟨_, rfl⟩
  have h := h S24 S24e
  rw [← S24e]
  exact R_X10_init_116 h
set_option maxRecDepth 50000 in
def V_X10_init_67 (d : Nat) (S : AS) (F : AF) (G : AG) (Q : AQ) (a0 : Nat) : Prop :=
  (sn S < 999998) ∧
  ∀ x2 : Nat, x2 = sn S + 1 →
  ∀ S3 : AS, S3 = na S 21 24 24 →
  ∀ F4 : AF, F4 = nF S F →
  ∀ G5 : AG, G5 = nG S G →
  (sK S3 a0 = 10) ∧
  (x2 ≤ sn S3) ∧
  ∀ S8 : AS, S8 = ru S3 a0 10 x2 →
  (sn S8 < 999998) ∧
  ∀ x10 : Nat, x10 = sn S8 + 1 →
  ∀ S11 : AS, S11 = na S8 20 8 8 →
  ∀ F12 : AF, F12 = nF S8 F4 →
  ∀ G13 : AG, G13 = nG S8 G5 →
  (sK S11 a0 = 10) ∧
  (x10 ≤ sn S11) ∧
  ∀ S16 : AS, S16 = ru S11 a0 12 x10 →
  (sn S16 < 999998) ∧
  ∀ x18 : Nat, x18 = sn S16 + 1 →
  ∀ S19 : AS, S19 = na S16 21 280 280 →
  ∀ F20 : AF, F20 = nF S16 F12 →
  ∀ G21 : AG, G21 = nG S16 G13 →
  (sK S19 a0 = 10) ∧
  (x18 ≤ sn S19) ∧
  ∀ S24 : AS, S24 = ru S19 a0 13 x18 →
  V_X10_init_92 d S24 F20 G21 Q a0
set_option maxRecDepth 50000 in
theorem R_X10_init_67 {d : Nat} {S : AS} {F : AF} {G : AG} {Q : AQ} {a0 : Nat} (h : V_X10_init_67 d S F G Q a0) : Go d MX10_init 67 [some (vR a0)] [] S F G Q := by
  unfold V_X10_init_67 at h
  refine go_aload_n (show decode cX10_init 67 = .ok (.aload_n 0, 1) by decide +kernel) (by rfl) ?_
  refine go_bipush (show decode cX10_init 68 = .ok (.bipush 24, 2) by decide +kernel) (by decide) ?_
  obtain ⟨q1, h⟩ := h
  refine go_newa (K := 21) (show decode cX10_init 70 = .ok (.newarray .long, 2) by decide +kernel) rfl (by decide) ar_21 (by decide) (by decide) q1 ?_
  show Go d MX10_init 72 [some (vR a0)] [vR (sn S + 1), vR a0] (na S 21 24 24) (nF S F) (nG S G) Q
  obtain ⟨x2, x2e⟩ : ∃ x2 : Nat, x2 = sn S + 1 := ⟨_, rfl⟩
  have h := h x2 x2e
  rw [← x2e]
  obtain ⟨S3, S3e⟩ : ∃ S3 : AS, S3 = na S 21 24 24 := ⟨_, rfl⟩
  have h := h S3 S3e
  rw [← S3e]
  obtain ⟨F4, F4e⟩ : ∃ F4 : AF, F4 = nF S F := ⟨_, rfl⟩
  have h := h F4 F4e
  rw [← F4e]
  obtain ⟨G5, G5e⟩ : ∃ G5 : AG, G5 = nG S G := ⟨_, rfl⟩
  have h := h G5 G5e
  rw [← G5e]
  obtain ⟨q6, h⟩ := h
  obtain ⟨q7, h⟩ := h
  refine go_putR (show decode cX10_init 72 = .ok (.putfield 46, 3) by decide +kernel) fl_X10_46 rfl (Or.inr ⟨rfl, rfl⟩) q6 q7 ?_
  obtain ⟨S8, S8e⟩ : ∃ S8 : AS, S8 = ru S3 a0 10 x2 := ⟨_, rfl⟩
  have h := h S8 S8e
  rw [← S8e]
  refine go_aload_n (show decode cX10_init 75 = .ok (.aload_n 0, 1) by decide +kernel) (by rfl) ?_
  refine go_bipush (show decode cX10_init 76 = .ok (.bipush 8, 2) by decide +kernel) (by decide) ?_
  obtain ⟨q9, h⟩ := h
  refine go_newa (K := 20) (show decode cX10_init 78 = .ok (.newarray .int, 2) by decide +kernel) rfl (by decide) ar_20 (by decide) (by decide) q9 ?_
  show Go d MX10_init 80 [some (vR a0)] [vR (sn S8 + 1), vR a0] (na S8 20 8 8) (nF S8 F4) (nG S8 G5) Q
  obtain ⟨x10, x10e⟩ : ∃ x10 : Nat, x10 = sn S8 + 1 := ⟨_, rfl⟩
  have h := h x10 x10e
  rw [← x10e]
  obtain ⟨S11, S11e⟩ : ∃ S11 : AS, S11 = na S8 20 8 8 := ⟨_, rfl⟩
  have h := h S11 S11e
  rw [← S11e]
  obtain ⟨F12, F12e⟩ : ∃ F12 : AF, F12 = nF S8 F4 := ⟨_, rfl⟩
  have h := h F12 F12e
  rw [← F12e]
  obtain ⟨G13, G13e⟩ : ∃ G13 : AG, G13 = nG S8 G5 := ⟨_, rfl⟩
  have h := h G13 G13e
  rw [← G13e]
  obtain ⟨q14, h⟩ := h
  obtain ⟨q15, h⟩ := h
  refine go_putR (show decode cX10_init 80 = .ok (.putfield 49, 3) by decide +kernel) fl_X10_49 rfl (Or.inr ⟨rfl, rfl⟩) q14 q15 ?_
  obtain ⟨S16, S16e⟩ : ∃ S16 : AS, S16 = ru S11 a0 12 x10 := ⟨_, rfl⟩
  have h := h S16 S16e
  rw [← S16e]
  refine go_aload_n (show decode cX10_init 83 = .ok (.aload_n 0, 1) by decide +kernel) (by rfl) ?_
  refine go_sipush (show decode cX10_init 84 = .ok (.sipush 280, 3) by decide +kernel) (by decide) ?_
  obtain ⟨q17, h⟩ := h
  refine go_newa (K := 21) (show decode cX10_init 87 = .ok (.newarray .long, 2) by decide +kernel) rfl (by decide) ar_21 (by decide) (by decide) q17 ?_
  show Go d MX10_init 89 [some (vR a0)] [vR (sn S16 + 1), vR a0] (na S16 21 280 280) (nF S16 F12) (nG S16 G13) Q
  obtain ⟨x18, x18e⟩ : ∃ x18 : Nat, x18 = sn S16 + 1 := ⟨_, rfl⟩
  have h := h x18 x18e
  rw [← x18e]
  obtain ⟨S19, S19e⟩ : ∃ S19 : AS, S19 = na S16 21 280 280 := ⟨_, rfl⟩
  have h := h S19 S19e
  rw [← S19e]
  obtain ⟨F20, F20e⟩ : ∃ F20 : AF, F20 = nF S16 F12 := ⟨_, rfl⟩
  have h := h F20 F20e
  rw [← F20e]
  obtain ⟨G21, G21e⟩ : ∃ G21 : AG, G21 = nG S16 G13 := ⟨_, rfl⟩
  have h := h G21 G21e
  rw [← G21e]
  obtain ⟨q22, h⟩ := h
  obtain ⟨q23, h⟩ := h
  refine go_putR (show decode cX10_init 89 = .ok (.putfield 52, 3) by decide +kernel) fl_X10_52 rfl (Or.inr ⟨rfl, rfl⟩) q22 q23 ?_
  obtain ⟨S24, S24e⟩ : ∃ S24 : AS, S24 = ru S19 a0 13 x18 := ⟨_, rfl⟩
  have h := h S24 S24e
  rw [← S24e]
  exact R_X10_init_92 h
set_option maxRecDepth 50000 in
def V_X10_init_43 (d : Nat) (S : AS) (F : AF) (G : AG) (Q : AQ) (a0 : Nat) : Prop :=
  (sn S < 999998) ∧
  ∀ x2 : Nat, x2 = sn S + 1 →
  ∀ S3 : AS, S3 = na S 21 6912 6912 →
  ∀ F4 : AF, F4 = nF S F →
  ∀ G5 : AG, G5 = nG S G →
  (sK S3 a0 = 10) ∧
  (x2 ≤ sn S3) ∧
  ∀ S8 : AS, S8 = ru S3 a0 7 x2 →
  (sn S8 < 999998) ∧
  ∀ x10 : Nat, x10 = sn S8 + 1 →
  ∀ S11 : AS, S11 = na S8 21 55296 55296 →
  ∀ F12 : AF, F12 = nF S8 F4 →
  ∀ G13 : AG, G13 = nG S8 G5 →
  (sK S11 a0 = 10) ∧
  (x10 ≤ sn S11) ∧
  ∀ S16 : AS, S16 = ru S11 a0 8 x10 →
  (sn S16 < 999998) ∧
  ∀ x18 : Nat, x18 = sn S16 + 1 →
  ∀ S19 : AS, S19 = na S16 21 3 3 →
  ∀ F20 : AF, F20 = nF S16 F12 →
  ∀ G21 : AG, G21 = nG S16 G13 →
  (sK S19 a0 = 10) ∧
  (x18 ≤ sn S19) ∧
  ∀ S24 : AS, S24 = ru S19 a0 9 x18 →
  V_X10_init_67 d S24 F20 G21 Q a0
set_option maxRecDepth 50000 in
theorem R_X10_init_43 {d : Nat} {S : AS} {F : AF} {G : AG} {Q : AQ} {a0 : Nat} (h : V_X10_init_43 d S F G Q a0) : Go d MX10_init 43 [some (vR a0)] [] S F G Q := by
  unfold V_X10_init_43 at h
  refine go_aload_n (show decode cX10_init 43 = .ok (.aload_n 0, 1) by decide +kernel) (by rfl) ?_
  refine go_sipush (show decode cX10_init 44 = .ok (.sipush 6912, 3) by decide +kernel) (by decide) ?_
  obtain ⟨q1, h⟩ := h
  refine go_newa (K := 21) (show decode cX10_init 47 = .ok (.newarray .long, 2) by decide +kernel) rfl (by decide) ar_21 (by decide) (by decide) q1 ?_
  show Go d MX10_init 49 [some (vR a0)] [vR (sn S + 1), vR a0] (na S 21 6912 6912) (nF S F) (nG S G) Q
  obtain ⟨x2, x2e⟩ : ∃ x2 : Nat, x2 = sn S + 1 := ⟨_, rfl⟩
  have h := h x2 x2e
  rw [← x2e]
  obtain ⟨S3, S3e⟩ : ∃ S3 : AS, S3 = na S 21 6912 6912 := ⟨_, rfl⟩
  have h := h S3 S3e
  rw [← S3e]
  obtain ⟨F4, F4e⟩ : ∃ F4 : AF, F4 = nF S F := ⟨_, rfl⟩
  have h := h F4 F4e
  rw [← F4e]
  obtain ⟨G5, G5e⟩ : ∃ G5 : AG, G5 = nG S G := ⟨_, rfl⟩
  have h := h G5 G5e
  rw [← G5e]
  obtain ⟨q6, h⟩ := h
  obtain ⟨q7, h⟩ := h
  refine go_putR (show decode cX10_init 49 = .ok (.putfield 35, 3) by decide +kernel) fl_X10_35 rfl (Or.inr ⟨rfl, rfl⟩) q6 q7 ?_
  obtain ⟨S8, S8e⟩ : ∃ S8 : AS, S8 = ru S3 a0 7 x2 := ⟨_, rfl⟩
  have h := h S8 S8e
  rw [← S8e]
  refine go_aload_n (show decode cX10_init 52 = .ok (.aload_n 0, 1) by decide +kernel) (by rfl) ?_
  refine go_ldc (show decode cX10_init 53 = .ok (.ldc 39, 2) by decide +kernel) ic_X10_39 (by decide) ?_
  obtain ⟨q9, h⟩ := h
  refine go_newa (K := 21) (show decode cX10_init 55 = .ok (.newarray .long, 2) by decide +kernel) rfl (by decide) ar_21 (by decide) (by decide) q9 ?_
  show Go d MX10_init 57 [some (vR a0)] [vR (sn S8 + 1), vR a0] (na S8 21 55296 55296) (nF S8 F4) (nG S8 G5) Q
  obtain ⟨x10, x10e⟩ : ∃ x10 : Nat, x10 = sn S8 + 1 := ⟨_, rfl⟩
  have h := h x10 x10e
  rw [← x10e]
  obtain ⟨S11, S11e⟩ : ∃ S11 : AS, S11 = na S8 21 55296 55296 := ⟨_, rfl⟩
  have h := h S11 S11e
  rw [← S11e]
  obtain ⟨F12, F12e⟩ : ∃ F12 : AF, F12 = nF S8 F4 := ⟨_, rfl⟩
  have h := h F12 F12e
  rw [← F12e]
  obtain ⟨G13, G13e⟩ : ∃ G13 : AG, G13 = nG S8 G5 := ⟨_, rfl⟩
  have h := h G13 G13e
  rw [← G13e]
  obtain ⟨q14, h⟩ := h
  obtain ⟨q15, h⟩ := h
  refine go_putR (show decode cX10_init 57 = .ok (.putfield 40, 3) by decide +kernel) fl_X10_40 rfl (Or.inr ⟨rfl, rfl⟩) q14 q15 ?_
  obtain ⟨S16, S16e⟩ : ∃ S16 : AS, S16 = ru S11 a0 8 x10 := ⟨_, rfl⟩
  have h := h S16 S16e
  rw [← S16e]
  refine go_aload_n (show decode cX10_init 60 = .ok (.aload_n 0, 1) by decide +kernel) (by rfl) ?_
  refine go_iconst (show decode cX10_init 61 = .ok (.iconst 3, 1) by decide +kernel) (by decide) ?_
  obtain ⟨q17, h⟩ := h
  refine go_newa (K := 21) (show decode cX10_init 62 = .ok (.newarray .long, 2) by decide +kernel) rfl (by decide) ar_21 (by decide) (by decide) q17 ?_
  show Go d MX10_init 64 [some (vR a0)] [vR (sn S16 + 1), vR a0] (na S16 21 3 3) (nF S16 F12) (nG S16 G13) Q
  obtain ⟨x18, x18e⟩ : ∃ x18 : Nat, x18 = sn S16 + 1 := ⟨_, rfl⟩
  have h := h x18 x18e
  rw [← x18e]
  obtain ⟨S19, S19e⟩ : ∃ S19 : AS, S19 = na S16 21 3 3 := ⟨_, rfl⟩
  have h := h S19 S19e
  rw [← S19e]
  obtain ⟨F20, F20e⟩ : ∃ F20 : AF, F20 = nF S16 F12 := ⟨_, rfl⟩
  have h := h F20 F20e
  rw [← F20e]
  obtain ⟨G21, G21e⟩ : ∃ G21 : AG, G21 = nG S16 G13 := ⟨_, rfl⟩
  have h := h G21 G21e
  rw [← G21e]
  obtain ⟨q22, h⟩ := h
  obtain ⟨q23, h⟩ := h
  refine go_putR (show decode cX10_init 64 = .ok (.putfield 43, 3) by decide +kernel) fl_X10_43 rfl (Or.inr ⟨rfl, rfl⟩) q22 q23 ?_
  obtain ⟨S24, S24e⟩ : ∃ S24 : AS, S24 = ru S19 a0 9 x18 := ⟨_, rfl⟩
  have h := h S24 S24e
  rw [← S24e]
  exact R_X10_init_67 h
set_option maxRecDepth 50000 in
def V_X10_init_21 (d : Nat) (S : AS) (F : AF) (G : AG) (Q : AQ) (a0 : Nat) : Prop :=
  (sn S < 999998) ∧
  ∀ x2 : Nat, x2 = sn S + 1 →
  ∀ S3 : AS, S3 = na S 20 96 96 →
  ∀ F4 : AF, F4 = nF S F →
  ∀ G5 : AG, G5 = nG S G →
  (sK S3 a0 = 10) ∧
  (x2 ≤ sn S3) ∧
  ∀ S8 : AS, S8 = ru S3 a0 4 x2 →
  (sn S8 < 999998) ∧
  ∀ x10 : Nat, x10 = sn S8 + 1 →
  ∀ S11 : AS, S11 = na S8 20 2 2 →
  ∀ F12 : AF, F12 = nF S8 F4 →
  ∀ G13 : AG, G13 = nG S8 G5 →
  (sK S11 a0 = 10) ∧
  (x10 ≤ sn S11) ∧
  ∀ S16 : AS, S16 = ru S11 a0 5 x10 →
  (sn S16 < 999998) ∧
  ∀ x18 : Nat, x18 = sn S16 + 1 →
  ∀ S19 : AS, S19 = na S16 20 2 2 →
  ∀ F20 : AF, F20 = nF S16 F12 →
  ∀ G21 : AG, G21 = nG S16 G13 →
  (sK S19 a0 = 10) ∧
  (x18 ≤ sn S19) ∧
  ∀ S24 : AS, S24 = ru S19 a0 6 x18 →
  V_X10_init_43 d S24 F20 G21 Q a0
set_option maxRecDepth 50000 in
theorem R_X10_init_21 {d : Nat} {S : AS} {F : AF} {G : AG} {Q : AQ} {a0 : Nat} (h : V_X10_init_21 d S F G Q a0) : Go d MX10_init 21 [some (vR a0)] [] S F G Q := by
  unfold V_X10_init_21 at h
  refine go_aload_n (show decode cX10_init 21 = .ok (.aload_n 0, 1) by decide +kernel) (by rfl) ?_
  refine go_bipush (show decode cX10_init 22 = .ok (.bipush 96, 2) by decide +kernel) (by decide) ?_
  obtain ⟨q1, h⟩ := h
  refine go_newa (K := 20) (show decode cX10_init 24 = .ok (.newarray .int, 2) by decide +kernel) rfl (by decide) ar_20 (by decide) (by decide) q1 ?_
  show Go d MX10_init 26 [some (vR a0)] [vR (sn S + 1), vR a0] (na S 20 96 96) (nF S F) (nG S G) Q
  obtain ⟨x2, x2e⟩ : ∃ x2 : Nat, x2 = sn S + 1 := ⟨_, rfl⟩
  have h := h x2 x2e
  rw [← x2e]
  obtain ⟨S3, S3e⟩ : ∃ S3 : AS, S3 = na S 20 96 96 := ⟨_, rfl⟩
  have h := h S3 S3e
  rw [← S3e]
  obtain ⟨F4, F4e⟩ : ∃ F4 : AF, F4 = nF S F := ⟨_, rfl⟩
  have h := h F4 F4e
  rw [← F4e]
  obtain ⟨G5, G5e⟩ : ∃ G5 : AG, G5 = nG S G := ⟨_, rfl⟩
  have h := h G5 G5e
  rw [← G5e]
  obtain ⟨q6, h⟩ := h
  obtain ⟨q7, h⟩ := h
  refine go_putR (show decode cX10_init 26 = .ok (.putfield 25, 3) by decide +kernel) fl_X10_25 rfl (Or.inr ⟨rfl, rfl⟩) q6 q7 ?_
  obtain ⟨S8, S8e⟩ : ∃ S8 : AS, S8 = ru S3 a0 4 x2 := ⟨_, rfl⟩
  have h := h S8 S8e
  rw [← S8e]
  refine go_aload_n (show decode cX10_init 29 = .ok (.aload_n 0, 1) by decide +kernel) (by rfl) ?_
  refine go_iconst (show decode cX10_init 30 = .ok (.iconst 2, 1) by decide +kernel) (by decide) ?_
  obtain ⟨q9, h⟩ := h
  refine go_newa (K := 20) (show decode cX10_init 31 = .ok (.newarray .int, 2) by decide +kernel) rfl (by decide) ar_20 (by decide) (by decide) q9 ?_
  show Go d MX10_init 33 [some (vR a0)] [vR (sn S8 + 1), vR a0] (na S8 20 2 2) (nF S8 F4) (nG S8 G5) Q
  obtain ⟨x10, x10e⟩ : ∃ x10 : Nat, x10 = sn S8 + 1 := ⟨_, rfl⟩
  have h := h x10 x10e
  rw [← x10e]
  obtain ⟨S11, S11e⟩ : ∃ S11 : AS, S11 = na S8 20 2 2 := ⟨_, rfl⟩
  have h := h S11 S11e
  rw [← S11e]
  obtain ⟨F12, F12e⟩ : ∃ F12 : AF, F12 = nF S8 F4 := ⟨_, rfl⟩
  have h := h F12 F12e
  rw [← F12e]
  obtain ⟨G13, G13e⟩ : ∃ G13 : AG, G13 = nG S8 G5 := ⟨_, rfl⟩
  have h := h G13 G13e
  rw [← G13e]
  obtain ⟨q14, h⟩ := h
  obtain ⟨q15, h⟩ := h
  refine go_putR (show decode cX10_init 33 = .ok (.putfield 29, 3) by decide +kernel) fl_X10_29 rfl (Or.inr ⟨rfl, rfl⟩) q14 q15 ?_
  obtain ⟨S16, S16e⟩ : ∃ S16 : AS, S16 = ru S11 a0 5 x10 := ⟨_, rfl⟩
  have h := h S16 S16e
  rw [← S16e]
  refine go_aload_n (show decode cX10_init 36 = .ok (.aload_n 0, 1) by decide +kernel) (by rfl) ?_
  refine go_iconst (show decode cX10_init 37 = .ok (.iconst 2, 1) by decide +kernel) (by decide) ?_
  obtain ⟨q17, h⟩ := h
  refine go_newa (K := 20) (show decode cX10_init 38 = .ok (.newarray .int, 2) by decide +kernel) rfl (by decide) ar_20 (by decide) (by decide) q17 ?_
  show Go d MX10_init 40 [some (vR a0)] [vR (sn S16 + 1), vR a0] (na S16 20 2 2) (nF S16 F12) (nG S16 G13) Q
  obtain ⟨x18, x18e⟩ : ∃ x18 : Nat, x18 = sn S16 + 1 := ⟨_, rfl⟩
  have h := h x18 x18e
  rw [← x18e]
  obtain ⟨S19, S19e⟩ : ∃ S19 : AS, S19 = na S16 20 2 2 := ⟨_, rfl⟩
  have h := h S19 S19e
  rw [← S19e]
  obtain ⟨F20, F20e⟩ : ∃ F20 : AF, F20 = nF S16 F12 := ⟨_, rfl⟩
  have h := h F20 F20e
  rw [← F20e]
  obtain ⟨G21, G21e⟩ : ∃ G21 : AG, G21 = nG S16 G13 := ⟨_, rfl⟩
  have h := h G21 G21e
  rw [← G21e]
  obtain ⟨q22, h⟩ := h
  obtain ⟨q23, h⟩ := h
  refine go_putR (show decode cX10_init 40 = .ok (.putfield 32, 3) by decide +kernel) fl_X10_32 rfl (Or.inr ⟨rfl, rfl⟩) q22 q23 ?_
  obtain ⟨S24, S24e⟩ : ∃ S24 : AS, S24 = ru S19 a0 6 x18 := ⟨_, rfl⟩
  have h := h S24 S24e
  rw [← S24e]
  exact R_X10_init_43 h
set_option maxRecDepth 50000 in
def V_X10_init_0 (d : Nat) (S : AS) (F : AF) (G : AG) (Q : AQ) (a0 : Nat) : Prop :=
  (1 ≤ d) ∧
  (1 ≤ a0) ∧
  (sK S a0 = 10) ∧
  ∀ F4 : AF, F4 = fu F a0 1 1 →
  ∀ F5 : AF, F5 = fu F4 a0 2 1 →
  ∀ F6 : AF, F6 = fu F5 a0 3 1000000000000 →
  V_X10_init_21 d S F6 G Q a0
set_option maxRecDepth 50000 in
theorem R_X10_init_0 {d : Nat} {S : AS} {F : AF} {G : AG} {Q : AQ} {a0 : Nat} (h : V_X10_init_0 d S F G Q a0) : Go d MX10_init 0 [some (vR a0)] [] S F G Q := by
  unfold V_X10_init_0 at h
  refine go_aload_n (show decode cX10_init 0 = .ok (.aload_n 0, 1) by decide +kernel) (by rfl) ?_
  obtain ⟨q1, h⟩ := h
  obtain ⟨q2, h⟩ := h
  refine go_objInit (show decode cX10_init 1 = .ok (.invokespecial 7, 3) by decide +kernel) ml_X10_7 oi_1 oi_2 q2 (Nat.le_of_ble_eq_true rfl) q1 ?_
  refine go_aload_n (show decode cX10_init 4 = .ok (.aload_n 0, 1) by decide +kernel) (by rfl) ?_
  refine go_iconst (show decode cX10_init 5 = .ok (.iconst 1, 1) by decide +kernel) (by decide) ?_
  obtain ⟨q3, h⟩ := h
  refine go_putI (show decode cX10_init 6 = .ok (.putfield 13, 3) by decide +kernel) fl_X10_13 rfl (Or.inl rfl) q3 ?_
  obtain ⟨F4, F4e⟩ : ∃ F4 : AF, F4 = fu F a0 1 1 := ⟨_, rfl⟩
  have h := h F4 F4e
  rw [← F4e]
  refine go_aload_n (show decode cX10_init 9 = .ok (.aload_n 0, 1) by decide +kernel) (by rfl) ?_
  refine go_iconst (show decode cX10_init 10 = .ok (.iconst 1, 1) by decide +kernel) (by decide) ?_
  refine go_putI (show decode cX10_init 11 = .ok (.putfield 16, 3) by decide +kernel) fl_X10_16 rfl (Or.inl rfl) q3 ?_
  obtain ⟨F5, F5e⟩ : ∃ F5 : AF, F5 = fu F4 a0 2 1 := ⟨_, rfl⟩
  have h := h F5 F5e
  rw [← F5e]
  refine go_aload_n (show decode cX10_init 14 = .ok (.aload_n 0, 1) by decide +kernel) (by rfl) ?_
  refine go_ldc2 (show decode cX10_init 15 = .ok (.ldc2_w 19, 3) by decide +kernel) lc_X10_19 (by decide) ?_
  refine go_putJ (show decode cX10_init 18 = .ok (.putfield 21, 3) by decide +kernel) fl_X10_21 rfl (Or.inl rfl) q3 ?_
  obtain ⟨F6, F6e⟩ : ∃ F6 : AF, F6 = fu F5 a0 3 1000000000000 := ⟨_, rfl⟩
  have h := h F6 F6e
  rw [← F6e]
  exact R_X10_init_21 h
def V_X10_begins_97 (d : Nat) (S : AS) (F : AF) (G : AG) (Q : AQ) (a1 : Int) : Prop :=
  ((6 ≤ a1) →
    Q none S F G) ∧
  ((¬ 6 ≤ a1) →
    ((0 : Int) ≤ a1) ∧
    ((a1 : Int) < 6) ∧
    ∀ G3 : AG, G3 = gu G 65 a1 0 →
    (r32 (a1 + 1)) ∧
    Go d MX10_begins 97 [some (vR 53), some (vI (a1 + 1))] [] S F G3 Q)
theorem R_X10_begins_97 {d : Nat} {S : AS} {F : AF} {G : AG} {Q : AQ} {a1 : Int} (hsm : ShM S) (h : V_X10_begins_97 d S F G Q a1) : Go d MX10_begins 97 [some (vR 53), some (vI a1)] [] S F G Q := by
  unfold V_X10_begins_97 at h
  refine go_iload_n (show decode cX10_begins 97 = .ok (.iload_n 1, 1) by decide +kernel) (by rfl) ?_
  refine go_bipush (show decode cX10_begins 98 = .ok (.bipush 6, 2) by decide +kernel) (by decide) ?_
  obtain ⟨ht, hf⟩ := h
  refine go_icmpge (tgt := 116) (show decode cX10_begins 100 = .ok (.if_icmp .ge 16, 3) by decide +kernel) (by decide) (fun hc => ?_) (fun hc => ?_)
  · have h := ht hc
    exact go_vret (show decode cX10_begins 116 = .ok (.return_, 1) by decide +kernel) rfl h
  · have h := hf hc
    refine go_aload_n (show decode cX10_begins 103 = .ok (.aload_n 0, 1) by decide +kernel) (by rfl) ?_
    refine go_getRc (show decode cX10_begins 104 = .ok (.getfield 61, 3) by decide +kernel) fl_X10_61 rfl (shm_k hsm 53 (by decide) (by decide)) (v := 65) (shm_r hsm 53 17 (by decide) (by decide)) ?_
    refine go_iload_n (show decode cX10_begins 107 = .ok (.iload_n 1, 1) by decide +kernel) (by rfl) ?_
    refine go_iconst (show decode cX10_begins 108 = .ok (.iconst 0, 1) by decide +kernel) (by decide) ?_
    obtain ⟨q1, h⟩ := h
    obtain ⟨q2, h⟩ := h
    refine go_zastore (show decode cX10_begins 109 = .ok (.bastore, 1) by decide +kernel) (shm_k hsm 65 (by decide) (by decide)) q1 (lt_n (m := 6) q2 (shm_n hsm 65 (by decide) (by decide))) (by decide) ?_
    obtain ⟨G3, G3e⟩ : ∃ G3 : AG, G3 = gu G 65 a1 0 := ⟨_, rfl⟩
    have h := h G3 G3e
    rw [← G3e]
    obtain ⟨q4, h⟩ := h
    refine go_iinc (show decode cX10_begins 110 = .ok (.iinc 1 1, 3) by decide +kernel) (by rfl) q4 (by decide) ?_
    show Go d MX10_begins 113 [some (vR 53), some (vI (a1 + 1))] [] S F G3 Q
    refine go_goto (tgt := 97) (show decode cX10_begins 113 = .ok (.goto (-16), 3) by decide +kernel) (by decide) ?_
    exact h
def V_X10_begins_67 (d : Nat) (S : AS) (F : AF) (G : AG) (Q : AQ) (a1 : Int) : Prop :=
  ((3 ≤ a1) →
    ∀ F1 : AF, F1 = fu F 53 11 0 →
    ∀ F2 : AF, F2 = fu F1 53 14 0 →
    Go d MX10_begins 97 [some (vR 53), some (vI 0)] [] S F2 G Q) ∧
  ((¬ 3 ≤ a1) →
    ((0 : Int) ≤ a1) ∧
    ((a1 : Int) < 3) ∧
    ∀ G5 : AG, G5 = gu G 59 a1 0 →
    (r32 (a1 + 1)) ∧
    Go d MX10_begins 67 [some (vR 53), some (vI (a1 + 1))] [] S F G5 Q)
theorem R_X10_begins_67 {d : Nat} {S : AS} {F : AF} {G : AG} {Q : AQ} {a1 : Int} (hsm : ShM S) (h : V_X10_begins_67 d S F G Q a1) : Go d MX10_begins 67 [some (vR 53), some (vI a1)] [] S F G Q := by
  unfold V_X10_begins_67 at h
  refine go_iload_n (show decode cX10_begins 67 = .ok (.iload_n 1, 1) by decide +kernel) (by rfl) ?_
  refine go_iconst (show decode cX10_begins 68 = .ok (.iconst 3, 1) by decide +kernel) (by decide) ?_
  obtain ⟨ht, hf⟩ := h
  refine go_icmpge (tgt := 85) (show decode cX10_begins 69 = .ok (.if_icmp .ge 16, 3) by decide +kernel) (by decide) (fun hc => ?_) (fun hc => ?_)
  · have h := ht hc
    refine go_aload_n (show decode cX10_begins 85 = .ok (.aload_n 0, 1) by decide +kernel) (by rfl) ?_
    refine go_iconst (show decode cX10_begins 86 = .ok (.iconst 0, 1) by decide +kernel) (by decide) ?_
    refine go_putI (show decode cX10_begins 87 = .ok (.putfield 108, 3) by decide +kernel) fl_X10_108 rfl (Or.inl rfl) (shm_k hsm 53 (by decide) (by decide)) ?_
    obtain ⟨F1, F1e⟩ : ∃ F1 : AF, F1 = fu F 53 11 0 := ⟨_, rfl⟩
    have h := h F1 F1e
    rw [← F1e]
    refine go_aload_n (show decode cX10_begins 90 = .ok (.aload_n 0, 1) by decide +kernel) (by rfl) ?_
    refine go_iconst (show decode cX10_begins 91 = .ok (.iconst 0, 1) by decide +kernel) (by decide) ?_
    refine go_putI (show decode cX10_begins 92 = .ok (.putfield 111, 3) by decide +kernel) fl_X10_111 rfl (Or.inl rfl) (shm_k hsm 53 (by decide) (by decide)) ?_
    obtain ⟨F2, F2e⟩ : ∃ F2 : AF, F2 = fu F1 53 14 0 := ⟨_, rfl⟩
    have h := h F2 F2e
    rw [← F2e]
    refine go_iconst (show decode cX10_begins 95 = .ok (.iconst 0, 1) by decide +kernel) (by decide) ?_
    refine go_istore_n (show decode cX10_begins 96 = .ok (.istore_n 1, 1) by decide +kernel) (by decide) ?_
    show Go d MX10_begins 97 [some (vR 53), some (vI 0)] [] S F2 G Q
    exact h
  · have h := hf hc
    refine go_aload_n (show decode cX10_begins 72 = .ok (.aload_n 0, 1) by decide +kernel) (by rfl) ?_
    refine go_getRc (show decode cX10_begins 73 = .ok (.getfield 43, 3) by decide +kernel) fl_X10_43 rfl (shm_k hsm 53 (by decide) (by decide)) (v := 59) (shm_r hsm 53 9 (by decide) (by decide)) ?_
    refine go_iload_n (show decode cX10_begins 76 = .ok (.iload_n 1, 1) by decide +kernel) (by rfl) ?_
    refine go_lconst (n := 0) (show decode cX10_begins 77 = .ok (.lconst 0, 1) by decide +kernel) ?_
    show Go d MX10_begins 78 [some (vR 53), some (vI a1)] [vJ 0, vI a1, vR 59] S F G Q
    obtain ⟨q3, h⟩ := h
    obtain ⟨q4, h⟩ := h
    refine go_lastore (show decode cX10_begins 78 = .ok (.lastore, 1) by decide +kernel) (shm_k hsm 59 (by decide) (by decide)) q3 (lt_n (m := 3) q4 (shm_n hsm 59 (by decide) (by decide)))  ?_
    obtain ⟨G5, G5e⟩ : ∃ G5 : AG, G5 = gu G 59 a1 0 := ⟨_, rfl⟩
    have h := h G5 G5e
    rw [← G5e]
    obtain ⟨q6, h⟩ := h
    refine go_iinc (show decode cX10_begins 79 = .ok (.iinc 1 1, 3) by decide +kernel) (by rfl) q6 (by decide) ?_
    show Go d MX10_begins 82 [some (vR 53), some (vI (a1 + 1))] [] S F G5 Q
    refine go_goto (tgt := 67) (show decode cX10_begins 82 = .ok (.goto (-15), 3) by decide +kernel) (by decide) ?_
    exact h
def V_X10_begins_45 (d : Nat) (S : AS) (F : AF) (G : AG) (Q : AQ) (a1 : Int) : Prop :=
  ((6912 ≤ a1) →
    Go d MX10_begins 67 [some (vR 53), some (vI 0)] [] S F G Q) ∧
  ((¬ 6912 ≤ a1) →
    ((0 : Int) ≤ a1) ∧
    ((a1 : Int) < 6912) ∧
    ∀ G3 : AG, G3 = gu G 57 a1 0 →
    (r32 (a1 + 1)) ∧
    Go d MX10_begins 45 [some (vR 53), some (vI (a1 + 1))] [] S F G3 Q)
theorem R_X10_begins_45 {d : Nat} {S : AS} {F : AF} {G : AG} {Q : AQ} {a1 : Int} (hsm : ShM S) (h : V_X10_begins_45 d S F G Q a1) : Go d MX10_begins 45 [some (vR 53), some (vI a1)] [] S F G Q := by
  unfold V_X10_begins_45 at h
  refine go_iload_n (show decode cX10_begins 45 = .ok (.iload_n 1, 1) by decide +kernel) (by rfl) ?_
  refine go_sipush (show decode cX10_begins 46 = .ok (.sipush 6912, 3) by decide +kernel) (by decide) ?_
  obtain ⟨ht, hf⟩ := h
  refine go_icmpge (tgt := 65) (show decode cX10_begins 49 = .ok (.if_icmp .ge 16, 3) by decide +kernel) (by decide) (fun hc => ?_) (fun hc => ?_)
  · have h := ht hc
    refine go_iconst (show decode cX10_begins 65 = .ok (.iconst 0, 1) by decide +kernel) (by decide) ?_
    refine go_istore_n (show decode cX10_begins 66 = .ok (.istore_n 1, 1) by decide +kernel) (by decide) ?_
    show Go d MX10_begins 67 [some (vR 53), some (vI 0)] [] S F G Q
    exact h
  · have h := hf hc
    refine go_aload_n (show decode cX10_begins 52 = .ok (.aload_n 0, 1) by decide +kernel) (by rfl) ?_
    refine go_getRc (show decode cX10_begins 53 = .ok (.getfield 35, 3) by decide +kernel) fl_X10_35 rfl (shm_k hsm 53 (by decide) (by decide)) (v := 57) (shm_r hsm 53 7 (by decide) (by decide)) ?_
    refine go_iload_n (show decode cX10_begins 56 = .ok (.iload_n 1, 1) by decide +kernel) (by rfl) ?_
    refine go_lconst (n := 0) (show decode cX10_begins 57 = .ok (.lconst 0, 1) by decide +kernel) ?_
    show Go d MX10_begins 58 [some (vR 53), some (vI a1)] [vJ 0, vI a1, vR 57] S F G Q
    obtain ⟨q1, h⟩ := h
    obtain ⟨q2, h⟩ := h
    refine go_lastore (show decode cX10_begins 58 = .ok (.lastore, 1) by decide +kernel) (shm_k hsm 57 (by decide) (by decide)) q1 (lt_n (m := 6912) q2 (shm_n hsm 57 (by decide) (by decide)))  ?_
    obtain ⟨G3, G3e⟩ : ∃ G3 : AG, G3 = gu G 57 a1 0 := ⟨_, rfl⟩
    have h := h G3 G3e
    rw [← G3e]
    obtain ⟨q4, h⟩ := h
    refine go_iinc (show decode cX10_begins 59 = .ok (.iinc 1 1, 3) by decide +kernel) (by rfl) q4 (by decide) ?_
    show Go d MX10_begins 62 [some (vR 53), some (vI (a1 + 1))] [] S F G3 Q
    refine go_goto (tgt := 45) (show decode cX10_begins 62 = .ok (.goto (-17), 3) by decide +kernel) (by decide) ?_
    exact h
def V_X10_begins_0 (d : Nat) (S : AS) (F : AF) (G : AG) (Q : AQ)  : Prop :=
  ∀ G1 : AG, G1 = gu G 54 0 0 →
  ∀ G2 : AG, G2 = gu G1 54 48 0 →
  ∀ G3 : AG, G3 = gu G2 55 0 1 →
  ∀ G4 : AG, G4 = gu G3 55 1 1 →
  ∀ G5 : AG, G5 = gu G4 56 0 0 →
  ∀ G6 : AG, G6 = gu G5 56 1 0 →
  Go d MX10_begins 45 [some (vR 53), some (vI 0)] [] S F G6 Q
theorem R_X10_begins_0 {d : Nat} {S : AS} {F : AF} {G : AG} {Q : AQ}  (hsm : ShM S) (h : V_X10_begins_0 d S F G Q ) : Go d MX10_begins 0 [some (vR 53), none] [] S F G Q := by
  unfold V_X10_begins_0 at h
  refine go_aload_n (show decode cX10_begins 0 = .ok (.aload_n 0, 1) by decide +kernel) (by rfl) ?_
  refine go_getRc (show decode cX10_begins 1 = .ok (.getfield 25, 3) by decide +kernel) fl_X10_25 rfl (shm_k hsm 53 (by decide) (by decide)) (v := 54) (shm_r hsm 53 4 (by decide) (by decide)) ?_
  refine go_iconst (show decode cX10_begins 4 = .ok (.iconst 0, 1) by decide +kernel) (by decide) ?_
  refine go_iconst (show decode cX10_begins 5 = .ok (.iconst 0, 1) by decide +kernel) (by decide) ?_
  refine go_iastore (show decode cX10_begins 6 = .ok (.iastore, 1) by decide +kernel) (shm_k hsm 54 (by decide) (by decide)) (by decide) (lt_n (m := 96) (by decide) (shm_n hsm 54 (by decide) (by decide)))  ?_
  obtain ⟨G1, G1e⟩ : ∃ G1 : AG, G1 = gu G 54 0 0 := ⟨_, rfl⟩
  have h := h G1 G1e
  rw [← G1e]
  refine go_aload_n (show decode cX10_begins 7 = .ok (.aload_n 0, 1) by decide +kernel) (by rfl) ?_
  refine go_getRc (show decode cX10_begins 8 = .ok (.getfield 25, 3) by decide +kernel) fl_X10_25 rfl (shm_k hsm 53 (by decide) (by decide)) (v := 54) (shm_r hsm 53 4 (by decide) (by decide)) ?_
  refine go_bipush (show decode cX10_begins 11 = .ok (.bipush 48, 2) by decide +kernel) (by decide) ?_
  refine go_iconst (show decode cX10_begins 13 = .ok (.iconst 0, 1) by decide +kernel) (by decide) ?_
  refine go_iastore (show decode cX10_begins 14 = .ok (.iastore, 1) by decide +kernel) (shm_k hsm 54 (by decide) (by decide)) (by decide) (lt_n (m := 96) (by decide) (shm_n hsm 54 (by decide) (by decide)))  ?_
  obtain ⟨G2, G2e⟩ : ∃ G2 : AG, G2 = gu G1 54 48 0 := ⟨_, rfl⟩
  have h := h G2 G2e
  rw [← G2e]
  refine go_aload_n (show decode cX10_begins 15 = .ok (.aload_n 0, 1) by decide +kernel) (by rfl) ?_
  refine go_getRc (show decode cX10_begins 16 = .ok (.getfield 29, 3) by decide +kernel) fl_X10_29 rfl (shm_k hsm 53 (by decide) (by decide)) (v := 55) (shm_r hsm 53 5 (by decide) (by decide)) ?_
  refine go_iconst (show decode cX10_begins 19 = .ok (.iconst 0, 1) by decide +kernel) (by decide) ?_
  refine go_iconst (show decode cX10_begins 20 = .ok (.iconst 1, 1) by decide +kernel) (by decide) ?_
  refine go_iastore (show decode cX10_begins 21 = .ok (.iastore, 1) by decide +kernel) (shm_k hsm 55 (by decide) (by decide)) (by decide) (lt_n (m := 2) (by decide) (shm_n hsm 55 (by decide) (by decide)))  ?_
  obtain ⟨G3, G3e⟩ : ∃ G3 : AG, G3 = gu G2 55 0 1 := ⟨_, rfl⟩
  have h := h G3 G3e
  rw [← G3e]
  refine go_aload_n (show decode cX10_begins 22 = .ok (.aload_n 0, 1) by decide +kernel) (by rfl) ?_
  refine go_getRc (show decode cX10_begins 23 = .ok (.getfield 29, 3) by decide +kernel) fl_X10_29 rfl (shm_k hsm 53 (by decide) (by decide)) (v := 55) (shm_r hsm 53 5 (by decide) (by decide)) ?_
  refine go_iconst (show decode cX10_begins 26 = .ok (.iconst 1, 1) by decide +kernel) (by decide) ?_
  refine go_iconst (show decode cX10_begins 27 = .ok (.iconst 1, 1) by decide +kernel) (by decide) ?_
  refine go_iastore (show decode cX10_begins 28 = .ok (.iastore, 1) by decide +kernel) (shm_k hsm 55 (by decide) (by decide)) (by decide) (lt_n (m := 2) (by decide) (shm_n hsm 55 (by decide) (by decide)))  ?_
  obtain ⟨G4, G4e⟩ : ∃ G4 : AG, G4 = gu G3 55 1 1 := ⟨_, rfl⟩
  have h := h G4 G4e
  rw [← G4e]
  refine go_aload_n (show decode cX10_begins 29 = .ok (.aload_n 0, 1) by decide +kernel) (by rfl) ?_
  refine go_getRc (show decode cX10_begins 30 = .ok (.getfield 32, 3) by decide +kernel) fl_X10_32 rfl (shm_k hsm 53 (by decide) (by decide)) (v := 56) (shm_r hsm 53 6 (by decide) (by decide)) ?_
  refine go_iconst (show decode cX10_begins 33 = .ok (.iconst 0, 1) by decide +kernel) (by decide) ?_
  refine go_iconst (show decode cX10_begins 34 = .ok (.iconst 0, 1) by decide +kernel) (by decide) ?_
  refine go_iastore (show decode cX10_begins 35 = .ok (.iastore, 1) by decide +kernel) (shm_k hsm 56 (by decide) (by decide)) (by decide) (lt_n (m := 2) (by decide) (shm_n hsm 56 (by decide) (by decide)))  ?_
  obtain ⟨G5, G5e⟩ : ∃ G5 : AG, G5 = gu G4 56 0 0 := ⟨_, rfl⟩
  have h := h G5 G5e
  rw [← G5e]
  refine go_aload_n (show decode cX10_begins 36 = .ok (.aload_n 0, 1) by decide +kernel) (by rfl) ?_
  refine go_getRc (show decode cX10_begins 37 = .ok (.getfield 32, 3) by decide +kernel) fl_X10_32 rfl (shm_k hsm 53 (by decide) (by decide)) (v := 56) (shm_r hsm 53 6 (by decide) (by decide)) ?_
  refine go_iconst (show decode cX10_begins 40 = .ok (.iconst 1, 1) by decide +kernel) (by decide) ?_
  refine go_iconst (show decode cX10_begins 41 = .ok (.iconst 0, 1) by decide +kernel) (by decide) ?_
  refine go_iastore (show decode cX10_begins 42 = .ok (.iastore, 1) by decide +kernel) (shm_k hsm 56 (by decide) (by decide)) (by decide) (lt_n (m := 2) (by decide) (shm_n hsm 56 (by decide) (by decide)))  ?_
  obtain ⟨G6, G6e⟩ : ∃ G6 : AG, G6 = gu G5 56 1 0 := ⟨_, rfl⟩
  have h := h G6 G6e
  rw [← G6e]
  refine go_iconst (show decode cX10_begins 43 = .ok (.iconst 0, 1) by decide +kernel) (by decide) ?_
  refine go_istore_n (show decode cX10_begins 44 = .ok (.istore_n 1, 1) by decide +kernel) (by decide) ?_
  show Go d MX10_begins 45 [some (vR 53), some (vI 0)] [] S F G6 Q
  exact h
def V_X10_world_0 (d : Nat) (S : AS) (F : AF) (G : AG) (Q : AQ) (a1 : Int) (a2 : Int) (a3 : Int) : Prop :=
  ∀ F1 : AF, F1 = fu F 53 0 0 →
  (1 ≤ d) ∧
  ∃ z7 : Int, Pu (d - 1) MX10_isIn [vJ a1, vJ 1, vJ 10000] S F1 G (some (vI z7)) ∧
  ((z7 = 0) →
    Q (some (vJ (-3))) S F1 G) ∧
  ((¬ z7 = 0) →
    ∃ z13 : Int, Pu (d - 1) MX10_isIn [vJ a2, vJ 1, vJ 10000] S F1 G (some (vI z13)) ∧
    ((z13 = 0) →
      Q (some (vJ (-3))) S F1 G) ∧
    ((¬ z13 = 0) →
      ∃ z19 : Int, Pu (d - 1) MX10_isIn [vJ a3, vJ 1, vJ 1000000000000] S F1 G (some (vI z19)) ∧
      ((¬ z19 = 0) →
        ∀ F21 : AF, F21 = fu F1 53 1 a1 →
        ∀ F22 : AF, F22 = fu F21 53 2 a2 →
        ∀ F23 : AF, F23 = fu F22 53 3 a3 →
        Ok (d - 1) MX10_begins [vR 53] S F23 G (fun w24 S25 F26 G27 =>
        S25 = S ∧
        w24 = none ∧
        (r64 (a1 * a2)) ∧
        Q (some (vJ (a1 * a2))) S F26 G27)) ∧
      ((z19 = 0) →
        Q (some (vJ (-3))) S F1 G)))
theorem R_X10_world_0 {d : Nat} {S : AS} {F : AF} {G : AG} {Q : AQ} {a1 : Int} {a2 : Int} {a3 : Int} (hsm : ShM S) (h : V_X10_world_0 d S F G Q a1 a2 a3) : Go d MX10_world 0 [some (vR 53), some (vI a1), some (vI a2), some (vJ a3), none] [] S F G Q := by
  unfold V_X10_world_0 at h
  refine go_aload_n (show decode cX10_world 0 = .ok (.aload_n 0, 1) by decide +kernel) (by rfl) ?_
  refine go_iconst (show decode cX10_world 1 = .ok (.iconst 0, 1) by decide +kernel) (by decide) ?_
  refine go_putI (show decode cX10_world 2 = .ok (.putfield 1, 3) by decide +kernel) fl_X10_1 rfl (Or.inl rfl) (shm_k hsm 53 (by decide) (by decide)) ?_
  obtain ⟨F1, F1e⟩ : ∃ F1 : AF, F1 = fu F 53 0 0 := ⟨_, rfl⟩
  have h := h F1 F1e
  rw [← F1e]
  refine go_iload_n (show decode cX10_world 5 = .ok (.iload_n 1, 1) by decide +kernel) (by rfl) ?_
  refine go_i2l (show decode cX10_world 6 = .ok (.i2l, 1) by decide +kernel) ?_
  refine go_lconst (n := 1) (show decode cX10_world 7 = .ok (.lconst 1, 1) by decide +kernel) ?_
  show Go d MX10_world 8 [some (vR 53), some (vI a1), some (vI a2), some (vJ a3), none] [vJ 1, vJ a1] S F1 G Q
  refine go_ldc2 (show decode cX10_world 8 = .ok (.ldc2_w 114, 3) by decide +kernel) lc_X10_114 (by decide) ?_
  obtain ⟨q2, h⟩ := h
  obtain ⟨z7, p8, h⟩ := h
  refine go_callS (d2 := d - 1) (M2 := MX10_isIn) (n := 3) (av := [vJ a1, vJ 1, vJ 10000]) (st := []) (show decode cX10_world 11 = .ok (.invokestatic 116, 3) by decide +kernel) ml_X10_116 mt_X10_isIn mst_X10_isIn rfl (Nat.le_of_ble_eq_true rfl) (by omega) (ok_mono p8 (fun w3 S4 F5 G6 e9 => ?_))
  obtain ⟨e1, e2, e3, e4⟩ := e9
  subst e1
  replace e2 := e2.symm; subst e2
  replace e3 := e3.symm; subst e3
  replace e4 := e4.symm; subst e4
  show Go d MX10_world 14 [some (vR 53), some (vI a1), some (vI a2), some (vJ a3), none] [vI z7] S F1 G Q
  obtain ⟨ht, hf⟩ := h
  refine go_ifeq (tgt := 40) (show decode cX10_world 14 = .ok (.ifCond .eq 26, 3) by decide +kernel) (by decide) (fun hc => ?_) (fun hc => ?_)
  · have h := ht hc
    refine go_ldc2 (show decode cX10_world 40 = .ok (.ldc2_w 120, 3) by decide +kernel) lc_X10_120 (by decide) ?_
    exact go_lret (show decode cX10_world 43 = .ok (.lreturn, 1) by decide +kernel) rfl h
  · have h := hf hc
    refine go_iload_n (show decode cX10_world 17 = .ok (.iload_n 2, 1) by decide +kernel) (by rfl) ?_
    refine go_i2l (show decode cX10_world 18 = .ok (.i2l, 1) by decide +kernel) ?_
    refine go_lconst (n := 1) (show decode cX10_world 19 = .ok (.lconst 1, 1) by decide +kernel) ?_
    show Go d MX10_world 20 [some (vR 53), some (vI a1), some (vI a2), some (vJ a3), none] [vJ 1, vJ a2] S F1 G Q
    refine go_ldc2 (show decode cX10_world 20 = .ok (.ldc2_w 114, 3) by decide +kernel) lc_X10_114 (by decide) ?_
    obtain ⟨z13, p14, h⟩ := h
    refine go_callS (d2 := d - 1) (M2 := MX10_isIn) (n := 3) (av := [vJ a2, vJ 1, vJ 10000]) (st := []) (show decode cX10_world 23 = .ok (.invokestatic 116, 3) by decide +kernel) ml_X10_116 mt_X10_isIn mst_X10_isIn rfl (Nat.le_of_ble_eq_true rfl) (by omega) (ok_mono p14 (fun w9 S10 F11 G12 e9 => ?_))
    obtain ⟨e1, e2, e3, e4⟩ := e9
    subst e1
    replace e2 := e2.symm; subst e2
    replace e3 := e3.symm; subst e3
    replace e4 := e4.symm; subst e4
    show Go d MX10_world 26 [some (vR 53), some (vI a1), some (vI a2), some (vJ a3), none] [vI z13] S F1 G Q
    obtain ⟨ht, hf⟩ := h
    refine go_ifeq (tgt := 40) (show decode cX10_world 26 = .ok (.ifCond .eq 14, 3) by decide +kernel) (by decide) (fun hc => ?_) (fun hc => ?_)
    · have h := ht hc
      refine go_ldc2 (show decode cX10_world 40 = .ok (.ldc2_w 120, 3) by decide +kernel) lc_X10_120 (by decide) ?_
      exact go_lret (show decode cX10_world 43 = .ok (.lreturn, 1) by decide +kernel) rfl h
    · have h := hf hc
      refine go_lload_n (show decode cX10_world 29 = .ok (.lload_n 3, 1) by decide +kernel) (by rfl) ?_
      refine go_lconst (n := 1) (show decode cX10_world 30 = .ok (.lconst 1, 1) by decide +kernel) ?_
      show Go d MX10_world 31 [some (vR 53), some (vI a1), some (vI a2), some (vJ a3), none] [vJ 1, vJ a3] S F1 G Q
      refine go_ldc2 (show decode cX10_world 31 = .ok (.ldc2_w 19, 3) by decide +kernel) lc_X10_19 (by decide) ?_
      obtain ⟨z19, p20, h⟩ := h
      refine go_callS (d2 := d - 1) (M2 := MX10_isIn) (n := 3) (av := [vJ a3, vJ 1, vJ 1000000000000]) (st := []) (show decode cX10_world 34 = .ok (.invokestatic 116, 3) by decide +kernel) ml_X10_116 mt_X10_isIn mst_X10_isIn rfl (Nat.le_of_ble_eq_true rfl) (by omega) (ok_mono p20 (fun w15 S16 F17 G18 e9 => ?_))
      obtain ⟨e1, e2, e3, e4⟩ := e9
      subst e1
      replace e2 := e2.symm; subst e2
      replace e3 := e3.symm; subst e3
      replace e4 := e4.symm; subst e4
      show Go d MX10_world 37 [some (vR 53), some (vI a1), some (vI a2), some (vJ a3), none] [vI z19] S F1 G Q
      obtain ⟨ht, hf⟩ := h
      refine go_ifne (tgt := 44) (show decode cX10_world 37 = .ok (.ifCond .ne 7, 3) by decide +kernel) (by decide) (fun hc => ?_) (fun hc => ?_)
      · have h := ht hc
        refine go_aload_n (show decode cX10_world 44 = .ok (.aload_n 0, 1) by decide +kernel) (by rfl) ?_
        refine go_iload_n (show decode cX10_world 45 = .ok (.iload_n 1, 1) by decide +kernel) (by rfl) ?_
        refine go_putI (show decode cX10_world 46 = .ok (.putfield 13, 3) by decide +kernel) fl_X10_13 rfl (Or.inl rfl) (shm_k hsm 53 (by decide) (by decide)) ?_
        obtain ⟨F21, F21e⟩ : ∃ F21 : AF, F21 = fu F1 53 1 a1 := ⟨_, rfl⟩
        have h := h F21 F21e
        rw [← F21e]
        refine go_aload_n (show decode cX10_world 49 = .ok (.aload_n 0, 1) by decide +kernel) (by rfl) ?_
        refine go_iload_n (show decode cX10_world 50 = .ok (.iload_n 2, 1) by decide +kernel) (by rfl) ?_
        refine go_putI (show decode cX10_world 51 = .ok (.putfield 16, 3) by decide +kernel) fl_X10_16 rfl (Or.inl rfl) (shm_k hsm 53 (by decide) (by decide)) ?_
        obtain ⟨F22, F22e⟩ : ∃ F22 : AF, F22 = fu F21 53 2 a2 := ⟨_, rfl⟩
        have h := h F22 F22e
        rw [← F22e]
        refine go_aload_n (show decode cX10_world 54 = .ok (.aload_n 0, 1) by decide +kernel) (by rfl) ?_
        refine go_lload_n (show decode cX10_world 55 = .ok (.lload_n 3, 1) by decide +kernel) (by rfl) ?_
        refine go_putJ (show decode cX10_world 56 = .ok (.putfield 21, 3) by decide +kernel) fl_X10_21 rfl (Or.inl rfl) (shm_k hsm 53 (by decide) (by decide)) ?_
        obtain ⟨F23, F23e⟩ : ∃ F23 : AF, F23 = fu F22 53 3 a3 := ⟨_, rfl⟩
        have h := h F23 F23e
        rw [← F23e]
        refine go_aload_n (show decode cX10_world 59 = .ok (.aload_n 0, 1) by decide +kernel) (by rfl) ?_
        refine go_callV (d2 := d - 1) (M2 := MX10_begins) (n := 0) (ci := 10) (av := []) (st := []) (show decode cX10_world 60 = .ok (.invokevirtual 105, 3) by decide +kernel) ml_X10_105 mt_X10_begins min_X10_begins mse_X10_begins (by decide) (shm_k hsm 53 (by decide) (by decide)) rfl (Nat.le_of_ble_eq_true rfl) (by omega) (ok_mono h (fun w24 S25 F26 G27 h => ?_))
        obtain ⟨e8, h⟩ := h
        replace e8 := e8.symm; subst e8
        obtain ⟨e9, h⟩ := h
        subst e9
        show Go d MX10_world 63 [some (vR 53), some (vI a1), some (vI a2), some (vJ a3), none] [] S F26 G27 Q
        refine go_iload_n (show decode cX10_world 63 = .ok (.iload_n 1, 1) by decide +kernel) (by rfl) ?_
        refine go_i2l (show decode cX10_world 64 = .ok (.i2l, 1) by decide +kernel) ?_
        refine go_iload_n (show decode cX10_world 65 = .ok (.iload_n 2, 1) by decide +kernel) (by rfl) ?_
        refine go_i2l (show decode cX10_world 66 = .ok (.i2l, 1) by decide +kernel) ?_
        obtain ⟨q28, h⟩ := h
        refine go_lmul (show decode cX10_world 67 = .ok (.lmul, 1) by decide +kernel) q28 ?_
        exact go_lret (show decode cX10_world 68 = .ok (.lreturn, 1) by decide +kernel) rfl h
      · have h := hf hc
        refine go_ldc2 (show decode cX10_world 40 = .ok (.ldc2_w 120, 3) by decide +kernel) lc_X10_120 (by decide) ?_
        exact go_lret (show decode cX10_world 43 = .ok (.lreturn, 1) by decide +kernel) rfl h
def V_X10_isIn_0 (d : Nat) (S : AS) (F : AF) (G : AG) (Q : AQ) (a0 : Int) (a2 : Int) (a4 : Int) : Prop :=
  ((a0 < a2) →
    Q (some (vI 0)) S F G) ∧
  ((¬ a0 < a2) →
    ((a4 < a0) →
      Q (some (vI 0)) S F G) ∧
    ((¬ a4 < a0) →
      Q (some (vI 1)) S F G))
theorem R_X10_isIn_0 {d : Nat} {S : AS} {F : AF} {G : AG} {Q : AQ} {a0 : Int} {a2 : Int} {a4 : Int} (hsm : ShM S) (h : V_X10_isIn_0 d S F G Q a0 a2 a4) : Go d MX10_isIn 0 [some (vJ a0), none, some (vJ a2), none, some (vJ a4), none] [] S F G Q := by
  unfold V_X10_isIn_0 at h
  refine go_lload_n (show decode cX10_isIn 0 = .ok (.lload_n 0, 1) by decide +kernel) (by rfl) ?_
  refine go_lload_n (show decode cX10_isIn 1 = .ok (.lload_n 2, 1) by decide +kernel) (by rfl) ?_
  obtain ⟨ht, hf⟩ := h
  refine go_jlt (tgt := 17) (show decode cX10_isIn 2 = .ok (.lcmp, 1) by decide +kernel) (show decode cX10_isIn 3 = .ok (.ifCond .lt 14, 3) by decide +kernel) (by decide) (fun hc => ?_) (fun hc => ?_)
  · have h := ht hc
    refine go_iconst (show decode cX10_isIn 17 = .ok (.iconst 0, 1) by decide +kernel) (by decide) ?_
    exact go_zret (show decode cX10_isIn 18 = .ok (.ireturn, 1) by decide +kernel) rfl (by decide) h
  · have h := hf hc
    refine go_lload_n (show decode cX10_isIn 6 = .ok (.lload_n 0, 1) by decide +kernel) (by rfl) ?_
    refine go_lload (show decode cX10_isIn 7 = .ok (.lload 4, 2) by decide +kernel) (by rfl) ?_
    obtain ⟨ht, hf⟩ := h
    refine go_jgt (tgt := 17) (show decode cX10_isIn 9 = .ok (.lcmp, 1) by decide +kernel) (show decode cX10_isIn 10 = .ok (.ifCond .gt 7, 3) by decide +kernel) (by decide) (fun hc => ?_) (fun hc => ?_)
    · have h := ht hc
      refine go_iconst (show decode cX10_isIn 17 = .ok (.iconst 0, 1) by decide +kernel) (by decide) ?_
      exact go_zret (show decode cX10_isIn 18 = .ok (.ireturn, 1) by decide +kernel) rfl (by decide) h
    · have h := hf hc
      refine go_iconst (show decode cX10_isIn 13 = .ok (.iconst 1, 1) by decide +kernel) (by decide) ?_
      refine go_goto (tgt := 18) (show decode cX10_isIn 14 = .ok (.goto 4, 3) by decide +kernel) (by decide) ?_
      exact go_zret (show decode cX10_isIn 18 = .ok (.ireturn, 1) by decide +kernel) rfl (by decide) h
def V_X10_add_329 (d : Nat) (S : AS) (F : AF) (G : AG) (Q : AQ) (a1 : Int) (a2 : Int) (a3 : Int) (a4 : Int) (a5 : Int) (a6 : Int) (a7 : Int) (a8 : Int) (a10 : Int) (a11 : Int) : Prop :=
  (r32 (a11 + 1)) ∧
  Go d MX10_add 273 [some (vR 53), some (vI a1), some (vI a2), some (vI a3), some (vI a4), some (vI a5), some (vI a6), some (vI a7), some (vJ a8), none, some (vI a10), some (vI (a11 + 1))] [] S F G Q
theorem R_X10_add_329 {d : Nat} {S : AS} {F : AF} {G : AG} {Q : AQ} {a1 : Int} {a2 : Int} {a3 : Int} {a4 : Int} {a5 : Int} {a6 : Int} {a7 : Int} {a8 : Int} {a10 : Int} {a11 : Int} (hsm : ShM S) (h : V_X10_add_329 d S F G Q a1 a2 a3 a4 a5 a6 a7 a8 a10 a11) : Go d MX10_add 329 [some (vR 53), some (vI a1), some (vI a2), some (vI a3), some (vI a4), some (vI a5), some (vI a6), some (vI a7), some (vJ a8), none, some (vI a10), some (vI a11)] [] S F G Q := by
  unfold V_X10_add_329 at h
  obtain ⟨q1, h⟩ := h
  refine go_iinc (show decode cX10_add 329 = .ok (.iinc 11 1, 3) by decide +kernel) (by rfl) q1 (by decide) ?_
  show Go d MX10_add 332 [some (vR 53), some (vI a1), some (vI a2), some (vI a3), some (vI a4), some (vI a5), some (vI a6), some (vI a7), some (vJ a8), none, some (vI a10), some (vI (a11 + 1))] [] S F G Q
  refine go_goto (tgt := 273) (show decode cX10_add 332 = .ok (.goto (-59), 3) by decide +kernel) (by decide) ?_
  exact h
def V_X10_add_273 (d : Nat) (S : AS) (F : AF) (G : AG) (Q : AQ) (a1 : Int) (a2 : Int) (a3 : Int) (a4 : Int) (a5 : Int) (a6 : Int) (a7 : Int) (a8 : Int) (a10 : Int) (a11 : Int) : Prop :=
  ((G 55 1 ≤ a11) →
    (r32 (a10 + 1)) ∧
    Go d MX10_add 259 [some (vR 53), some (vI a1), some (vI a2), some (vI a3), some (vI a4), some (vI a5), some (vI a6), some (vI a7), some (vJ a8), none, some (vI (a10 + 1)), none] [] S F G Q) ∧
  ((¬ G 55 1 ≤ a11) →
    (1 ≤ d) ∧
    ∃ z7 : Int, Pu (d - 1) MX10_part [vR 53, vI 0, vI a10, vI a2, vI a4] S F G (some (vI z7)) ∧
    ((z7 ≤ 0) →
      V_X10_add_329 d S F G Q a1 a2 a3 a4 a5 a6 a7 a8 a10 a11) ∧
    ((¬ z7 ≤ 0) →
      ∃ z13 : Int, Pu (d - 1) MX10_part [vR 53, vI 1, vI a11, vI a3, vI a5] S F G (some (vI z13)) ∧
      ((z13 ≤ 0) →
        V_X10_add_329 d S F G Q a1 a2 a3 a4 a5 a6 a7 a8 a10 a11) ∧
      ((¬ z13 ≤ 0) →
        ∃ z19 : Int, Pu (d - 1) MX10_slot [vI a1, vI a10, vI a11] S F G (some (vI z19)) ∧
        ((0 : Int) ≤ z19) ∧
        ((z19 : Int) < 6912) ∧
        (r64 ((G 57 z19) + a6)) ∧
        ∀ G24 : AG, G24 = gu G 57 z19 ((G 57 z19) + a6) →
        V_X10_add_329 d S F G24 Q a1 a2 a3 a4 a5 a6 a7 a8 a10 a11)))
theorem R_X10_add_273 {d : Nat} {S : AS} {F : AF} {G : AG} {Q : AQ} {a1 : Int} {a2 : Int} {a3 : Int} {a4 : Int} {a5 : Int} {a6 : Int} {a7 : Int} {a8 : Int} {a10 : Int} {a11 : Int} (hsm : ShM S) (h : V_X10_add_273 d S F G Q a1 a2 a3 a4 a5 a6 a7 a8 a10 a11) : Go d MX10_add 273 [some (vR 53), some (vI a1), some (vI a2), some (vI a3), some (vI a4), some (vI a5), some (vI a6), some (vI a7), some (vJ a8), none, some (vI a10), some (vI a11)] [] S F G Q := by
  unfold V_X10_add_273 at h
  refine go_iload (show decode cX10_add 273 = .ok (.iload 11, 2) by decide +kernel) (by rfl) ?_
  refine go_aload_n (show decode cX10_add 275 = .ok (.aload_n 0, 1) by decide +kernel) (by rfl) ?_
  refine go_getRc (show decode cX10_add 276 = .ok (.getfield 29, 3) by decide +kernel) fl_X10_29 rfl (shm_k hsm 53 (by decide) (by decide)) (v := 55) (shm_r hsm 53 5 (by decide) (by decide)) ?_
  refine go_iconst (show decode cX10_add 279 = .ok (.iconst 1, 1) by decide +kernel) (by decide) ?_
  refine go_iaload (show decode cX10_add 280 = .ok (.iaload, 1) by decide +kernel) (shm_k hsm 55 (by decide) (by decide)) (by decide) (lt_n (m := 2) (by decide) (shm_n hsm 55 (by decide) (by decide))) ?_
  obtain ⟨ht, hf⟩ := h
  refine go_icmpge (tgt := 335) (show decode cX10_add 281 = .ok (.if_icmp .ge 54, 3) by decide +kernel) (by decide) (fun hc => ?_) (fun hc => ?_)
  · have h := ht hc
    obtain ⟨q1, h⟩ := h
    refine go_iinc (show decode cX10_add 335 = .ok (.iinc 10 1, 3) by decide +kernel) (by rfl) q1 (by decide) ?_
    show Go d MX10_add 338 [some (vR 53), some (vI a1), some (vI a2), some (vI a3), some (vI a4), some (vI a5), some (vI a6), some (vI a7), some (vJ a8), none, some (vI (a10 + 1)), some (vI a11)] [] S F G Q
    refine go_goto (tgt := 259) (show decode cX10_add 338 = .ok (.goto (-79), 3) by decide +kernel) (by decide) ?_
    refine go_clr 11 ?_
    exact h
  · have h := hf hc
    refine go_aload_n (show decode cX10_add 284 = .ok (.aload_n 0, 1) by decide +kernel) (by rfl) ?_
    refine go_iconst (show decode cX10_add 285 = .ok (.iconst 0, 1) by decide +kernel) (by decide) ?_
    refine go_iload (show decode cX10_add 286 = .ok (.iload 10, 2) by decide +kernel) (by rfl) ?_
    refine go_iload_n (show decode cX10_add 288 = .ok (.iload_n 2, 1) by decide +kernel) (by rfl) ?_
    refine go_iload (show decode cX10_add 289 = .ok (.iload 4, 2) by decide +kernel) (by rfl) ?_
    obtain ⟨q2, h⟩ := h
    obtain ⟨z7, p8, h⟩ := h
    refine go_callV (d2 := d - 1) (M2 := MX10_part) (n := 4) (ci := 10) (av := [vI 0, vI a10, vI a2, vI a4]) (st := []) (show decode cX10_add 291 = .ok (.invokevirtual 159, 3) by decide +kernel) ml_X10_159 mt_X10_part min_X10_part mse_X10_part (by decide) (shm_k hsm 53 (by decide) (by decide)) rfl (Nat.le_of_ble_eq_true rfl) (by omega) (ok_mono p8 (fun w3 S4 F5 G6 e9 => ?_))
    obtain ⟨e1, e2, e3, e4⟩ := e9
    subst e1
    replace e2 := e2.symm; subst e2
    replace e3 := e3.symm; subst e3
    replace e4 := e4.symm; subst e4
    show Go d MX10_add 294 [some (vR 53), some (vI a1), some (vI a2), some (vI a3), some (vI a4), some (vI a5), some (vI a6), some (vI a7), some (vJ a8), none, some (vI a10), some (vI a11)] [vI z7] S F G Q
    obtain ⟨ht, hf⟩ := h
    refine go_ifle (tgt := 329) (show decode cX10_add 294 = .ok (.ifCond .le 35, 3) by decide +kernel) (by decide) (fun hc => ?_) (fun hc => ?_)
    · have h := ht hc
      exact R_X10_add_329 hsm h
    · have h := hf hc
      refine go_aload_n (show decode cX10_add 297 = .ok (.aload_n 0, 1) by decide +kernel) (by rfl) ?_
      refine go_iconst (show decode cX10_add 298 = .ok (.iconst 1, 1) by decide +kernel) (by decide) ?_
      refine go_iload (show decode cX10_add 299 = .ok (.iload 11, 2) by decide +kernel) (by rfl) ?_
      refine go_iload_n (show decode cX10_add 301 = .ok (.iload_n 3, 1) by decide +kernel) (by rfl) ?_
      refine go_iload (show decode cX10_add 302 = .ok (.iload 5, 2) by decide +kernel) (by rfl) ?_
      obtain ⟨z13, p14, h⟩ := h
      refine go_callV (d2 := d - 1) (M2 := MX10_part) (n := 4) (ci := 10) (av := [vI 1, vI a11, vI a3, vI a5]) (st := []) (show decode cX10_add 304 = .ok (.invokevirtual 159, 3) by decide +kernel) ml_X10_159 mt_X10_part min_X10_part mse_X10_part (by decide) (shm_k hsm 53 (by decide) (by decide)) rfl (Nat.le_of_ble_eq_true rfl) (by omega) (ok_mono p14 (fun w9 S10 F11 G12 e9 => ?_))
      obtain ⟨e1, e2, e3, e4⟩ := e9
      subst e1
      replace e2 := e2.symm; subst e2
      replace e3 := e3.symm; subst e3
      replace e4 := e4.symm; subst e4
      show Go d MX10_add 307 [some (vR 53), some (vI a1), some (vI a2), some (vI a3), some (vI a4), some (vI a5), some (vI a6), some (vI a7), some (vJ a8), none, some (vI a10), some (vI a11)] [vI z13] S F G Q
      obtain ⟨ht, hf⟩ := h
      refine go_ifle (tgt := 329) (show decode cX10_add 307 = .ok (.ifCond .le 22, 3) by decide +kernel) (by decide) (fun hc => ?_) (fun hc => ?_)
      · have h := ht hc
        exact R_X10_add_329 hsm h
      · have h := hf hc
        refine go_aload_n (show decode cX10_add 310 = .ok (.aload_n 0, 1) by decide +kernel) (by rfl) ?_
        refine go_getRc (show decode cX10_add 311 = .ok (.getfield 35, 3) by decide +kernel) fl_X10_35 rfl (shm_k hsm 53 (by decide) (by decide)) (v := 57) (shm_r hsm 53 7 (by decide) (by decide)) ?_
        refine go_iload_n (show decode cX10_add 314 = .ok (.iload_n 1, 1) by decide +kernel) (by rfl) ?_
        refine go_iload (show decode cX10_add 315 = .ok (.iload 10, 2) by decide +kernel) (by rfl) ?_
        refine go_iload (show decode cX10_add 317 = .ok (.iload 11, 2) by decide +kernel) (by rfl) ?_
        obtain ⟨z19, p20, h⟩ := h
        refine go_callS (d2 := d - 1) (M2 := MX10_slot) (n := 3) (av := [vI a1, vI a10, vI a11]) (st := [vR 57]) (show decode cX10_add 319 = .ok (.invokestatic 130, 3) by decide +kernel) ml_X10_130 mt_X10_slot mst_X10_slot rfl (Nat.le_of_ble_eq_true rfl) (by omega) (ok_mono p20 (fun w15 S16 F17 G18 e9 => ?_))
        obtain ⟨e1, e2, e3, e4⟩ := e9
        subst e1
        replace e2 := e2.symm; subst e2
        replace e3 := e3.symm; subst e3
        replace e4 := e4.symm; subst e4
        show Go d MX10_add 322 [some (vR 53), some (vI a1), some (vI a2), some (vI a3), some (vI a4), some (vI a5), some (vI a6), some (vI a7), some (vJ a8), none, some (vI a10), some (vI a11)] [vI z19, vR 57] S F G Q
        refine go_dup2 (show decode cX10_add 322 = .ok (.dup2, 1) by decide +kernel) ?_
        obtain ⟨q21, h⟩ := h
        obtain ⟨q22, h⟩ := h
        refine go_laload (show decode cX10_add 323 = .ok (.laload, 1) by decide +kernel) (shm_k hsm 57 (by decide) (by decide)) q21 (lt_n (m := 6912) q22 (shm_n hsm 57 (by decide) (by decide))) ?_
        refine go_iload (show decode cX10_add 324 = .ok (.iload 6, 2) by decide +kernel) (by rfl) ?_
        refine go_i2l (show decode cX10_add 326 = .ok (.i2l, 1) by decide +kernel) ?_
        obtain ⟨q23, h⟩ := h
        refine go_ladd (show decode cX10_add 327 = .ok (.ladd, 1) by decide +kernel) q23 ?_
        refine go_lastore (show decode cX10_add 328 = .ok (.lastore, 1) by decide +kernel) (shm_k hsm 57 (by decide) (by decide)) q21 (lt_n (m := 6912) q22 (shm_n hsm 57 (by decide) (by decide)))  ?_
        obtain ⟨G24, G24e⟩ : ∃ G24 : AG, G24 = gu G 57 z19 ((G 57 z19) + a6) := ⟨_, rfl⟩
        have h := h G24 G24e
        rw [← G24e]
        exact R_X10_add_329 hsm h
def V_X10_add_259 (d : Nat) (S : AS) (F : AF) (G : AG) (Q : AQ) (a1 : Int) (a2 : Int) (a3 : Int) (a4 : Int) (a5 : Int) (a6 : Int) (a7 : Int) (a8 : Int) (a10 : Int) : Prop :=
  ((G 55 0 ≤ a10) →
    ((0 : Int) ≤ a1) ∧
    ((a1 : Int) < 3) ∧
    (r64 ((G 59 a1) + a8)) ∧
    ∀ G4 : AG, G4 = gu G 59 a1 ((G 59 a1) + a8) →
    (1 ≤ d) ∧
    Ok (d - 1) MX10_tells [vR 53, vI 0, vI a1, vI a2, vI a3, vI a4, vI a5, vJ a6] S F G4 (fun w6 S7 F8 G9 =>
    S7 = S ∧
    w6 = none ∧
    Q (some (vJ (G9 59 a1))) S F8 G9)) ∧
  ((¬ G 55 0 ≤ a10) →
    Go d MX10_add 273 [some (vR 53), some (vI a1), some (vI a2), some (vI a3), some (vI a4), some (vI a5), some (vI a6), some (vI a7), some (vJ a8), none, some (vI a10), some (vI 0)] [] S F G Q)
theorem R_X10_add_259 {d : Nat} {S : AS} {F : AF} {G : AG} {Q : AQ} {a1 : Int} {a2 : Int} {a3 : Int} {a4 : Int} {a5 : Int} {a6 : Int} {a7 : Int} {a8 : Int} {a10 : Int} (hsm : ShM S) (h : V_X10_add_259 d S F G Q a1 a2 a3 a4 a5 a6 a7 a8 a10) : Go d MX10_add 259 [some (vR 53), some (vI a1), some (vI a2), some (vI a3), some (vI a4), some (vI a5), some (vI a6), some (vI a7), some (vJ a8), none, some (vI a10), none] [] S F G Q := by
  unfold V_X10_add_259 at h
  refine go_iload (show decode cX10_add 259 = .ok (.iload 10, 2) by decide +kernel) (by rfl) ?_
  refine go_aload_n (show decode cX10_add 261 = .ok (.aload_n 0, 1) by decide +kernel) (by rfl) ?_
  refine go_getRc (show decode cX10_add 262 = .ok (.getfield 29, 3) by decide +kernel) fl_X10_29 rfl (shm_k hsm 53 (by decide) (by decide)) (v := 55) (shm_r hsm 53 5 (by decide) (by decide)) ?_
  refine go_iconst (show decode cX10_add 265 = .ok (.iconst 0, 1) by decide +kernel) (by decide) ?_
  refine go_iaload (show decode cX10_add 266 = .ok (.iaload, 1) by decide +kernel) (shm_k hsm 55 (by decide) (by decide)) (by decide) (lt_n (m := 2) (by decide) (shm_n hsm 55 (by decide) (by decide))) ?_
  obtain ⟨ht, hf⟩ := h
  refine go_icmpge (tgt := 341) (show decode cX10_add 267 = .ok (.if_icmp .ge 74, 3) by decide +kernel) (by decide) (fun hc => ?_) (fun hc => ?_)
  · have h := ht hc
    refine go_aload_n (show decode cX10_add 341 = .ok (.aload_n 0, 1) by decide +kernel) (by rfl) ?_
    refine go_getRc (show decode cX10_add 342 = .ok (.getfield 43, 3) by decide +kernel) fl_X10_43 rfl (shm_k hsm 53 (by decide) (by decide)) (v := 59) (shm_r hsm 53 9 (by decide) (by decide)) ?_
    refine go_iload_n (show decode cX10_add 345 = .ok (.iload_n 1, 1) by decide +kernel) (by rfl) ?_
    refine go_dup2 (show decode cX10_add 346 = .ok (.dup2, 1) by decide +kernel) ?_
    obtain ⟨q1, h⟩ := h
    obtain ⟨q2, h⟩ := h
    refine go_laload (show decode cX10_add 347 = .ok (.laload, 1) by decide +kernel) (shm_k hsm 59 (by decide) (by decide)) q1 (lt_n (m := 3) q2 (shm_n hsm 59 (by decide) (by decide))) ?_
    refine go_lload (show decode cX10_add 348 = .ok (.lload 8, 2) by decide +kernel) (by rfl) ?_
    obtain ⟨q3, h⟩ := h
    refine go_ladd (show decode cX10_add 350 = .ok (.ladd, 1) by decide +kernel) q3 ?_
    refine go_lastore (show decode cX10_add 351 = .ok (.lastore, 1) by decide +kernel) (shm_k hsm 59 (by decide) (by decide)) q1 (lt_n (m := 3) q2 (shm_n hsm 59 (by decide) (by decide)))  ?_
    obtain ⟨G4, G4e⟩ : ∃ G4 : AG, G4 = gu G 59 a1 ((G 59 a1) + a8) := ⟨_, rfl⟩
    have h := h G4 G4e
    rw [← G4e]
    refine go_aload_n (show decode cX10_add 352 = .ok (.aload_n 0, 1) by decide +kernel) (by rfl) ?_
    refine go_iconst (show decode cX10_add 353 = .ok (.iconst 0, 1) by decide +kernel) (by decide) ?_
    refine go_iload_n (show decode cX10_add 354 = .ok (.iload_n 1, 1) by decide +kernel) (by rfl) ?_
    refine go_iload_n (show decode cX10_add 355 = .ok (.iload_n 2, 1) by decide +kernel) (by rfl) ?_
    refine go_iload_n (show decode cX10_add 356 = .ok (.iload_n 3, 1) by decide +kernel) (by rfl) ?_
    refine go_iload (show decode cX10_add 357 = .ok (.iload 4, 2) by decide +kernel) (by rfl) ?_
    refine go_iload (show decode cX10_add 359 = .ok (.iload 5, 2) by decide +kernel) (by rfl) ?_
    refine go_iload (show decode cX10_add 361 = .ok (.iload 6, 2) by decide +kernel) (by rfl) ?_
    refine go_i2l (show decode cX10_add 363 = .ok (.i2l, 1) by decide +kernel) ?_
    obtain ⟨q5, h⟩ := h
    refine go_callV (d2 := d - 1) (M2 := MX10_tells) (n := 7) (ci := 10) (av := [vI 0, vI a1, vI a2, vI a3, vI a4, vI a5, vJ a6]) (st := []) (show decode cX10_add 364 = .ok (.invokevirtual 213, 3) by decide +kernel) ml_X10_213 mt_X10_tells min_X10_tells mse_X10_tells (by decide) (shm_k hsm 53 (by decide) (by decide)) rfl (Nat.le_of_ble_eq_true rfl) (by omega) (ok_mono h (fun w6 S7 F8 G9 h => ?_))
    obtain ⟨e8, h⟩ := h
    replace e8 := e8.symm; subst e8
    obtain ⟨e9, h⟩ := h
    subst e9
    show Go d MX10_add 367 [some (vR 53), some (vI a1), some (vI a2), some (vI a3), some (vI a4), some (vI a5), some (vI a6), some (vI a7), some (vJ a8), none, some (vI a10), none] [] S F8 G9 Q
    refine go_aload_n (show decode cX10_add 367 = .ok (.aload_n 0, 1) by decide +kernel) (by rfl) ?_
    refine go_getRc (show decode cX10_add 368 = .ok (.getfield 43, 3) by decide +kernel) fl_X10_43 rfl (shm_k hsm 53 (by decide) (by decide)) (v := 59) (shm_r hsm 53 9 (by decide) (by decide)) ?_
    refine go_iload_n (show decode cX10_add 371 = .ok (.iload_n 1, 1) by decide +kernel) (by rfl) ?_
    refine go_laload (show decode cX10_add 372 = .ok (.laload, 1) by decide +kernel) (shm_k hsm 59 (by decide) (by decide)) q1 (lt_n (m := 3) q2 (shm_n hsm 59 (by decide) (by decide))) ?_
    exact go_lret (show decode cX10_add 373 = .ok (.lreturn, 1) by decide +kernel) rfl h
  · have h := hf hc
    refine go_iconst (show decode cX10_add 270 = .ok (.iconst 0, 1) by decide +kernel) (by decide) ?_
    refine go_istore (show decode cX10_add 271 = .ok (.istore 11, 2) by decide +kernel) (by decide) ?_
    show Go d MX10_add 273 [some (vR 53), some (vI a1), some (vI a2), some (vI a3), some (vI a4), some (vI a5), some (vI a6), some (vI a7), some (vJ a8), none, some (vI a10), some (vI 0)] [] S F G Q
    exact h
def V_X10_add_147 (d : Nat) (S : AS) (F : AF) (G : AG) (Q : AQ) (a1 : Int) (a2 : Int) (a3 : Int) (a4 : Int) (a5 : Int) (a6 : Int) (a7 : Int) (a8 : Int) : Prop :=
  (r32 (a8 + 1)) ∧
  Go d MX10_add 80 [some (vR 53), some (vI a1), some (vI a2), some (vI a3), some (vI a4), some (vI a5), some (vI a6), some (vI a7), some (vI (a8 + 1)), none, none, none] [] S F G Q
theorem R_X10_add_147 {d : Nat} {S : AS} {F : AF} {G : AG} {Q : AQ} {a1 : Int} {a2 : Int} {a3 : Int} {a4 : Int} {a5 : Int} {a6 : Int} {a7 : Int} {a8 : Int} (hsm : ShM S) (h : V_X10_add_147 d S F G Q a1 a2 a3 a4 a5 a6 a7 a8) : Go d MX10_add 147 [some (vR 53), some (vI a1), some (vI a2), some (vI a3), some (vI a4), some (vI a5), some (vI a6), some (vI a7), some (vI a8), none, none, none] [] S F G Q := by
  unfold V_X10_add_147 at h
  obtain ⟨q1, h⟩ := h
  refine go_iinc (show decode cX10_add 147 = .ok (.iinc 8 1, 3) by decide +kernel) (by rfl) q1 (by decide) ?_
  show Go d MX10_add 150 [some (vR 53), some (vI a1), some (vI a2), some (vI a3), some (vI a4), some (vI a5), some (vI a6), some (vI a7), some (vI (a8 + 1)), none, none, none] [] S F G Q
  refine go_goto (tgt := 80) (show decode cX10_add 150 = .ok (.goto (-70), 3) by decide +kernel) (by decide) ?_
  exact h
def V_X10_add_80 (d : Nat) (S : AS) (F : AF) (G : AG) (Q : AQ) (a1 : Int) (a2 : Int) (a3 : Int) (a4 : Int) (a5 : Int) (a6 : Int) (a7 : Int) (a8 : Int) : Prop :=
  ((6 ≤ a8) →
    (r32 (a4 - a2)) ∧
    (r64 ((a4 - a2) + 1)) ∧
    (r32 (a5 - a3)) ∧
    (r64 ((a5 - a3) + 1)) ∧
    (r64 (((a4 - a2) + 1) * ((a5 - a3) + 1))) ∧
    (r64 ((((a4 - a2) + 1) * ((a5 - a3) + 1)) * a6)) ∧
    ∀ x7 : Int, x7 = (((a4 - a2) + 1) * ((a5 - a3) + 1)) * a6 →
    ((0 : Int) ≤ a1) ∧
    ((a1 : Int) < 3) ∧
    (r64 ((G 59 a1) + x7)) ∧
    (((G 59 a1) + x7 ≤ 3000000000000000000) →
      (1 ≤ d) ∧
      Ok (d - 1) MX10_hasRoom [vR 53, vI 0, vI a2, vI a4, vI (-1)] S F G (fun w12 S13 F14 G15 =>
      S13 = S ∧
      ∃ z16 : Int, w12 = some (vI z16) ∧
      ((z16 = 0) →
        Q (some (vJ (-4))) S F14 G15) ∧
      ((¬ z16 = 0) →
        Ok (d - 1) MX10_hasRoom [vR 53, vI 1, vI a3, vI a5, vI (-1)] S F14 G15 (fun w17 S18 F19 G20 =>
        S18 = S ∧
        ∃ z21 : Int, w17 = some (vI z21) ∧
        ((¬ z21 = 0) →
          Ok (d - 1) MX10_acts [vR 53] S F19 G20 (fun w22 S23 F24 G25 =>
          S23 = S ∧
          w22 = none ∧
          Ok (d - 1) MX10_comes [vR 53, vI 0, vI a2] S F24 G25 (fun w26 S27 F28 G29 =>
          S27 = S ∧
          w26 = none ∧
          (r32 (a4 + 1)) ∧
          Ok (d - 1) MX10_comes [vR 53, vI 0, vI (a4 + 1)] S F28 G29 (fun w31 S32 F33 G34 =>
          S32 = S ∧
          w31 = none ∧
          Ok (d - 1) MX10_comes [vR 53, vI 1, vI a3] S F33 G34 (fun w35 S36 F37 G38 =>
          S36 = S ∧
          w35 = none ∧
          (r32 (a5 + 1)) ∧
          Ok (d - 1) MX10_comes [vR 53, vI 1, vI (a5 + 1)] S F37 G38 (fun w40 S41 F42 G43 =>
          S41 = S ∧
          w40 = none ∧
          Go d MX10_add 259 [some (vR 53), some (vI a1), some (vI a2), some (vI a3), some (vI a4), some (vI a5), some (vI a6), some (vI a7), some (vJ x7), none, some (vI 0), none] [] S F42 G43 Q)))))) ∧
        ((z21 = 0) →
          Q (some (vJ (-4))) S F19 G20))))) ∧
    ((¬ (G 59 a1) + x7 ≤ 3000000000000000000) →
      Q (some (vJ (-6))) S F G)) ∧
  ((¬ 6 ≤ a8) →
    ((a6 ≤ 0) →
      V_X10_add_147 d S F G Q a1 a2 a3 a4 a5 a6 a7 a8) ∧
    ((¬ a6 ≤ 0) →
      ((0 : Int) ≤ a8) ∧
      ((a8 : Int) < 6) ∧
      ((G 65 a8 = 0) →
        V_X10_add_147 d S F G Q a1 a2 a3 a4 a5 a6 a7 a8) ∧
      ((¬ G 65 a8 = 0) →
        (1 ≤ d) ∧
        Ok (d - 1) MX10_meets [vR 53, vI a8, vI a2, vI a3, vI a4, vI a5] S F G (fun w47 S48 F49 G50 =>
        S48 = S ∧
        ∃ z51 : Int, w47 = some (vI z51) ∧
        ((z51 = 0) →
          V_X10_add_147 d S F49 G50 Q a1 a2 a3 a4 a5 a6 a7 a8) ∧
        ((¬ z51 = 0) →
          ∃ z56 : Int, Pu (d - 1) MX10_zoned [vR 53, vI a8] S F49 G50 (some (vJ z56)) ∧
          ∃ z62 : Int, Pu (d - 1) MX10_cells [vR 53] S F49 G50 (some (vJ z62)) ∧
          (r64 (z62 * a6)) ∧
          (r64 (z56 + (z62 * a6))) ∧
          ((z56 + (z62 * a6) ≤ G50 64 a8) →
            V_X10_add_147 d S F49 G50 Q a1 a2 a3 a4 a5 a6 a7 a8) ∧
          ((¬ z56 + (z62 * a6) ≤ G50 64 a8) →
            Q (some (vJ (-9))) S F49 G50))))))
theorem R_X10_add_80 {d : Nat} {S : AS} {F : AF} {G : AG} {Q : AQ} {a1 : Int} {a2 : Int} {a3 : Int} {a4 : Int} {a5 : Int} {a6 : Int} {a7 : Int} {a8 : Int} (hsm : ShM S) (h : V_X10_add_80 d S F G Q a1 a2 a3 a4 a5 a6 a7 a8) : Go d MX10_add 80 [some (vR 53), some (vI a1), some (vI a2), some (vI a3), some (vI a4), some (vI a5), some (vI a6), some (vI a7), some (vI a8), none, none, none] [] S F G Q := by
  unfold V_X10_add_80 at h
  refine go_iload (show decode cX10_add 80 = .ok (.iload 8, 2) by decide +kernel) (by rfl) ?_
  refine go_bipush (show decode cX10_add 82 = .ok (.bipush 6, 2) by decide +kernel) (by decide) ?_
  obtain ⟨ht, hf⟩ := h
  refine go_icmpge (tgt := 153) (show decode cX10_add 84 = .ok (.if_icmp .ge 69, 3) by decide +kernel) (by decide) (fun hc => ?_) (fun hc => ?_)
  · have h := ht hc
    refine go_iload (show decode cX10_add 153 = .ok (.iload 4, 2) by decide +kernel) (by rfl) ?_
    refine go_iload_n (show decode cX10_add 155 = .ok (.iload_n 2, 1) by decide +kernel) (by rfl) ?_
    obtain ⟨q1, h⟩ := h
    refine go_isub (show decode cX10_add 156 = .ok (.isub, 1) by decide +kernel) q1 ?_
    refine go_i2l (show decode cX10_add 157 = .ok (.i2l, 1) by decide +kernel) ?_
    refine go_lconst (n := 1) (show decode cX10_add 158 = .ok (.lconst 1, 1) by decide +kernel) ?_
    show Go d MX10_add 159 [some (vR 53), some (vI a1), some (vI a2), some (vI a3), some (vI a4), some (vI a5), some (vI a6), some (vI a7), some (vI a8), none, none, none] [vJ 1, vJ (a4 - a2)] S F G Q
    obtain ⟨q2, h⟩ := h
    refine go_ladd (show decode cX10_add 159 = .ok (.ladd, 1) by decide +kernel) q2 ?_
    refine go_iload (show decode cX10_add 160 = .ok (.iload 5, 2) by decide +kernel) (by rfl) ?_
    refine go_iload_n (show decode cX10_add 162 = .ok (.iload_n 3, 1) by decide +kernel) (by rfl) ?_
    obtain ⟨q3, h⟩ := h
    refine go_isub (show decode cX10_add 163 = .ok (.isub, 1) by decide +kernel) q3 ?_
    refine go_i2l (show decode cX10_add 164 = .ok (.i2l, 1) by decide +kernel) ?_
    refine go_lconst (n := 1) (show decode cX10_add 165 = .ok (.lconst 1, 1) by decide +kernel) ?_
    show Go d MX10_add 166 [some (vR 53), some (vI a1), some (vI a2), some (vI a3), some (vI a4), some (vI a5), some (vI a6), some (vI a7), some (vI a8), none, none, none] [vJ 1, vJ (a5 - a3), vJ ((a4 - a2) + 1)] S F G Q
    obtain ⟨q4, h⟩ := h
    refine go_ladd (show decode cX10_add 166 = .ok (.ladd, 1) by decide +kernel) q4 ?_
    obtain ⟨q5, h⟩ := h
    refine go_lmul (show decode cX10_add 167 = .ok (.lmul, 1) by decide +kernel) q5 ?_
    refine go_iload (show decode cX10_add 168 = .ok (.iload 6, 2) by decide +kernel) (by rfl) ?_
    refine go_i2l (show decode cX10_add 170 = .ok (.i2l, 1) by decide +kernel) ?_
    obtain ⟨q6, h⟩ := h
    refine go_lmul (show decode cX10_add 171 = .ok (.lmul, 1) by decide +kernel) q6 ?_
    obtain ⟨x7, x7e⟩ : ∃ x7 : Int, x7 = (((a4 - a2) + 1) * ((a5 - a3) + 1)) * a6 := ⟨_, rfl⟩
    have h := h x7 x7e
    rw [← x7e]
    refine go_lstore (show decode cX10_add 172 = .ok (.lstore 8, 2) by decide +kernel) (by decide) ?_
    show Go d MX10_add 174 [some (vR 53), some (vI a1), some (vI a2), some (vI a3), some (vI a4), some (vI a5), some (vI a6), some (vI a7), some (vJ x7), none, none, none] [] S F G Q
    refine go_aload_n (show decode cX10_add 174 = .ok (.aload_n 0, 1) by decide +kernel) (by rfl) ?_
    refine go_getRc (show decode cX10_add 175 = .ok (.getfield 43, 3) by decide +kernel) fl_X10_43 rfl (shm_k hsm 53 (by decide) (by decide)) (v := 59) (shm_r hsm 53 9 (by decide) (by decide)) ?_
    refine go_iload_n (show decode cX10_add 178 = .ok (.iload_n 1, 1) by decide +kernel) (by rfl) ?_
    obtain ⟨q8, h⟩ := h
    obtain ⟨q9, h⟩ := h
    refine go_laload (show decode cX10_add 179 = .ok (.laload, 1) by decide +kernel) (shm_k hsm 59 (by decide) (by decide)) q8 (lt_n (m := 3) q9 (shm_n hsm 59 (by decide) (by decide))) ?_
    refine go_lload (show decode cX10_add 180 = .ok (.lload 8, 2) by decide +kernel) (by rfl) ?_
    obtain ⟨q10, h⟩ := h
    refine go_ladd (show decode cX10_add 182 = .ok (.ladd, 1) by decide +kernel) q10 ?_
    refine go_ldc2 (show decode cX10_add 183 = .ok (.ldc2_w 198, 3) by decide +kernel) lc_X10_198 (by decide) ?_
    obtain ⟨ht, hf⟩ := h
    refine go_jle (tgt := 194) (show decode cX10_add 186 = .ok (.lcmp, 1) by decide +kernel) (show decode cX10_add 187 = .ok (.ifCond .le 7, 3) by decide +kernel) (by decide) (fun hc => ?_) (fun hc => ?_)
    · have h := ht hc
      refine go_aload_n (show decode cX10_add 194 = .ok (.aload_n 0, 1) by decide +kernel) (by rfl) ?_
      refine go_iconst (show decode cX10_add 195 = .ok (.iconst 0, 1) by decide +kernel) (by decide) ?_
      refine go_iload_n (show decode cX10_add 196 = .ok (.iload_n 2, 1) by decide +kernel) (by rfl) ?_
      refine go_iload (show decode cX10_add 197 = .ok (.iload 4, 2) by decide +kernel) (by rfl) ?_
      refine go_iconst (show decode cX10_add 199 = .ok (.iconst (-1), 1) by decide +kernel) (by decide) ?_
      obtain ⟨q11, h⟩ := h
      refine go_callV (d2 := d - 1) (M2 := MX10_hasRoom) (n := 4) (ci := 10) (av := [vI 0, vI a2, vI a4, vI (-1)]) (st := []) (show decode cX10_add 200 = .ok (.invokevirtual 202, 3) by decide +kernel) ml_X10_202 mt_X10_hasRoom min_X10_hasRoom mse_X10_hasRoom (by decide) (shm_k hsm 53 (by decide) (by decide)) rfl (Nat.le_of_ble_eq_true rfl) (by omega) (ok_mono h (fun w12 S13 F14 G15 h => ?_))
      obtain ⟨e8, h⟩ := h
      replace e8 := e8.symm; subst e8
      obtain ⟨z16, e9, h⟩ := h
      subst e9
      show Go d MX10_add 203 [some (vR 53), some (vI a1), some (vI a2), some (vI a3), some (vI a4), some (vI a5), some (vI a6), some (vI a7), some (vJ x7), none, none, none] [vI z16] S F14 G15 Q
      obtain ⟨ht, hf⟩ := h
      refine go_ifeq (tgt := 218) (show decode cX10_add 203 = .ok (.ifCond .eq 15, 3) by decide +kernel) (by decide) (fun hc => ?_) (fun hc => ?_)
      · have h := ht hc
        refine go_ldc2 (show decode cX10_add 218 = .ok (.ldc2_w 205, 3) by decide +kernel) lc_X10_205 (by decide) ?_
        exact go_lret (show decode cX10_add 221 = .ok (.lreturn, 1) by decide +kernel) rfl h
      · have h := hf hc
        refine go_aload_n (show decode cX10_add 206 = .ok (.aload_n 0, 1) by decide +kernel) (by rfl) ?_
        refine go_iconst (show decode cX10_add 207 = .ok (.iconst 1, 1) by decide +kernel) (by decide) ?_
        refine go_iload_n (show decode cX10_add 208 = .ok (.iload_n 3, 1) by decide +kernel) (by rfl) ?_
        refine go_iload (show decode cX10_add 209 = .ok (.iload 5, 2) by decide +kernel) (by rfl) ?_
        refine go_iconst (show decode cX10_add 211 = .ok (.iconst (-1), 1) by decide +kernel) (by decide) ?_
        refine go_callV (d2 := d - 1) (M2 := MX10_hasRoom) (n := 4) (ci := 10) (av := [vI 1, vI a3, vI a5, vI (-1)]) (st := []) (show decode cX10_add 212 = .ok (.invokevirtual 202, 3) by decide +kernel) ml_X10_202 mt_X10_hasRoom min_X10_hasRoom mse_X10_hasRoom (by decide) (shm_k hsm 53 (by decide) (by decide)) rfl (Nat.le_of_ble_eq_true rfl) (by omega) (ok_mono h (fun w17 S18 F19 G20 h => ?_))
        obtain ⟨e8, h⟩ := h
        replace e8 := e8.symm; subst e8
        obtain ⟨z21, e9, h⟩ := h
        subst e9
        show Go d MX10_add 215 [some (vR 53), some (vI a1), some (vI a2), some (vI a3), some (vI a4), some (vI a5), some (vI a6), some (vI a7), some (vJ x7), none, none, none] [vI z21] S F19 G20 Q
        obtain ⟨ht, hf⟩ := h
        refine go_ifne (tgt := 222) (show decode cX10_add 215 = .ok (.ifCond .ne 7, 3) by decide +kernel) (by decide) (fun hc => ?_) (fun hc => ?_)
        · have h := ht hc
          refine go_aload_n (show decode cX10_add 222 = .ok (.aload_n 0, 1) by decide +kernel) (by rfl) ?_
          refine go_callV (d2 := d - 1) (M2 := MX10_acts) (n := 0) (ci := 10) (av := []) (st := []) (show decode cX10_add 223 = .ok (.invokevirtual 207, 3) by decide +kernel) ml_X10_207 mt_X10_acts min_X10_acts mse_X10_acts (by decide) (shm_k hsm 53 (by decide) (by decide)) rfl (Nat.le_of_ble_eq_true rfl) (by omega) (ok_mono h (fun w22 S23 F24 G25 h => ?_))
          obtain ⟨e8, h⟩ := h
          replace e8 := e8.symm; subst e8
          obtain ⟨e9, h⟩ := h
          subst e9
          show Go d MX10_add 226 [some (vR 53), some (vI a1), some (vI a2), some (vI a3), some (vI a4), some (vI a5), some (vI a6), some (vI a7), some (vJ x7), none, none, none] [] S F24 G25 Q
          refine go_aload_n (show decode cX10_add 226 = .ok (.aload_n 0, 1) by decide +kernel) (by rfl) ?_
          refine go_iconst (show decode cX10_add 227 = .ok (.iconst 0, 1) by decide +kernel) (by decide) ?_
          refine go_iload_n (show decode cX10_add 228 = .ok (.iload_n 2, 1) by decide +kernel) (by rfl) ?_
          refine go_callV (d2 := d - 1) (M2 := MX10_comes) (n := 2) (ci := 10) (av := [vI 0, vI a2]) (st := []) (show decode cX10_add 229 = .ok (.invokevirtual 210, 3) by decide +kernel) ml_X10_210 mt_X10_comes min_X10_comes mse_X10_comes (by decide) (shm_k hsm 53 (by decide) (by decide)) rfl (Nat.le_of_ble_eq_true rfl) (by omega) (ok_mono h (fun w26 S27 F28 G29 h => ?_))
          obtain ⟨e8, h⟩ := h
          replace e8 := e8.symm; subst e8
          obtain ⟨e9, h⟩ := h
          subst e9
          show Go d MX10_add 232 [some (vR 53), some (vI a1), some (vI a2), some (vI a3), some (vI a4), some (vI a5), some (vI a6), some (vI a7), some (vJ x7), none, none, none] [] S F28 G29 Q
          refine go_aload_n (show decode cX10_add 232 = .ok (.aload_n 0, 1) by decide +kernel) (by rfl) ?_
          refine go_iconst (show decode cX10_add 233 = .ok (.iconst 0, 1) by decide +kernel) (by decide) ?_
          refine go_iload (show decode cX10_add 234 = .ok (.iload 4, 2) by decide +kernel) (by rfl) ?_
          refine go_iconst (show decode cX10_add 236 = .ok (.iconst 1, 1) by decide +kernel) (by decide) ?_
          obtain ⟨q30, h⟩ := h
          refine go_iadd (show decode cX10_add 237 = .ok (.iadd, 1) by decide +kernel) q30 ?_
          refine go_callV (d2 := d - 1) (M2 := MX10_comes) (n := 2) (ci := 10) (av := [vI 0, vI (a4 + 1)]) (st := []) (show decode cX10_add 238 = .ok (.invokevirtual 210, 3) by decide +kernel) ml_X10_210 mt_X10_comes min_X10_comes mse_X10_comes (by decide) (shm_k hsm 53 (by decide) (by decide)) rfl (Nat.le_of_ble_eq_true rfl) (by omega) (ok_mono h (fun w31 S32 F33 G34 h => ?_))
          obtain ⟨e8, h⟩ := h
          replace e8 := e8.symm; subst e8
          obtain ⟨e9, h⟩ := h
          subst e9
          show Go d MX10_add 241 [some (vR 53), some (vI a1), some (vI a2), some (vI a3), some (vI a4), some (vI a5), some (vI a6), some (vI a7), some (vJ x7), none, none, none] [] S F33 G34 Q
          refine go_aload_n (show decode cX10_add 241 = .ok (.aload_n 0, 1) by decide +kernel) (by rfl) ?_
          refine go_iconst (show decode cX10_add 242 = .ok (.iconst 1, 1) by decide +kernel) (by decide) ?_
          refine go_iload_n (show decode cX10_add 243 = .ok (.iload_n 3, 1) by decide +kernel) (by rfl) ?_
          refine go_callV (d2 := d - 1) (M2 := MX10_comes) (n := 2) (ci := 10) (av := [vI 1, vI a3]) (st := []) (show decode cX10_add 244 = .ok (.invokevirtual 210, 3) by decide +kernel) ml_X10_210 mt_X10_comes min_X10_comes mse_X10_comes (by decide) (shm_k hsm 53 (by decide) (by decide)) rfl (Nat.le_of_ble_eq_true rfl) (by omega) (ok_mono h (fun w35 S36 F37 G38 h => ?_))
          obtain ⟨e8, h⟩ := h
          replace e8 := e8.symm; subst e8
          obtain ⟨e9, h⟩ := h
          subst e9
          show Go d MX10_add 247 [some (vR 53), some (vI a1), some (vI a2), some (vI a3), some (vI a4), some (vI a5), some (vI a6), some (vI a7), some (vJ x7), none, none, none] [] S F37 G38 Q
          refine go_aload_n (show decode cX10_add 247 = .ok (.aload_n 0, 1) by decide +kernel) (by rfl) ?_
          refine go_iconst (show decode cX10_add 248 = .ok (.iconst 1, 1) by decide +kernel) (by decide) ?_
          refine go_iload (show decode cX10_add 249 = .ok (.iload 5, 2) by decide +kernel) (by rfl) ?_
          refine go_iconst (show decode cX10_add 251 = .ok (.iconst 1, 1) by decide +kernel) (by decide) ?_
          obtain ⟨q39, h⟩ := h
          refine go_iadd (show decode cX10_add 252 = .ok (.iadd, 1) by decide +kernel) q39 ?_
          refine go_callV (d2 := d - 1) (M2 := MX10_comes) (n := 2) (ci := 10) (av := [vI 1, vI (a5 + 1)]) (st := []) (show decode cX10_add 253 = .ok (.invokevirtual 210, 3) by decide +kernel) ml_X10_210 mt_X10_comes min_X10_comes mse_X10_comes (by decide) (shm_k hsm 53 (by decide) (by decide)) rfl (Nat.le_of_ble_eq_true rfl) (by omega) (ok_mono h (fun w40 S41 F42 G43 h => ?_))
          obtain ⟨e8, h⟩ := h
          replace e8 := e8.symm; subst e8
          obtain ⟨e9, h⟩ := h
          subst e9
          show Go d MX10_add 256 [some (vR 53), some (vI a1), some (vI a2), some (vI a3), some (vI a4), some (vI a5), some (vI a6), some (vI a7), some (vJ x7), none, none, none] [] S F42 G43 Q
          refine go_iconst (show decode cX10_add 256 = .ok (.iconst 0, 1) by decide +kernel) (by decide) ?_
          refine go_istore (show decode cX10_add 257 = .ok (.istore 10, 2) by decide +kernel) (by decide) ?_
          show Go d MX10_add 259 [some (vR 53), some (vI a1), some (vI a2), some (vI a3), some (vI a4), some (vI a5), some (vI a6), some (vI a7), some (vJ x7), none, some (vI 0), none] [] S F42 G43 Q
          exact h
        · have h := hf hc
          refine go_ldc2 (show decode cX10_add 218 = .ok (.ldc2_w 205, 3) by decide +kernel) lc_X10_205 (by decide) ?_
          exact go_lret (show decode cX10_add 221 = .ok (.lreturn, 1) by decide +kernel) rfl h
    · have h := hf hc
      refine go_ldc2 (show decode cX10_add 190 = .ok (.ldc2_w 200, 3) by decide +kernel) lc_X10_200 (by decide) ?_
      exact go_lret (show decode cX10_add 193 = .ok (.lreturn, 1) by decide +kernel) rfl h
  · have h := hf hc
    refine go_iload (show decode cX10_add 87 = .ok (.iload 6, 2) by decide +kernel) (by rfl) ?_
    obtain ⟨ht, hf⟩ := h
    refine go_ifle (tgt := 147) (show decode cX10_add 89 = .ok (.ifCond .le 58, 3) by decide +kernel) (by decide) (fun hc => ?_) (fun hc => ?_)
    · have h := ht hc
      exact R_X10_add_147 hsm h
    · have h := hf hc
      refine go_aload_n (show decode cX10_add 92 = .ok (.aload_n 0, 1) by decide +kernel) (by rfl) ?_
      refine go_getRc (show decode cX10_add 93 = .ok (.getfield 61, 3) by decide +kernel) fl_X10_61 rfl (shm_k hsm 53 (by decide) (by decide)) (v := 65) (shm_r hsm 53 17 (by decide) (by decide)) ?_
      refine go_iload (show decode cX10_add 96 = .ok (.iload 8, 2) by decide +kernel) (by rfl) ?_
      obtain ⟨q44, h⟩ := h
      obtain ⟨q45, h⟩ := h
      refine go_zaload (show decode cX10_add 98 = .ok (.baload, 1) by decide +kernel) (shm_k hsm 65 (by decide) (by decide)) q44 (lt_n (m := 6) q45 (shm_n hsm 65 (by decide) (by decide))) ?_
      obtain ⟨ht, hf⟩ := h
      refine go_ifeq (tgt := 147) (show decode cX10_add 99 = .ok (.ifCond .eq 48, 3) by decide +kernel) (by decide) (fun hc => ?_) (fun hc => ?_)
      · have h := ht hc
        exact R_X10_add_147 hsm h
      · have h := hf hc
        refine go_aload_n (show decode cX10_add 102 = .ok (.aload_n 0, 1) by decide +kernel) (by rfl) ?_
        refine go_iload (show decode cX10_add 103 = .ok (.iload 8, 2) by decide +kernel) (by rfl) ?_
        refine go_iload_n (show decode cX10_add 105 = .ok (.iload_n 2, 1) by decide +kernel) (by rfl) ?_
        refine go_iload_n (show decode cX10_add 106 = .ok (.iload_n 3, 1) by decide +kernel) (by rfl) ?_
        refine go_iload (show decode cX10_add 107 = .ok (.iload 4, 2) by decide +kernel) (by rfl) ?_
        refine go_iload (show decode cX10_add 109 = .ok (.iload 5, 2) by decide +kernel) (by rfl) ?_
        obtain ⟨q46, h⟩ := h
        refine go_callV (d2 := d - 1) (M2 := MX10_meets) (n := 5) (ci := 10) (av := [vI a8, vI a2, vI a3, vI a4, vI a5]) (st := []) (show decode cX10_add 111 = .ok (.invokevirtual 184, 3) by decide +kernel) ml_X10_184 mt_X10_meets min_X10_meets mse_X10_meets (by decide) (shm_k hsm 53 (by decide) (by decide)) rfl (Nat.le_of_ble_eq_true rfl) (by omega) (ok_mono h (fun w47 S48 F49 G50 h => ?_))
        obtain ⟨e8, h⟩ := h
        replace e8 := e8.symm; subst e8
        obtain ⟨z51, e9, h⟩ := h
        subst e9
        show Go d MX10_add 114 [some (vR 53), some (vI a1), some (vI a2), some (vI a3), some (vI a4), some (vI a5), some (vI a6), some (vI a7), some (vI a8), none, none, none] [vI z51] S F49 G50 Q
        obtain ⟨ht, hf⟩ := h
        refine go_ifeq (tgt := 147) (show decode cX10_add 114 = .ok (.ifCond .eq 33, 3) by decide +kernel) (by decide) (fun hc => ?_) (fun hc => ?_)
        · have h := ht hc
          exact R_X10_add_147 hsm h
        · have h := hf hc
          refine go_aload_n (show decode cX10_add 117 = .ok (.aload_n 0, 1) by decide +kernel) (by rfl) ?_
          refine go_iload (show decode cX10_add 118 = .ok (.iload 8, 2) by decide +kernel) (by rfl) ?_
          obtain ⟨z56, p57, h⟩ := h
          refine go_callV (d2 := d - 1) (M2 := MX10_zoned) (n := 1) (ci := 10) (av := [vI a8]) (st := []) (show decode cX10_add 120 = .ok (.invokevirtual 188, 3) by decide +kernel) ml_X10_188 mt_X10_zoned min_X10_zoned mse_X10_zoned (by decide) (shm_k hsm 53 (by decide) (by decide)) rfl (Nat.le_of_ble_eq_true rfl) (by omega) (ok_mono p57 (fun w52 S53 F54 G55 e9 => ?_))
          obtain ⟨e1, e2, e3, e4⟩ := e9
          subst e1
          replace e2 := e2.symm; subst e2
          replace e3 := e3.symm; subst e3
          replace e4 := e4.symm; subst e4
          show Go d MX10_add 123 [some (vR 53), some (vI a1), some (vI a2), some (vI a3), some (vI a4), some (vI a5), some (vI a6), some (vI a7), some (vI a8), none, none, none] [vJ z56] S F49 G50 Q
          refine go_aload_n (show decode cX10_add 123 = .ok (.aload_n 0, 1) by decide +kernel) (by rfl) ?_
          obtain ⟨z62, p63, h⟩ := h
          refine go_callV (d2 := d - 1) (M2 := MX10_cells) (n := 0) (ci := 10) (av := []) (st := [vJ z56]) (show decode cX10_add 124 = .ok (.invokevirtual 192, 3) by decide +kernel) ml_X10_192 mt_X10_cells min_X10_cells mse_X10_cells (by decide) (shm_k hsm 53 (by decide) (by decide)) rfl (Nat.le_of_ble_eq_true rfl) (by omega) (ok_mono p63 (fun w58 S59 F60 G61 e9 => ?_))
          obtain ⟨e1, e2, e3, e4⟩ := e9
          subst e1
          replace e2 := e2.symm; subst e2
          replace e3 := e3.symm; subst e3
          replace e4 := e4.symm; subst e4
          show Go d MX10_add 127 [some (vR 53), some (vI a1), some (vI a2), some (vI a3), some (vI a4), some (vI a5), some (vI a6), some (vI a7), some (vI a8), none, none, none] [vJ z62, vJ z56] S F49 G50 Q
          refine go_iload (show decode cX10_add 127 = .ok (.iload 6, 2) by decide +kernel) (by rfl) ?_
          refine go_i2l (show decode cX10_add 129 = .ok (.i2l, 1) by decide +kernel) ?_
          obtain ⟨q64, h⟩ := h
          refine go_lmul (show decode cX10_add 130 = .ok (.lmul, 1) by decide +kernel) q64 ?_
          obtain ⟨q65, h⟩ := h
          refine go_ladd (show decode cX10_add 131 = .ok (.ladd, 1) by decide +kernel) q65 ?_
          refine go_aload_n (show decode cX10_add 132 = .ok (.aload_n 0, 1) by decide +kernel) (by rfl) ?_
          refine go_getRc (show decode cX10_add 133 = .ok (.getfield 58, 3) by decide +kernel) fl_X10_58 rfl (shm_k hsm 53 (by decide) (by decide)) (v := 64) (shm_r hsm 53 16 (by decide) (by decide)) ?_
          refine go_iload (show decode cX10_add 136 = .ok (.iload 8, 2) by decide +kernel) (by rfl) ?_
          refine go_laload (show decode cX10_add 138 = .ok (.laload, 1) by decide +kernel) (shm_k hsm 64 (by decide) (by decide)) q44 (lt_n (m := 6) q45 (shm_n hsm 64 (by decide) (by decide))) ?_
          obtain ⟨ht, hf⟩ := h
          refine go_jle (tgt := 147) (show decode cX10_add 139 = .ok (.lcmp, 1) by decide +kernel) (show decode cX10_add 140 = .ok (.ifCond .le 7, 3) by decide +kernel) (by decide) (fun hc => ?_) (fun hc => ?_)
          · have h := ht hc
            exact R_X10_add_147 hsm h
          · have h := hf hc
            refine go_ldc2 (show decode cX10_add 143 = .ok (.ldc2_w 196, 3) by decide +kernel) lc_X10_196 (by decide) ?_
            exact go_lret (show decode cX10_add 146 = .ok (.lreturn, 1) by decide +kernel) rfl h
def V_X10_add_0 (d : Nat) (S : AS) (F : AF) (G : AG) (Q : AQ) (a1 : Int) (a2 : Int) (a3 : Int) (a4 : Int) (a5 : Int) (a6 : Int) : Prop :=
  ∀ F1 : AF, F1 = fu F 53 0 0 →
  (1 ≤ d) ∧
  ∃ z7 : Int, Pu (d - 1) MX10_isGood [vI a1] S F1 G (some (vI z7)) ∧
  ((z7 = 0) →
    Q (some (vJ (-2))) S F1 G) ∧
  ((¬ z7 = 0) →
    ∃ z13 : Int, Pu (d - 1) MX10_isRectangle [vR 53, vI a2, vI a3, vI a4, vI a5] S F1 G (some (vI z13)) ∧
    ((¬ z13 = 0) →
      ∃ z19 : Int, Pu (d - 1) MX10_isIn [vJ a6, vJ (-1000000000), vJ 1000000000] S F1 G (some (vI z19)) ∧
      ((z19 = 0) →
        Q (some (vJ (-3))) S F1 G) ∧
      ((¬ z19 = 0) →
        ((¬ a6 = 0) →
          ∃ z25 : Int, Pu (d - 1) MX10_breaksBy [vR 53, vI a1, vI a2, vI a3, vI a4, vI a5, vI a6] S F1 G (some (vI z25)) ∧
          ((z25 = 0) →
            Go d MX10_add 80 [some (vR 53), some (vI a1), some (vI a2), some (vI a3), some (vI a4), some (vI a5), some (vI a6), some (vI z25), some (vI 0), none, none, none] [] S F1 G Q) ∧
          ((¬ z25 = 0) →
            Q (some (vJ z25)) S F1 G)) ∧
        ((a6 = 0) →
          Q (some (vJ (-3))) S F1 G))) ∧
    ((z13 = 0) →
      Q (some (vJ (-2))) S F1 G))
theorem R_X10_add_0 {d : Nat} {S : AS} {F : AF} {G : AG} {Q : AQ} {a1 : Int} {a2 : Int} {a3 : Int} {a4 : Int} {a5 : Int} {a6 : Int} (hsm : ShM S) (h : V_X10_add_0 d S F G Q a1 a2 a3 a4 a5 a6) : Go d MX10_add 0 [some (vR 53), some (vI a1), some (vI a2), some (vI a3), some (vI a4), some (vI a5), some (vI a6), none, none, none, none, none] [] S F G Q := by
  unfold V_X10_add_0 at h
  refine go_aload_n (show decode cX10_add 0 = .ok (.aload_n 0, 1) by decide +kernel) (by rfl) ?_
  refine go_iconst (show decode cX10_add 1 = .ok (.iconst 0, 1) by decide +kernel) (by decide) ?_
  refine go_putI (show decode cX10_add 2 = .ok (.putfield 1, 3) by decide +kernel) fl_X10_1 rfl (Or.inl rfl) (shm_k hsm 53 (by decide) (by decide)) ?_
  obtain ⟨F1, F1e⟩ : ∃ F1 : AF, F1 = fu F 53 0 0 := ⟨_, rfl⟩
  have h := h F1 F1e
  rw [← F1e]
  refine go_iload_n (show decode cX10_add 5 = .ok (.iload_n 1, 1) by decide +kernel) (by rfl) ?_
  obtain ⟨q2, h⟩ := h
  obtain ⟨z7, p8, h⟩ := h
  refine go_callS (d2 := d - 1) (M2 := MX10_isGood) (n := 1) (av := [vI a1]) (st := []) (show decode cX10_add 6 = .ok (.invokestatic 167, 3) by decide +kernel) ml_X10_167 mt_X10_isGood mst_X10_isGood rfl (Nat.le_of_ble_eq_true rfl) (by omega) (ok_mono p8 (fun w3 S4 F5 G6 e9 => ?_))
  obtain ⟨e1, e2, e3, e4⟩ := e9
  subst e1
  replace e2 := e2.symm; subst e2
  replace e3 := e3.symm; subst e3
  replace e4 := e4.symm; subst e4
  show Go d MX10_add 9 [some (vR 53), some (vI a1), some (vI a2), some (vI a3), some (vI a4), some (vI a5), some (vI a6), none, none, none, none, none] [vI z7] S F1 G Q
  obtain ⟨ht, hf⟩ := h
  refine go_ifeq (tgt := 25) (show decode cX10_add 9 = .ok (.ifCond .eq 16, 3) by decide +kernel) (by decide) (fun hc => ?_) (fun hc => ?_)
  · have h := ht hc
    refine go_ldc2 (show decode cX10_add 25 = .ok (.ldc2_w 174, 3) by decide +kernel) lc_X10_174 (by decide) ?_
    exact go_lret (show decode cX10_add 28 = .ok (.lreturn, 1) by decide +kernel) rfl h
  · have h := hf hc
    refine go_aload_n (show decode cX10_add 12 = .ok (.aload_n 0, 1) by decide +kernel) (by rfl) ?_
    refine go_iload_n (show decode cX10_add 13 = .ok (.iload_n 2, 1) by decide +kernel) (by rfl) ?_
    refine go_iload_n (show decode cX10_add 14 = .ok (.iload_n 3, 1) by decide +kernel) (by rfl) ?_
    refine go_iload (show decode cX10_add 15 = .ok (.iload 4, 2) by decide +kernel) (by rfl) ?_
    refine go_iload (show decode cX10_add 17 = .ok (.iload 5, 2) by decide +kernel) (by rfl) ?_
    obtain ⟨z13, p14, h⟩ := h
    refine go_callV (d2 := d - 1) (M2 := MX10_isRectangle) (n := 4) (ci := 10) (av := [vI a2, vI a3, vI a4, vI a5]) (st := []) (show decode cX10_add 19 = .ok (.invokevirtual 170, 3) by decide +kernel) ml_X10_170 mt_X10_isRectangle min_X10_isRectangle mse_X10_isRectangle (by decide) (shm_k hsm 53 (by decide) (by decide)) rfl (Nat.le_of_ble_eq_true rfl) (by omega) (ok_mono p14 (fun w9 S10 F11 G12 e9 => ?_))
    obtain ⟨e1, e2, e3, e4⟩ := e9
    subst e1
    replace e2 := e2.symm; subst e2
    replace e3 := e3.symm; subst e3
    replace e4 := e4.symm; subst e4
    show Go d MX10_add 22 [some (vR 53), some (vI a1), some (vI a2), some (vI a3), some (vI a4), some (vI a5), some (vI a6), none, none, none, none, none] [vI z13] S F1 G Q
    obtain ⟨ht, hf⟩ := h
    refine go_ifne (tgt := 29) (show decode cX10_add 22 = .ok (.ifCond .ne 7, 3) by decide +kernel) (by decide) (fun hc => ?_) (fun hc => ?_)
    · have h := ht hc
      refine go_iload (show decode cX10_add 29 = .ok (.iload 6, 2) by decide +kernel) (by rfl) ?_
      refine go_i2l (show decode cX10_add 31 = .ok (.i2l, 1) by decide +kernel) ?_
      refine go_ldc2 (show decode cX10_add 32 = .ok (.ldc2_w 176, 3) by decide +kernel) lc_X10_176 (by decide) ?_
      refine go_ldc2 (show decode cX10_add 35 = .ok (.ldc2_w 178, 3) by decide +kernel) lc_X10_178 (by decide) ?_
      obtain ⟨z19, p20, h⟩ := h
      refine go_callS (d2 := d - 1) (M2 := MX10_isIn) (n := 3) (av := [vJ a6, vJ (-1000000000), vJ 1000000000]) (st := []) (show decode cX10_add 38 = .ok (.invokestatic 116, 3) by decide +kernel) ml_X10_116 mt_X10_isIn mst_X10_isIn rfl (Nat.le_of_ble_eq_true rfl) (by omega) (ok_mono p20 (fun w15 S16 F17 G18 e9 => ?_))
      obtain ⟨e1, e2, e3, e4⟩ := e9
      subst e1
      replace e2 := e2.symm; subst e2
      replace e3 := e3.symm; subst e3
      replace e4 := e4.symm; subst e4
      show Go d MX10_add 41 [some (vR 53), some (vI a1), some (vI a2), some (vI a3), some (vI a4), some (vI a5), some (vI a6), none, none, none, none, none] [vI z19] S F1 G Q
      obtain ⟨ht, hf⟩ := h
      refine go_ifeq (tgt := 49) (show decode cX10_add 41 = .ok (.ifCond .eq 8, 3) by decide +kernel) (by decide) (fun hc => ?_) (fun hc => ?_)
      · have h := ht hc
        refine go_ldc2 (show decode cX10_add 49 = .ok (.ldc2_w 120, 3) by decide +kernel) lc_X10_120 (by decide) ?_
        exact go_lret (show decode cX10_add 52 = .ok (.lreturn, 1) by decide +kernel) rfl h
      · have h := hf hc
        refine go_iload (show decode cX10_add 44 = .ok (.iload 6, 2) by decide +kernel) (by rfl) ?_
        obtain ⟨ht, hf⟩ := h
        refine go_ifne (tgt := 53) (show decode cX10_add 46 = .ok (.ifCond .ne 7, 3) by decide +kernel) (by decide) (fun hc => ?_) (fun hc => ?_)
        · have h := ht hc
          refine go_aload_n (show decode cX10_add 53 = .ok (.aload_n 0, 1) by decide +kernel) (by rfl) ?_
          refine go_iload_n (show decode cX10_add 54 = .ok (.iload_n 1, 1) by decide +kernel) (by rfl) ?_
          refine go_iload_n (show decode cX10_add 55 = .ok (.iload_n 2, 1) by decide +kernel) (by rfl) ?_
          refine go_iload_n (show decode cX10_add 56 = .ok (.iload_n 3, 1) by decide +kernel) (by rfl) ?_
          refine go_iload (show decode cX10_add 57 = .ok (.iload 4, 2) by decide +kernel) (by rfl) ?_
          refine go_iload (show decode cX10_add 59 = .ok (.iload 5, 2) by decide +kernel) (by rfl) ?_
          refine go_iload (show decode cX10_add 61 = .ok (.iload 6, 2) by decide +kernel) (by rfl) ?_
          obtain ⟨z25, p26, h⟩ := h
          refine go_callV (d2 := d - 1) (M2 := MX10_breaksBy) (n := 6) (ci := 10) (av := [vI a1, vI a2, vI a3, vI a4, vI a5, vI a6]) (st := []) (show decode cX10_add 63 = .ok (.invokevirtual 180, 3) by decide +kernel) ml_X10_180 mt_X10_breaksBy min_X10_breaksBy mse_X10_breaksBy (by decide) (shm_k hsm 53 (by decide) (by decide)) rfl (Nat.le_of_ble_eq_true rfl) (by omega) (ok_mono p26 (fun w21 S22 F23 G24 e9 => ?_))
          obtain ⟨e1, e2, e3, e4⟩ := e9
          subst e1
          replace e2 := e2.symm; subst e2
          replace e3 := e3.symm; subst e3
          replace e4 := e4.symm; subst e4
          show Go d MX10_add 66 [some (vR 53), some (vI a1), some (vI a2), some (vI a3), some (vI a4), some (vI a5), some (vI a6), none, none, none, none, none] [vI z25] S F1 G Q
          refine go_istore (show decode cX10_add 66 = .ok (.istore 7, 2) by decide +kernel) (by decide) ?_
          show Go d MX10_add 68 [some (vR 53), some (vI a1), some (vI a2), some (vI a3), some (vI a4), some (vI a5), some (vI a6), some (vI z25), none, none, none, none] [] S F1 G Q
          refine go_iload (show decode cX10_add 68 = .ok (.iload 7, 2) by decide +kernel) (by rfl) ?_
          obtain ⟨ht, hf⟩ := h
          refine go_ifeq (tgt := 77) (show decode cX10_add 70 = .ok (.ifCond .eq 7, 3) by decide +kernel) (by decide) (fun hc => ?_) (fun hc => ?_)
          · have h := ht hc
            refine go_iconst (show decode cX10_add 77 = .ok (.iconst 0, 1) by decide +kernel) (by decide) ?_
            refine go_istore (show decode cX10_add 78 = .ok (.istore 8, 2) by decide +kernel) (by decide) ?_
            show Go d MX10_add 80 [some (vR 53), some (vI a1), some (vI a2), some (vI a3), some (vI a4), some (vI a5), some (vI a6), some (vI z25), some (vI 0), none, none, none] [] S F1 G Q
            exact h
          · have h := hf hc
            refine go_iload (show decode cX10_add 73 = .ok (.iload 7, 2) by decide +kernel) (by rfl) ?_
            refine go_i2l (show decode cX10_add 75 = .ok (.i2l, 1) by decide +kernel) ?_
            exact go_lret (show decode cX10_add 76 = .ok (.lreturn, 1) by decide +kernel) rfl h
        · have h := hf hc
          refine go_ldc2 (show decode cX10_add 49 = .ok (.ldc2_w 120, 3) by decide +kernel) lc_X10_120 (by decide) ?_
          exact go_lret (show decode cX10_add 52 = .ok (.lreturn, 1) by decide +kernel) rfl h
    · have h := hf hc
      refine go_ldc2 (show decode cX10_add 25 = .ok (.ldc2_w 174, 3) by decide +kernel) lc_X10_174 (by decide) ?_
      exact go_lret (show decode cX10_add 28 = .ok (.lreturn, 1) by decide +kernel) rfl h
def V_X10_isGood_0 (d : Nat) (S : AS) (F : AF) (G : AG) (Q : AQ) (a0 : Int) : Prop :=
  (1 ≤ d) ∧
  ∃ z6 : Int, Pu (d - 1) MX10_isIn [vJ a0, vJ 0, vJ 2] S F G (some (vI z6)) ∧
  (z6 = 0 ∨ z6 = 1) ∧
  Q (some (vI z6)) S F G
theorem R_X10_isGood_0 {d : Nat} {S : AS} {F : AF} {G : AG} {Q : AQ} {a0 : Int} (hsm : ShM S) (h : V_X10_isGood_0 d S F G Q a0) : Go d MX10_isGood 0 [some (vI a0)] [] S F G Q := by
  unfold V_X10_isGood_0 at h
  refine go_iload_n (show decode cX10_isGood 0 = .ok (.iload_n 0, 1) by decide +kernel) (by rfl) ?_
  refine go_i2l (show decode cX10_isGood 1 = .ok (.i2l, 1) by decide +kernel) ?_
  refine go_lconst (n := 0) (show decode cX10_isGood 2 = .ok (.lconst 0, 1) by decide +kernel) ?_
  show Go d MX10_isGood 3 [some (vI a0)] [vJ 0, vJ a0] S F G Q
  refine go_ldc2 (show decode cX10_isGood 3 = .ok (.ldc2_w 157, 3) by decide +kernel) lc_X10_157 (by decide) ?_
  obtain ⟨q1, h⟩ := h
  obtain ⟨z6, p7, h⟩ := h
  refine go_callS (d2 := d - 1) (M2 := MX10_isIn) (n := 3) (av := [vJ a0, vJ 0, vJ 2]) (st := []) (show decode cX10_isGood 6 = .ok (.invokestatic 116, 3) by decide +kernel) ml_X10_116 mt_X10_isIn mst_X10_isIn rfl (Nat.le_of_ble_eq_true rfl) (by omega) (ok_mono p7 (fun w2 S3 F4 G5 e9 => ?_))
  obtain ⟨e1, e2, e3, e4⟩ := e9
  subst e1
  replace e2 := e2.symm; subst e2
  replace e3 := e3.symm; subst e3
  replace e4 := e4.symm; subst e4
  show Go d MX10_isGood 9 [some (vI a0)] [vI z6] S F G Q
  obtain ⟨q8, h⟩ := h
  exact go_zret (show decode cX10_isGood 9 = .ok (.ireturn, 1) by decide +kernel) rfl q8 h
def V_X10_isRectangle_0 (d : Nat) (S : AS) (F : AF) (G : AG) (Q : AQ) (a1 : Int) (a2 : Int) (a3 : Int) (a4 : Int) : Prop :=
  ((a1 < 0) →
    Q (some (vI 0)) S F G) ∧
  ((¬ a1 < 0) →
    ((a3 < a1) →
      Q (some (vI 0)) S F G) ∧
    ((¬ a3 < a1) →
      ((F 53 1 ≤ a3) →
        Q (some (vI 0)) S F G) ∧
      ((¬ F 53 1 ≤ a3) →
        ((a2 < 0) →
          Q (some (vI 0)) S F G) ∧
        ((¬ a2 < 0) →
          ((a4 < a2) →
            Q (some (vI 0)) S F G) ∧
          ((¬ a4 < a2) →
            ((F 53 2 ≤ a4) →
              Q (some (vI 0)) S F G) ∧
            ((¬ F 53 2 ≤ a4) →
              Q (some (vI 1)) S F G))))))
theorem R_X10_isRectangle_0 {d : Nat} {S : AS} {F : AF} {G : AG} {Q : AQ} {a1 : Int} {a2 : Int} {a3 : Int} {a4 : Int} (hsm : ShM S) (h : V_X10_isRectangle_0 d S F G Q a1 a2 a3 a4) : Go d MX10_isRectangle 0 [some (vR 53), some (vI a1), some (vI a2), some (vI a3), some (vI a4)] [] S F G Q := by
  unfold V_X10_isRectangle_0 at h
  refine go_iload_n (show decode cX10_isRectangle 0 = .ok (.iload_n 1, 1) by decide +kernel) (by rfl) ?_
  obtain ⟨ht, hf⟩ := h
  refine go_iflt (tgt := 40) (show decode cX10_isRectangle 1 = .ok (.ifCond .lt 39, 3) by decide +kernel) (by decide) (fun hc => ?_) (fun hc => ?_)
  · have h := ht hc
    refine go_iconst (show decode cX10_isRectangle 40 = .ok (.iconst 0, 1) by decide +kernel) (by decide) ?_
    exact go_zret (show decode cX10_isRectangle 41 = .ok (.ireturn, 1) by decide +kernel) rfl (by decide) h
  · have h := hf hc
    refine go_iload_n (show decode cX10_isRectangle 4 = .ok (.iload_n 1, 1) by decide +kernel) (by rfl) ?_
    refine go_iload_n (show decode cX10_isRectangle 5 = .ok (.iload_n 3, 1) by decide +kernel) (by rfl) ?_
    obtain ⟨ht, hf⟩ := h
    refine go_icmpgt (tgt := 40) (show decode cX10_isRectangle 6 = .ok (.if_icmp .gt 34, 3) by decide +kernel) (by decide) (fun hc => ?_) (fun hc => ?_)
    · have h := ht hc
      refine go_iconst (show decode cX10_isRectangle 40 = .ok (.iconst 0, 1) by decide +kernel) (by decide) ?_
      exact go_zret (show decode cX10_isRectangle 41 = .ok (.ireturn, 1) by decide +kernel) rfl (by decide) h
    · have h := hf hc
      refine go_iload_n (show decode cX10_isRectangle 9 = .ok (.iload_n 3, 1) by decide +kernel) (by rfl) ?_
      refine go_aload_n (show decode cX10_isRectangle 10 = .ok (.aload_n 0, 1) by decide +kernel) (by rfl) ?_
      refine go_getI (show decode cX10_isRectangle 11 = .ok (.getfield 13, 3) by decide +kernel) fl_X10_13 (Or.inl rfl) (shm_k hsm 53 (by decide) (by decide)) ?_
      obtain ⟨ht, hf⟩ := h
      refine go_icmpge (tgt := 40) (show decode cX10_isRectangle 14 = .ok (.if_icmp .ge 26, 3) by decide +kernel) (by decide) (fun hc => ?_) (fun hc => ?_)
      · have h := ht hc
        refine go_iconst (show decode cX10_isRectangle 40 = .ok (.iconst 0, 1) by decide +kernel) (by decide) ?_
        exact go_zret (show decode cX10_isRectangle 41 = .ok (.ireturn, 1) by decide +kernel) rfl (by decide) h
      · have h := hf hc
        refine go_iload_n (show decode cX10_isRectangle 17 = .ok (.iload_n 2, 1) by decide +kernel) (by rfl) ?_
        obtain ⟨ht, hf⟩ := h
        refine go_iflt (tgt := 40) (show decode cX10_isRectangle 18 = .ok (.ifCond .lt 22, 3) by decide +kernel) (by decide) (fun hc => ?_) (fun hc => ?_)
        · have h := ht hc
          refine go_iconst (show decode cX10_isRectangle 40 = .ok (.iconst 0, 1) by decide +kernel) (by decide) ?_
          exact go_zret (show decode cX10_isRectangle 41 = .ok (.ireturn, 1) by decide +kernel) rfl (by decide) h
        · have h := hf hc
          refine go_iload_n (show decode cX10_isRectangle 21 = .ok (.iload_n 2, 1) by decide +kernel) (by rfl) ?_
          refine go_iload (show decode cX10_isRectangle 22 = .ok (.iload 4, 2) by decide +kernel) (by rfl) ?_
          obtain ⟨ht, hf⟩ := h
          refine go_icmpgt (tgt := 40) (show decode cX10_isRectangle 24 = .ok (.if_icmp .gt 16, 3) by decide +kernel) (by decide) (fun hc => ?_) (fun hc => ?_)
          · have h := ht hc
            refine go_iconst (show decode cX10_isRectangle 40 = .ok (.iconst 0, 1) by decide +kernel) (by decide) ?_
            exact go_zret (show decode cX10_isRectangle 41 = .ok (.ireturn, 1) by decide +kernel) rfl (by decide) h
          · have h := hf hc
            refine go_iload (show decode cX10_isRectangle 27 = .ok (.iload 4, 2) by decide +kernel) (by rfl) ?_
            refine go_aload_n (show decode cX10_isRectangle 29 = .ok (.aload_n 0, 1) by decide +kernel) (by rfl) ?_
            refine go_getI (show decode cX10_isRectangle 30 = .ok (.getfield 16, 3) by decide +kernel) fl_X10_16 (Or.inl rfl) (shm_k hsm 53 (by decide) (by decide)) ?_
            obtain ⟨ht, hf⟩ := h
            refine go_icmpge (tgt := 40) (show decode cX10_isRectangle 33 = .ok (.if_icmp .ge 7, 3) by decide +kernel) (by decide) (fun hc => ?_) (fun hc => ?_)
            · have h := ht hc
              refine go_iconst (show decode cX10_isRectangle 40 = .ok (.iconst 0, 1) by decide +kernel) (by decide) ?_
              exact go_zret (show decode cX10_isRectangle 41 = .ok (.ireturn, 1) by decide +kernel) rfl (by decide) h
            · have h := hf hc
              refine go_iconst (show decode cX10_isRectangle 36 = .ok (.iconst 1, 1) by decide +kernel) (by decide) ?_
              refine go_goto (tgt := 41) (show decode cX10_isRectangle 37 = .ok (.goto 4, 3) by decide +kernel) (by decide) ?_
              exact go_zret (show decode cX10_isRectangle 41 = .ok (.ireturn, 1) by decide +kernel) rfl (by decide) h
def V_X10_breaksBy_126 (d : Nat) (S : AS) (F : AF) (G : AG) (Q : AQ) (a1 : Int) (a2 : Int) (a3 : Int) (a4 : Int) (a5 : Int) (a6 : Int) (a7 : Int) (a8 : Int) (a9 : Int) (a10 : Int) : Prop :=
  (r32 (a10 + 1)) ∧
  Go d MX10_breaksBy 23 [some (vR 53), some (vI a1), some (vI a2), some (vI a3), some (vI a4), some (vI a5), some (vI a6), some (vI a7), some (vI a8), some (vI a9), some (vI (a10 + 1))] [] S F G Q
theorem R_X10_breaksBy_126 {d : Nat} {S : AS} {F : AF} {G : AG} {Q : AQ} {a1 : Int} {a2 : Int} {a3 : Int} {a4 : Int} {a5 : Int} {a6 : Int} {a7 : Int} {a8 : Int} {a9 : Int} {a10 : Int} (hsm : ShM S) (h : V_X10_breaksBy_126 d S F G Q a1 a2 a3 a4 a5 a6 a7 a8 a9 a10) : Go d MX10_breaksBy 126 [some (vR 53), some (vI a1), some (vI a2), some (vI a3), some (vI a4), some (vI a5), some (vI a6), some (vI a7), some (vI a8), some (vI a9), some (vI a10)] [] S F G Q := by
  unfold V_X10_breaksBy_126 at h
  obtain ⟨q1, h⟩ := h
  refine go_iinc (show decode cX10_breaksBy 126 = .ok (.iinc 10 1, 3) by decide +kernel) (by rfl) q1 (by decide) ?_
  show Go d MX10_breaksBy 129 [some (vR 53), some (vI a1), some (vI a2), some (vI a3), some (vI a4), some (vI a5), some (vI a6), some (vI a7), some (vI a8), some (vI a9), some (vI (a10 + 1))] [] S F G Q
  refine go_goto (tgt := 23) (show decode cX10_breaksBy 129 = .ok (.goto (-106), 3) by decide +kernel) (by decide) ?_
  exact h
def V_X10_breaksBy_124 (d : Nat) (S : AS) (F : AF) (G : AG) (Q : AQ) (a1 : Int) (a2 : Int) (a3 : Int) (a4 : Int) (a5 : Int) (a6 : Int) (a7 : Int) (a8 : Int) (a9 : Int) (a10 : Int) (s0 : Int) : Prop :=
  V_X10_breaksBy_126 d S F G Q a1 a2 a3 a4 a5 a6 a7 s0 a9 a10
theorem R_X10_breaksBy_124 {d : Nat} {S : AS} {F : AF} {G : AG} {Q : AQ} {a1 : Int} {a2 : Int} {a3 : Int} {a4 : Int} {a5 : Int} {a6 : Int} {a7 : Int} {a8 : Int} {a9 : Int} {a10 : Int} {s0 : Int} (hsm : ShM S) (h : V_X10_breaksBy_124 d S F G Q a1 a2 a3 a4 a5 a6 a7 a8 a9 a10 s0) : Go d MX10_breaksBy 124 [some (vR 53), some (vI a1), some (vI a2), some (vI a3), some (vI a4), some (vI a5), some (vI a6), some (vI a7), some (vI a8), some (vI a9), some (vI a10)] [vI s0] S F G Q := by
  unfold V_X10_breaksBy_124 at h
  refine go_istore (show decode cX10_breaksBy 124 = .ok (.istore 8, 2) by decide +kernel) (by decide) ?_
  show Go d MX10_breaksBy 126 [some (vR 53), some (vI a1), some (vI a2), some (vI a3), some (vI a4), some (vI a5), some (vI a6), some (vI a7), some (vI s0), some (vI a9), some (vI a10)] [] S F G Q
  exact R_X10_breaksBy_126 hsm h
def V_X10_breaksBy_119 (d : Nat) (S : AS) (F : AF) (G : AG) (Q : AQ) (a1 : Int) (a2 : Int) (a3 : Int) (a4 : Int) (a5 : Int) (a6 : Int) (a7 : Int) (a8 : Int) (a9 : Int) (a10 : Int) : Prop :=
  V_X10_breaksBy_124 d S F G Q a1 a2 a3 a4 a5 a6 a7 a8 a9 a10 1
theorem R_X10_breaksBy_119 {d : Nat} {S : AS} {F : AF} {G : AG} {Q : AQ} {a1 : Int} {a2 : Int} {a3 : Int} {a4 : Int} {a5 : Int} {a6 : Int} {a7 : Int} {a8 : Int} {a9 : Int} {a10 : Int} (hsm : ShM S) (h : V_X10_breaksBy_119 d S F G Q a1 a2 a3 a4 a5 a6 a7 a8 a9 a10) : Go d MX10_breaksBy 119 [some (vR 53), some (vI a1), some (vI a2), some (vI a3), some (vI a4), some (vI a5), some (vI a6), some (vI a7), some (vI a8), some (vI a9), some (vI a10)] [] S F G Q := by
  unfold V_X10_breaksBy_119 at h
  refine go_iconst (show decode cX10_breaksBy 119 = .ok (.iconst 1, 1) by decide +kernel) (by decide) ?_
  refine go_goto (tgt := 124) (show decode cX10_breaksBy 120 = .ok (.goto 4, 3) by decide +kernel) (by decide) ?_
  exact R_X10_breaksBy_124 hsm h
def V_X10_breaksBy_91 (d : Nat) (S : AS) (F : AF) (G : AG) (Q : AQ) (a1 : Int) (a2 : Int) (a3 : Int) (a4 : Int) (a5 : Int) (a6 : Int) (a7 : Int) (a8 : Int) (a9 : Int) (a10 : Int) (s0 : Int) : Prop :=
  ((¬ a8 = 0) →
    V_X10_breaksBy_119 d S F G Q a1 a2 a3 a4 a5 a6 s0 a8 a9 a10) ∧
  ((a8 = 0) →
    (1 ≤ d) ∧
    ∃ z6 : Int, Pu (d - 1) MX10_in [vR 53, vI (-1), vI a9, vI a10] S F G (some (vJ z6)) ∧
    (r64 (z6 + a6)) ∧
    ((z6 + a6 ≤ F 53 3) →
      V_X10_breaksBy_124 d S F G Q a1 a2 a3 a4 a5 a6 s0 a8 a9 a10 0) ∧
    ((¬ z6 + a6 ≤ F 53 3) →
      V_X10_breaksBy_119 d S F G Q a1 a2 a3 a4 a5 a6 s0 a8 a9 a10))
theorem R_X10_breaksBy_91 {d : Nat} {S : AS} {F : AF} {G : AG} {Q : AQ} {a1 : Int} {a2 : Int} {a3 : Int} {a4 : Int} {a5 : Int} {a6 : Int} {a7 : Int} {a8 : Int} {a9 : Int} {a10 : Int} {s0 : Int} (hsm : ShM S) (h : V_X10_breaksBy_91 d S F G Q a1 a2 a3 a4 a5 a6 a7 a8 a9 a10 s0) : Go d MX10_breaksBy 91 [some (vR 53), some (vI a1), some (vI a2), some (vI a3), some (vI a4), some (vI a5), some (vI a6), some (vI a7), some (vI a8), some (vI a9), some (vI a10)] [vI s0] S F G Q := by
  unfold V_X10_breaksBy_91 at h
  refine go_istore (show decode cX10_breaksBy 91 = .ok (.istore 7, 2) by decide +kernel) (by decide) ?_
  show Go d MX10_breaksBy 93 [some (vR 53), some (vI a1), some (vI a2), some (vI a3), some (vI a4), some (vI a5), some (vI a6), some (vI s0), some (vI a8), some (vI a9), some (vI a10)] [] S F G Q
  refine go_iload (show decode cX10_breaksBy 93 = .ok (.iload 8, 2) by decide +kernel) (by rfl) ?_
  obtain ⟨ht, hf⟩ := h
  refine go_ifne (tgt := 119) (show decode cX10_breaksBy 95 = .ok (.ifCond .ne 24, 3) by decide +kernel) (by decide) (fun hc => ?_) (fun hc => ?_)
  · have h := ht hc
    exact R_X10_breaksBy_119 hsm h
  · have h := hf hc
    refine go_aload_n (show decode cX10_breaksBy 98 = .ok (.aload_n 0, 1) by decide +kernel) (by rfl) ?_
    refine go_iconst (show decode cX10_breaksBy 99 = .ok (.iconst (-1), 1) by decide +kernel) (by decide) ?_
    refine go_iload (show decode cX10_breaksBy 100 = .ok (.iload 9, 2) by decide +kernel) (by rfl) ?_
    refine go_iload (show decode cX10_breaksBy 102 = .ok (.iload 10, 2) by decide +kernel) (by rfl) ?_
    obtain ⟨q1, h⟩ := h
    obtain ⟨z6, p7, h⟩ := h
    refine go_callV (d2 := d - 1) (M2 := MX10_in) (n := 3) (ci := 10) (av := [vI (-1), vI a9, vI a10]) (st := []) (show decode cX10_breaksBy 104 = .ok (.invokevirtual 163, 3) by decide +kernel) ml_X10_163 mt_X10_in min_X10_in mse_X10_in (by decide) (shm_k hsm 53 (by decide) (by decide)) rfl (Nat.le_of_ble_eq_true rfl) (by omega) (ok_mono p7 (fun w2 S3 F4 G5 e9 => ?_))
    obtain ⟨e1, e2, e3, e4⟩ := e9
    subst e1
    replace e2 := e2.symm; subst e2
    replace e3 := e3.symm; subst e3
    replace e4 := e4.symm; subst e4
    show Go d MX10_breaksBy 107 [some (vR 53), some (vI a1), some (vI a2), some (vI a3), some (vI a4), some (vI a5), some (vI a6), some (vI s0), some (vI a8), some (vI a9), some (vI a10)] [vJ z6] S F G Q
    refine go_iload (show decode cX10_breaksBy 107 = .ok (.iload 6, 2) by decide +kernel) (by rfl) ?_
    refine go_i2l (show decode cX10_breaksBy 109 = .ok (.i2l, 1) by decide +kernel) ?_
    obtain ⟨q8, h⟩ := h
    refine go_ladd (show decode cX10_breaksBy 110 = .ok (.ladd, 1) by decide +kernel) q8 ?_
    refine go_aload_n (show decode cX10_breaksBy 111 = .ok (.aload_n 0, 1) by decide +kernel) (by rfl) ?_
    refine go_getJ (show decode cX10_breaksBy 112 = .ok (.getfield 21, 3) by decide +kernel) fl_X10_21 rfl (shm_k hsm 53 (by decide) (by decide)) ?_
    obtain ⟨ht, hf⟩ := h
    refine go_jle (tgt := 123) (show decode cX10_breaksBy 115 = .ok (.lcmp, 1) by decide +kernel) (show decode cX10_breaksBy 116 = .ok (.ifCond .le 7, 3) by decide +kernel) (by decide) (fun hc => ?_) (fun hc => ?_)
    · have h := ht hc
      refine go_iconst (show decode cX10_breaksBy 123 = .ok (.iconst 0, 1) by decide +kernel) (by decide) ?_
      exact R_X10_breaksBy_124 hsm h
    · have h := hf hc
      exact R_X10_breaksBy_119 hsm h
def V_X10_breaksBy_86 (d : Nat) (S : AS) (F : AF) (G : AG) (Q : AQ) (a1 : Int) (a2 : Int) (a3 : Int) (a4 : Int) (a5 : Int) (a6 : Int) (a7 : Int) (a8 : Int) (a9 : Int) (a10 : Int) : Prop :=
  V_X10_breaksBy_91 d S F G Q a1 a2 a3 a4 a5 a6 a7 a8 a9 a10 1
theorem R_X10_breaksBy_86 {d : Nat} {S : AS} {F : AF} {G : AG} {Q : AQ} {a1 : Int} {a2 : Int} {a3 : Int} {a4 : Int} {a5 : Int} {a6 : Int} {a7 : Int} {a8 : Int} {a9 : Int} {a10 : Int} (hsm : ShM S) (h : V_X10_breaksBy_86 d S F G Q a1 a2 a3 a4 a5 a6 a7 a8 a9 a10) : Go d MX10_breaksBy 86 [some (vR 53), some (vI a1), some (vI a2), some (vI a3), some (vI a4), some (vI a5), some (vI a6), some (vI a7), some (vI a8), some (vI a9), some (vI a10)] [] S F G Q := by
  unfold V_X10_breaksBy_86 at h
  refine go_iconst (show decode cX10_breaksBy 86 = .ok (.iconst 1, 1) by decide +kernel) (by decide) ?_
  refine go_goto (tgt := 91) (show decode cX10_breaksBy 87 = .ok (.goto 4, 3) by decide +kernel) (by decide) ?_
  exact R_X10_breaksBy_91 hsm h
def V_X10_breaksBy_23 (d : Nat) (S : AS) (F : AF) (G : AG) (Q : AQ) (a1 : Int) (a2 : Int) (a3 : Int) (a4 : Int) (a5 : Int) (a6 : Int) (a7 : Int) (a8 : Int) (a9 : Int) (a10 : Int) : Prop :=
  ((G 55 1 ≤ a10) →
    (r32 (a9 + 1)) ∧
    Go d MX10_breaksBy 9 [some (vR 53), some (vI a1), some (vI a2), some (vI a3), some (vI a4), some (vI a5), some (vI a6), some (vI a7), some (vI a8), some (vI (a9 + 1)), none] [] S F G Q) ∧
  ((¬ G 55 1 ≤ a10) →
    (1 ≤ d) ∧
    ∃ z7 : Int, Pu (d - 1) MX10_part [vR 53, vI 0, vI a9, vI a2, vI a4] S F G (some (vI z7)) ∧
    ((z7 = 0) →
      V_X10_breaksBy_126 d S F G Q a1 a2 a3 a4 a5 a6 a7 a8 a9 a10) ∧
    ((¬ z7 = 0) →
      ∃ z13 : Int, Pu (d - 1) MX10_part [vR 53, vI 1, vI a10, vI a3, vI a5] S F G (some (vI z13)) ∧
      ((¬ z13 = 0) →
        ((¬ a7 = 0) →
          V_X10_breaksBy_86 d S F G Q a1 a2 a3 a4 a5 a6 a7 a8 a9 a10) ∧
        ((a7 = 0) →
          ∃ z19 : Int, Pu (d - 1) MX10_in [vR 53, vI a1, vI a9, vI a10] S F G (some (vJ z19)) ∧
          (r64 (z19 + a6)) ∧
          ((0 ≤ z19 + a6) →
            V_X10_breaksBy_91 d S F G Q a1 a2 a3 a4 a5 a6 a7 a8 a9 a10 0) ∧
          ((¬ 0 ≤ z19 + a6) →
            V_X10_breaksBy_86 d S F G Q a1 a2 a3 a4 a5 a6 a7 a8 a9 a10))) ∧
      ((z13 = 0) →
        V_X10_breaksBy_126 d S F G Q a1 a2 a3 a4 a5 a6 a7 a8 a9 a10)))
theorem R_X10_breaksBy_23 {d : Nat} {S : AS} {F : AF} {G : AG} {Q : AQ} {a1 : Int} {a2 : Int} {a3 : Int} {a4 : Int} {a5 : Int} {a6 : Int} {a7 : Int} {a8 : Int} {a9 : Int} {a10 : Int} (hsm : ShM S) (h : V_X10_breaksBy_23 d S F G Q a1 a2 a3 a4 a5 a6 a7 a8 a9 a10) : Go d MX10_breaksBy 23 [some (vR 53), some (vI a1), some (vI a2), some (vI a3), some (vI a4), some (vI a5), some (vI a6), some (vI a7), some (vI a8), some (vI a9), some (vI a10)] [] S F G Q := by
  unfold V_X10_breaksBy_23 at h
  refine go_iload (show decode cX10_breaksBy 23 = .ok (.iload 10, 2) by decide +kernel) (by rfl) ?_
  refine go_aload_n (show decode cX10_breaksBy 25 = .ok (.aload_n 0, 1) by decide +kernel) (by rfl) ?_
  refine go_getRc (show decode cX10_breaksBy 26 = .ok (.getfield 29, 3) by decide +kernel) fl_X10_29 rfl (shm_k hsm 53 (by decide) (by decide)) (v := 55) (shm_r hsm 53 5 (by decide) (by decide)) ?_
  refine go_iconst (show decode cX10_breaksBy 29 = .ok (.iconst 1, 1) by decide +kernel) (by decide) ?_
  refine go_iaload (show decode cX10_breaksBy 30 = .ok (.iaload, 1) by decide +kernel) (shm_k hsm 55 (by decide) (by decide)) (by decide) (lt_n (m := 2) (by decide) (shm_n hsm 55 (by decide) (by decide))) ?_
  obtain ⟨ht, hf⟩ := h
  refine go_icmpge (tgt := 132) (show decode cX10_breaksBy 31 = .ok (.if_icmp .ge 101, 3) by decide +kernel) (by decide) (fun hc => ?_) (fun hc => ?_)
  · have h := ht hc
    obtain ⟨q1, h⟩ := h
    refine go_iinc (show decode cX10_breaksBy 132 = .ok (.iinc 9 1, 3) by decide +kernel) (by rfl) q1 (by decide) ?_
    show Go d MX10_breaksBy 135 [some (vR 53), some (vI a1), some (vI a2), some (vI a3), some (vI a4), some (vI a5), some (vI a6), some (vI a7), some (vI a8), some (vI (a9 + 1)), some (vI a10)] [] S F G Q
    refine go_goto (tgt := 9) (show decode cX10_breaksBy 135 = .ok (.goto (-126), 3) by decide +kernel) (by decide) ?_
    refine go_clr 10 ?_
    exact h
  · have h := hf hc
    refine go_aload_n (show decode cX10_breaksBy 34 = .ok (.aload_n 0, 1) by decide +kernel) (by rfl) ?_
    refine go_iconst (show decode cX10_breaksBy 35 = .ok (.iconst 0, 1) by decide +kernel) (by decide) ?_
    refine go_iload (show decode cX10_breaksBy 36 = .ok (.iload 9, 2) by decide +kernel) (by rfl) ?_
    refine go_iload_n (show decode cX10_breaksBy 38 = .ok (.iload_n 2, 1) by decide +kernel) (by rfl) ?_
    refine go_iload (show decode cX10_breaksBy 39 = .ok (.iload 4, 2) by decide +kernel) (by rfl) ?_
    obtain ⟨q2, h⟩ := h
    obtain ⟨z7, p8, h⟩ := h
    refine go_callV (d2 := d - 1) (M2 := MX10_part) (n := 4) (ci := 10) (av := [vI 0, vI a9, vI a2, vI a4]) (st := []) (show decode cX10_breaksBy 41 = .ok (.invokevirtual 159, 3) by decide +kernel) ml_X10_159 mt_X10_part min_X10_part mse_X10_part (by decide) (shm_k hsm 53 (by decide) (by decide)) rfl (Nat.le_of_ble_eq_true rfl) (by omega) (ok_mono p8 (fun w3 S4 F5 G6 e9 => ?_))
    obtain ⟨e1, e2, e3, e4⟩ := e9
    subst e1
    replace e2 := e2.symm; subst e2
    replace e3 := e3.symm; subst e3
    replace e4 := e4.symm; subst e4
    show Go d MX10_breaksBy 44 [some (vR 53), some (vI a1), some (vI a2), some (vI a3), some (vI a4), some (vI a5), some (vI a6), some (vI a7), some (vI a8), some (vI a9), some (vI a10)] [vI z7] S F G Q
    obtain ⟨ht, hf⟩ := h
    refine go_ifeq (tgt := 126) (show decode cX10_breaksBy 44 = .ok (.ifCond .eq 82, 3) by decide +kernel) (by decide) (fun hc => ?_) (fun hc => ?_)
    · have h := ht hc
      exact R_X10_breaksBy_126 hsm h
    · have h := hf hc
      refine go_aload_n (show decode cX10_breaksBy 47 = .ok (.aload_n 0, 1) by decide +kernel) (by rfl) ?_
      refine go_iconst (show decode cX10_breaksBy 48 = .ok (.iconst 1, 1) by decide +kernel) (by decide) ?_
      refine go_iload (show decode cX10_breaksBy 49 = .ok (.iload 10, 2) by decide +kernel) (by rfl) ?_
      refine go_iload_n (show decode cX10_breaksBy 51 = .ok (.iload_n 3, 1) by decide +kernel) (by rfl) ?_
      refine go_iload (show decode cX10_breaksBy 52 = .ok (.iload 5, 2) by decide +kernel) (by rfl) ?_
      obtain ⟨z13, p14, h⟩ := h
      refine go_callV (d2 := d - 1) (M2 := MX10_part) (n := 4) (ci := 10) (av := [vI 1, vI a10, vI a3, vI a5]) (st := []) (show decode cX10_breaksBy 54 = .ok (.invokevirtual 159, 3) by decide +kernel) ml_X10_159 mt_X10_part min_X10_part mse_X10_part (by decide) (shm_k hsm 53 (by decide) (by decide)) rfl (Nat.le_of_ble_eq_true rfl) (by omega) (ok_mono p14 (fun w9 S10 F11 G12 e9 => ?_))
      obtain ⟨e1, e2, e3, e4⟩ := e9
      subst e1
      replace e2 := e2.symm; subst e2
      replace e3 := e3.symm; subst e3
      replace e4 := e4.symm; subst e4
      show Go d MX10_breaksBy 57 [some (vR 53), some (vI a1), some (vI a2), some (vI a3), some (vI a4), some (vI a5), some (vI a6), some (vI a7), some (vI a8), some (vI a9), some (vI a10)] [vI z13] S F G Q
      obtain ⟨ht, hf⟩ := h
      refine go_ifne (tgt := 63) (show decode cX10_breaksBy 57 = .ok (.ifCond .ne 6, 3) by decide +kernel) (by decide) (fun hc => ?_) (fun hc => ?_)
      · have h := ht hc
        refine go_iload (show decode cX10_breaksBy 63 = .ok (.iload 7, 2) by decide +kernel) (by rfl) ?_
        obtain ⟨ht, hf⟩ := h
        refine go_ifne (tgt := 86) (show decode cX10_breaksBy 65 = .ok (.ifCond .ne 21, 3) by decide +kernel) (by decide) (fun hc => ?_) (fun hc => ?_)
        · have h := ht hc
          exact R_X10_breaksBy_86 hsm h
        · have h := hf hc
          refine go_aload_n (show decode cX10_breaksBy 68 = .ok (.aload_n 0, 1) by decide +kernel) (by rfl) ?_
          refine go_iload_n (show decode cX10_breaksBy 69 = .ok (.iload_n 1, 1) by decide +kernel) (by rfl) ?_
          refine go_iload (show decode cX10_breaksBy 70 = .ok (.iload 9, 2) by decide +kernel) (by rfl) ?_
          refine go_iload (show decode cX10_breaksBy 72 = .ok (.iload 10, 2) by decide +kernel) (by rfl) ?_
          obtain ⟨z19, p20, h⟩ := h
          refine go_callV (d2 := d - 1) (M2 := MX10_in) (n := 3) (ci := 10) (av := [vI a1, vI a9, vI a10]) (st := []) (show decode cX10_breaksBy 74 = .ok (.invokevirtual 163, 3) by decide +kernel) ml_X10_163 mt_X10_in min_X10_in mse_X10_in (by decide) (shm_k hsm 53 (by decide) (by decide)) rfl (Nat.le_of_ble_eq_true rfl) (by omega) (ok_mono p20 (fun w15 S16 F17 G18 e9 => ?_))
          obtain ⟨e1, e2, e3, e4⟩ := e9
          subst e1
          replace e2 := e2.symm; subst e2
          replace e3 := e3.symm; subst e3
          replace e4 := e4.symm; subst e4
          show Go d MX10_breaksBy 77 [some (vR 53), some (vI a1), some (vI a2), some (vI a3), some (vI a4), some (vI a5), some (vI a6), some (vI a7), some (vI a8), some (vI a9), some (vI a10)] [vJ z19] S F G Q
          refine go_iload (show decode cX10_breaksBy 77 = .ok (.iload 6, 2) by decide +kernel) (by rfl) ?_
          refine go_i2l (show decode cX10_breaksBy 79 = .ok (.i2l, 1) by decide +kernel) ?_
          obtain ⟨q21, h⟩ := h
          refine go_ladd (show decode cX10_breaksBy 80 = .ok (.ladd, 1) by decide +kernel) q21 ?_
          refine go_lconst (n := 0) (show decode cX10_breaksBy 81 = .ok (.lconst 0, 1) by decide +kernel) ?_
          show Go d MX10_breaksBy 82 [some (vR 53), some (vI a1), some (vI a2), some (vI a3), some (vI a4), some (vI a5), some (vI a6), some (vI a7), some (vI a8), some (vI a9), some (vI a10)] [vJ 0, vJ (z19 + a6)] S F G Q
          obtain ⟨ht, hf⟩ := h
          refine go_jge (tgt := 90) (show decode cX10_breaksBy 82 = .ok (.lcmp, 1) by decide +kernel) (show decode cX10_breaksBy 83 = .ok (.ifCond .ge 7, 3) by decide +kernel) (by decide) (fun hc => ?_) (fun hc => ?_)
          · have h := ht hc
            refine go_iconst (show decode cX10_breaksBy 90 = .ok (.iconst 0, 1) by decide +kernel) (by decide) ?_
            exact R_X10_breaksBy_91 hsm h
          · have h := hf hc
            exact R_X10_breaksBy_86 hsm h
      · have h := hf hc
        refine go_goto (tgt := 126) (show decode cX10_breaksBy 60 = .ok (.goto 66, 3) by decide +kernel) (by decide) ?_
        exact R_X10_breaksBy_126 hsm h
def V_X10_breaksBy_9 (d : Nat) (S : AS) (F : AF) (G : AG) (Q : AQ) (a1 : Int) (a2 : Int) (a3 : Int) (a4 : Int) (a5 : Int) (a6 : Int) (a7 : Int) (a8 : Int) (a9 : Int) : Prop :=
  ((G 55 0 ≤ a9) →
    ((a7 = 0) →
      ((a8 = 0) →
        Q (some (vI 0)) S F G) ∧
      ((¬ a8 = 0) →
        Q (some (vI (-7))) S F G)) ∧
    ((¬ a7 = 0) →
      Q (some (vI (-5))) S F G)) ∧
  ((¬ G 55 0 ≤ a9) →
    Go d MX10_breaksBy 23 [some (vR 53), some (vI a1), some (vI a2), some (vI a3), some (vI a4), some (vI a5), some (vI a6), some (vI a7), some (vI a8), some (vI a9), some (vI 0)] [] S F G Q)
theorem R_X10_breaksBy_9 {d : Nat} {S : AS} {F : AF} {G : AG} {Q : AQ} {a1 : Int} {a2 : Int} {a3 : Int} {a4 : Int} {a5 : Int} {a6 : Int} {a7 : Int} {a8 : Int} {a9 : Int} (hsm : ShM S) (h : V_X10_breaksBy_9 d S F G Q a1 a2 a3 a4 a5 a6 a7 a8 a9) : Go d MX10_breaksBy 9 [some (vR 53), some (vI a1), some (vI a2), some (vI a3), some (vI a4), some (vI a5), some (vI a6), some (vI a7), some (vI a8), some (vI a9), none] [] S F G Q := by
  unfold V_X10_breaksBy_9 at h
  refine go_iload (show decode cX10_breaksBy 9 = .ok (.iload 9, 2) by decide +kernel) (by rfl) ?_
  refine go_aload_n (show decode cX10_breaksBy 11 = .ok (.aload_n 0, 1) by decide +kernel) (by rfl) ?_
  refine go_getRc (show decode cX10_breaksBy 12 = .ok (.getfield 29, 3) by decide +kernel) fl_X10_29 rfl (shm_k hsm 53 (by decide) (by decide)) (v := 55) (shm_r hsm 53 5 (by decide) (by decide)) ?_
  refine go_iconst (show decode cX10_breaksBy 15 = .ok (.iconst 0, 1) by decide +kernel) (by decide) ?_
  refine go_iaload (show decode cX10_breaksBy 16 = .ok (.iaload, 1) by decide +kernel) (shm_k hsm 55 (by decide) (by decide)) (by decide) (lt_n (m := 2) (by decide) (shm_n hsm 55 (by decide) (by decide))) ?_
  obtain ⟨ht, hf⟩ := h
  refine go_icmpge (tgt := 138) (show decode cX10_breaksBy 17 = .ok (.if_icmp .ge 121, 3) by decide +kernel) (by decide) (fun hc => ?_) (fun hc => ?_)
  · have h := ht hc
    refine go_iload (show decode cX10_breaksBy 138 = .ok (.iload 7, 2) by decide +kernel) (by rfl) ?_
    obtain ⟨ht, hf⟩ := h
    refine go_ifeq (tgt := 148) (show decode cX10_breaksBy 140 = .ok (.ifCond .eq 8, 3) by decide +kernel) (by decide) (fun hc => ?_) (fun hc => ?_)
    · have h := ht hc
      refine go_iload (show decode cX10_breaksBy 148 = .ok (.iload 8, 2) by decide +kernel) (by rfl) ?_
      obtain ⟨ht, hf⟩ := h
      refine go_ifeq (tgt := 158) (show decode cX10_breaksBy 150 = .ok (.ifCond .eq 8, 3) by decide +kernel) (by decide) (fun hc => ?_) (fun hc => ?_)
      · have h := ht hc
        refine go_iconst (show decode cX10_breaksBy 158 = .ok (.iconst 0, 1) by decide +kernel) (by decide) ?_
        exact go_iret (show decode cX10_breaksBy 159 = .ok (.ireturn, 1) by decide +kernel) rfl h
      · have h := hf hc
        refine go_bipush (show decode cX10_breaksBy 153 = .ok (.bipush (-7), 2) by decide +kernel) (by decide) ?_
        refine go_goto (tgt := 159) (show decode cX10_breaksBy 155 = .ok (.goto 4, 3) by decide +kernel) (by decide) ?_
        exact go_iret (show decode cX10_breaksBy 159 = .ok (.ireturn, 1) by decide +kernel) rfl h
    · have h := hf hc
      refine go_bipush (show decode cX10_breaksBy 143 = .ok (.bipush (-5), 2) by decide +kernel) (by decide) ?_
      refine go_goto (tgt := 159) (show decode cX10_breaksBy 145 = .ok (.goto 14, 3) by decide +kernel) (by decide) ?_
      exact go_iret (show decode cX10_breaksBy 159 = .ok (.ireturn, 1) by decide +kernel) rfl h
  · have h := hf hc
    refine go_iconst (show decode cX10_breaksBy 20 = .ok (.iconst 0, 1) by decide +kernel) (by decide) ?_
    refine go_istore (show decode cX10_breaksBy 21 = .ok (.istore 10, 2) by decide +kernel) (by decide) ?_
    show Go d MX10_breaksBy 23 [some (vR 53), some (vI a1), some (vI a2), some (vI a3), some (vI a4), some (vI a5), some (vI a6), some (vI a7), some (vI a8), some (vI a9), some (vI 0)] [] S F G Q
    exact h
def V_X10_breaksBy_0 (d : Nat) (S : AS) (F : AF) (G : AG) (Q : AQ) (a1 : Int) (a2 : Int) (a3 : Int) (a4 : Int) (a5 : Int) (a6 : Int) : Prop :=
  Go d MX10_breaksBy 9 [some (vR 53), some (vI a1), some (vI a2), some (vI a3), some (vI a4), some (vI a5), some (vI a6), some (vI 0), some (vI 0), some (vI 0), none] [] S F G Q
theorem R_X10_breaksBy_0 {d : Nat} {S : AS} {F : AF} {G : AG} {Q : AQ} {a1 : Int} {a2 : Int} {a3 : Int} {a4 : Int} {a5 : Int} {a6 : Int} (hsm : ShM S) (h : V_X10_breaksBy_0 d S F G Q a1 a2 a3 a4 a5 a6) : Go d MX10_breaksBy 0 [some (vR 53), some (vI a1), some (vI a2), some (vI a3), some (vI a4), some (vI a5), some (vI a6), none, none, none, none] [] S F G Q := by
  unfold V_X10_breaksBy_0 at h
  refine go_iconst (show decode cX10_breaksBy 0 = .ok (.iconst 0, 1) by decide +kernel) (by decide) ?_
  refine go_istore (show decode cX10_breaksBy 1 = .ok (.istore 7, 2) by decide +kernel) (by decide) ?_
  show Go d MX10_breaksBy 3 [some (vR 53), some (vI a1), some (vI a2), some (vI a3), some (vI a4), some (vI a5), some (vI a6), some (vI 0), none, none, none] [] S F G Q
  refine go_iconst (show decode cX10_breaksBy 3 = .ok (.iconst 0, 1) by decide +kernel) (by decide) ?_
  refine go_istore (show decode cX10_breaksBy 4 = .ok (.istore 8, 2) by decide +kernel) (by decide) ?_
  show Go d MX10_breaksBy 6 [some (vR 53), some (vI a1), some (vI a2), some (vI a3), some (vI a4), some (vI a5), some (vI a6), some (vI 0), some (vI 0), none, none] [] S F G Q
  refine go_iconst (show decode cX10_breaksBy 6 = .ok (.iconst 0, 1) by decide +kernel) (by decide) ?_
  refine go_istore (show decode cX10_breaksBy 7 = .ok (.istore 9, 2) by decide +kernel) (by decide) ?_
  show Go d MX10_breaksBy 9 [some (vR 53), some (vI a1), some (vI a2), some (vI a3), some (vI a4), some (vI a5), some (vI a6), some (vI 0), some (vI 0), some (vI 0), none] [] S F G Q
  exact h
def V_X10_part_52 (d : Nat) (S : AS) (F : AF) (G : AG) (Q : AQ) (a1 : Int) (a2 : Int) (a3 : Int) (a4 : Int) (a5 : Int) (s0 : Int) : Prop :=
  ((a5 ≤ s0) →
    (r32 (s0 - a5)) ∧
    (r32 ((s0 - a5) + 1)) ∧
    Q (some (vI ((s0 - a5) + 1))) S F G) ∧
  ((¬ a5 ≤ s0) →
    Q (some (vI 0)) S F G)
theorem R_X10_part_52 {d : Nat} {S : AS} {F : AF} {G : AG} {Q : AQ} {a1 : Int} {a2 : Int} {a3 : Int} {a4 : Int} {a5 : Int} {s0 : Int} (hsm : ShM S) (h : V_X10_part_52 d S F G Q a1 a2 a3 a4 a5 s0) : Go d MX10_part 52 [some (vR 53), some (vI a1), some (vI a2), some (vI a3), some (vI a4), some (vI a5), none] [vI s0] S F G Q := by
  unfold V_X10_part_52 at h
  refine go_istore (show decode cX10_part 52 = .ok (.istore 6, 2) by decide +kernel) (by decide) ?_
  show Go d MX10_part 54 [some (vR 53), some (vI a1), some (vI a2), some (vI a3), some (vI a4), some (vI a5), some (vI s0)] [] S F G Q
  refine go_iload (show decode cX10_part 54 = .ok (.iload 6, 2) by decide +kernel) (by rfl) ?_
  refine go_iload (show decode cX10_part 56 = .ok (.iload 5, 2) by decide +kernel) (by rfl) ?_
  obtain ⟨ht, hf⟩ := h
  refine go_icmpge (tgt := 65) (show decode cX10_part 58 = .ok (.if_icmp .ge 7, 3) by decide +kernel) (by decide) (fun hc => ?_) (fun hc => ?_)
  · have h := ht hc
    refine go_iload (show decode cX10_part 65 = .ok (.iload 6, 2) by decide +kernel) (by rfl) ?_
    refine go_iload (show decode cX10_part 67 = .ok (.iload 5, 2) by decide +kernel) (by rfl) ?_
    obtain ⟨q1, h⟩ := h
    refine go_isub (show decode cX10_part 69 = .ok (.isub, 1) by decide +kernel) q1 ?_
    refine go_iconst (show decode cX10_part 70 = .ok (.iconst 1, 1) by decide +kernel) (by decide) ?_
    obtain ⟨q2, h⟩ := h
    refine go_iadd (show decode cX10_part 71 = .ok (.iadd, 1) by decide +kernel) q2 ?_
    exact go_iret (show decode cX10_part 72 = .ok (.ireturn, 1) by decide +kernel) rfl h
  · have h := hf hc
    refine go_iconst (show decode cX10_part 61 = .ok (.iconst 0, 1) by decide +kernel) (by decide) ?_
    refine go_goto (tgt := 72) (show decode cX10_part 62 = .ok (.goto 10, 3) by decide +kernel) (by decide) ?_
    exact go_iret (show decode cX10_part 72 = .ok (.ireturn, 1) by decide +kernel) rfl h
def V_X10_part_20 (d : Nat) (S : AS) (F : AF) (G : AG) (Q : AQ) (a1 : Int) (a2 : Int) (a3 : Int) (a4 : Int) (s0 : Int) : Prop :=
  (r32 (a2 + 1)) ∧
  (1 ≤ d) ∧
  ∃ z7 : Int, Pu (d - 1) MX10_edgeAt [vR 53, vI a1, vI (a2 + 1)] S F G (some (vI z7)) ∧
  (r32 (z7 - 1)) ∧
  ((a4 ≤ z7 - 1) →
    V_X10_part_52 d S F G Q a1 a2 a3 a4 s0 a4) ∧
  ((¬ a4 ≤ z7 - 1) →
    ∃ z14 : Int, Pu (d - 1) MX10_edgeAt [vR 53, vI a1, vI (a2 + 1)] S F G (some (vI z14)) ∧
    (r32 (z14 - 1)) ∧
    V_X10_part_52 d S F G Q a1 a2 a3 a4 s0 (z14 - 1))
theorem R_X10_part_20 {d : Nat} {S : AS} {F : AF} {G : AG} {Q : AQ} {a1 : Int} {a2 : Int} {a3 : Int} {a4 : Int} {s0 : Int} (hsm : ShM S) (h : V_X10_part_20 d S F G Q a1 a2 a3 a4 s0) : Go d MX10_part 20 [some (vR 53), some (vI a1), some (vI a2), some (vI a3), some (vI a4), none, none] [vI s0] S F G Q := by
  unfold V_X10_part_20 at h
  refine go_istore (show decode cX10_part 20 = .ok (.istore 5, 2) by decide +kernel) (by decide) ?_
  show Go d MX10_part 22 [some (vR 53), some (vI a1), some (vI a2), some (vI a3), some (vI a4), some (vI s0), none] [] S F G Q
  refine go_aload_n (show decode cX10_part 22 = .ok (.aload_n 0, 1) by decide +kernel) (by rfl) ?_
  refine go_iload_n (show decode cX10_part 23 = .ok (.iload_n 1, 1) by decide +kernel) (by rfl) ?_
  refine go_iload_n (show decode cX10_part 24 = .ok (.iload_n 2, 1) by decide +kernel) (by rfl) ?_
  refine go_iconst (show decode cX10_part 25 = .ok (.iconst 1, 1) by decide +kernel) (by decide) ?_
  obtain ⟨q1, h⟩ := h
  refine go_iadd (show decode cX10_part 26 = .ok (.iadd, 1) by decide +kernel) q1 ?_
  obtain ⟨q2, h⟩ := h
  obtain ⟨z7, p8, h⟩ := h
  refine go_callV (d2 := d - 1) (M2 := MX10_edgeAt) (n := 2) (ci := 10) (av := [vI a1, vI (a2 + 1)]) (st := []) (show decode cX10_part 27 = .ok (.invokevirtual 126, 3) by decide +kernel) ml_X10_126 mt_X10_edgeAt min_X10_edgeAt mse_X10_edgeAt (by decide) (shm_k hsm 53 (by decide) (by decide)) rfl (Nat.le_of_ble_eq_true rfl) (by omega) (ok_mono p8 (fun w3 S4 F5 G6 e9 => ?_))
  obtain ⟨e1, e2, e3, e4⟩ := e9
  subst e1
  replace e2 := e2.symm; subst e2
  replace e3 := e3.symm; subst e3
  replace e4 := e4.symm; subst e4
  show Go d MX10_part 30 [some (vR 53), some (vI a1), some (vI a2), some (vI a3), some (vI a4), some (vI s0), none] [vI z7] S F G Q
  refine go_iconst (show decode cX10_part 30 = .ok (.iconst 1, 1) by decide +kernel) (by decide) ?_
  obtain ⟨q9, h⟩ := h
  refine go_isub (show decode cX10_part 31 = .ok (.isub, 1) by decide +kernel) q9 ?_
  refine go_iload (show decode cX10_part 32 = .ok (.iload 4, 2) by decide +kernel) (by rfl) ?_
  obtain ⟨ht, hf⟩ := h
  refine go_icmpge (tgt := 50) (show decode cX10_part 34 = .ok (.if_icmp .ge 16, 3) by decide +kernel) (by decide) (fun hc => ?_) (fun hc => ?_)
  · have h := ht hc
    refine go_iload (show decode cX10_part 50 = .ok (.iload 4, 2) by decide +kernel) (by rfl) ?_
    exact R_X10_part_52 hsm h
  · have h := hf hc
    refine go_aload_n (show decode cX10_part 37 = .ok (.aload_n 0, 1) by decide +kernel) (by rfl) ?_
    refine go_iload_n (show decode cX10_part 38 = .ok (.iload_n 1, 1) by decide +kernel) (by rfl) ?_
    refine go_iload_n (show decode cX10_part 39 = .ok (.iload_n 2, 1) by decide +kernel) (by rfl) ?_
    refine go_iconst (show decode cX10_part 40 = .ok (.iconst 1, 1) by decide +kernel) (by decide) ?_
    refine go_iadd (show decode cX10_part 41 = .ok (.iadd, 1) by decide +kernel) q1 ?_
    obtain ⟨z14, p15, h⟩ := h
    refine go_callV (d2 := d - 1) (M2 := MX10_edgeAt) (n := 2) (ci := 10) (av := [vI a1, vI (a2 + 1)]) (st := []) (show decode cX10_part 42 = .ok (.invokevirtual 126, 3) by decide +kernel) ml_X10_126 mt_X10_edgeAt min_X10_edgeAt mse_X10_edgeAt (by decide) (shm_k hsm 53 (by decide) (by decide)) rfl (Nat.le_of_ble_eq_true rfl) (by omega) (ok_mono p15 (fun w10 S11 F12 G13 e9 => ?_))
    obtain ⟨e1, e2, e3, e4⟩ := e9
    subst e1
    replace e2 := e2.symm; subst e2
    replace e3 := e3.symm; subst e3
    replace e4 := e4.symm; subst e4
    show Go d MX10_part 45 [some (vR 53), some (vI a1), some (vI a2), some (vI a3), some (vI a4), some (vI s0), none] [vI z14] S F G Q
    refine go_iconst (show decode cX10_part 45 = .ok (.iconst 1, 1) by decide +kernel) (by decide) ?_
    obtain ⟨q16, h⟩ := h
    refine go_isub (show decode cX10_part 46 = .ok (.isub, 1) by decide +kernel) q16 ?_
    refine go_goto (tgt := 52) (show decode cX10_part 47 = .ok (.goto 5, 3) by decide +kernel) (by decide) ?_
    exact R_X10_part_52 hsm h
def V_X10_part_0 (d : Nat) (S : AS) (F : AF) (G : AG) (Q : AQ) (a1 : Int) (a2 : Int) (a3 : Int) (a4 : Int) : Prop :=
  (1 ≤ d) ∧
  ∃ z6 : Int, Pu (d - 1) MX10_edgeAt [vR 53, vI a1, vI a2] S F G (some (vI z6)) ∧
  ((z6 ≤ a3) →
    V_X10_part_20 d S F G Q a1 a2 a3 a4 a3) ∧
  ((¬ z6 ≤ a3) →
    ∃ z12 : Int, Pu (d - 1) MX10_edgeAt [vR 53, vI a1, vI a2] S F G (some (vI z12)) ∧
    V_X10_part_20 d S F G Q a1 a2 a3 a4 z12)
theorem R_X10_part_0 {d : Nat} {S : AS} {F : AF} {G : AG} {Q : AQ} {a1 : Int} {a2 : Int} {a3 : Int} {a4 : Int} (hsm : ShM S) (h : V_X10_part_0 d S F G Q a1 a2 a3 a4) : Go d MX10_part 0 [some (vR 53), some (vI a1), some (vI a2), some (vI a3), some (vI a4), none, none] [] S F G Q := by
  unfold V_X10_part_0 at h
  refine go_aload_n (show decode cX10_part 0 = .ok (.aload_n 0, 1) by decide +kernel) (by rfl) ?_
  refine go_iload_n (show decode cX10_part 1 = .ok (.iload_n 1, 1) by decide +kernel) (by rfl) ?_
  refine go_iload_n (show decode cX10_part 2 = .ok (.iload_n 2, 1) by decide +kernel) (by rfl) ?_
  obtain ⟨q1, h⟩ := h
  obtain ⟨z6, p7, h⟩ := h
  refine go_callV (d2 := d - 1) (M2 := MX10_edgeAt) (n := 2) (ci := 10) (av := [vI a1, vI a2]) (st := []) (show decode cX10_part 3 = .ok (.invokevirtual 126, 3) by decide +kernel) ml_X10_126 mt_X10_edgeAt min_X10_edgeAt mse_X10_edgeAt (by decide) (shm_k hsm 53 (by decide) (by decide)) rfl (Nat.le_of_ble_eq_true rfl) (by omega) (ok_mono p7 (fun w2 S3 F4 G5 e9 => ?_))
  obtain ⟨e1, e2, e3, e4⟩ := e9
  subst e1
  replace e2 := e2.symm; subst e2
  replace e3 := e3.symm; subst e3
  replace e4 := e4.symm; subst e4
  show Go d MX10_part 6 [some (vR 53), some (vI a1), some (vI a2), some (vI a3), some (vI a4), none, none] [vI z6] S F G Q
  refine go_iload_n (show decode cX10_part 6 = .ok (.iload_n 3, 1) by decide +kernel) (by rfl) ?_
  obtain ⟨ht, hf⟩ := h
  refine go_icmple (tgt := 19) (show decode cX10_part 7 = .ok (.if_icmp .le 12, 3) by decide +kernel) (by decide) (fun hc => ?_) (fun hc => ?_)
  · have h := ht hc
    refine go_iload_n (show decode cX10_part 19 = .ok (.iload_n 3, 1) by decide +kernel) (by rfl) ?_
    exact R_X10_part_20 hsm h
  · have h := hf hc
    refine go_aload_n (show decode cX10_part 10 = .ok (.aload_n 0, 1) by decide +kernel) (by rfl) ?_
    refine go_iload_n (show decode cX10_part 11 = .ok (.iload_n 1, 1) by decide +kernel) (by rfl) ?_
    refine go_iload_n (show decode cX10_part 12 = .ok (.iload_n 2, 1) by decide +kernel) (by rfl) ?_
    obtain ⟨z12, p13, h⟩ := h
    refine go_callV (d2 := d - 1) (M2 := MX10_edgeAt) (n := 2) (ci := 10) (av := [vI a1, vI a2]) (st := []) (show decode cX10_part 13 = .ok (.invokevirtual 126, 3) by decide +kernel) ml_X10_126 mt_X10_edgeAt min_X10_edgeAt mse_X10_edgeAt (by decide) (shm_k hsm 53 (by decide) (by decide)) rfl (Nat.le_of_ble_eq_true rfl) (by omega) (ok_mono p13 (fun w8 S9 F10 G11 e9 => ?_))
    obtain ⟨e1, e2, e3, e4⟩ := e9
    subst e1
    replace e2 := e2.symm; subst e2
    replace e3 := e3.symm; subst e3
    replace e4 := e4.symm; subst e4
    show Go d MX10_part 16 [some (vR 53), some (vI a1), some (vI a2), some (vI a3), some (vI a4), none, none] [vI z12] S F G Q
    refine go_goto (tgt := 20) (show decode cX10_part 16 = .ok (.goto 4, 3) by decide +kernel) (by decide) ?_
    exact R_X10_part_20 hsm h
def V_X10_edgeAt_0 (d : Nat) (S : AS) (F : AF) (G : AG) (Q : AQ) (a1 : Int) (a2 : Int) : Prop :=
  ((0 : Int) ≤ a1) ∧
  ((a1 : Int) < 2) ∧
  ((¬ a2 = G 55 a1) →
    (r32 (48 * a1)) ∧
    (r32 ((48 * a1) + a2)) ∧
    ((0 : Int) ≤ (48 * a1) + a2) ∧
    (((48 * a1) + a2 : Int) < 96) ∧
    Q (some (vI (G 54 ((48 * a1) + a2)))) S F G) ∧
  ((a2 = G 55 a1) →
    (1 ≤ d) ∧
    ∃ z12 : Int, Pu (d - 1) MX10_sizeOf [vR 53, vI a1] S F G (some (vI z12)) ∧
    Q (some (vI z12)) S F G)
theorem R_X10_edgeAt_0 {d : Nat} {S : AS} {F : AF} {G : AG} {Q : AQ} {a1 : Int} {a2 : Int} (hsm : ShM S) (h : V_X10_edgeAt_0 d S F G Q a1 a2) : Go d MX10_edgeAt 0 [some (vR 53), some (vI a1), some (vI a2)] [] S F G Q := by
  unfold V_X10_edgeAt_0 at h
  refine go_iload_n (show decode cX10_edgeAt 0 = .ok (.iload_n 2, 1) by decide +kernel) (by rfl) ?_
  refine go_aload_n (show decode cX10_edgeAt 1 = .ok (.aload_n 0, 1) by decide +kernel) (by rfl) ?_
  refine go_getRc (show decode cX10_edgeAt 2 = .ok (.getfield 29, 3) by decide +kernel) fl_X10_29 rfl (shm_k hsm 53 (by decide) (by decide)) (v := 55) (shm_r hsm 53 5 (by decide) (by decide)) ?_
  refine go_iload_n (show decode cX10_edgeAt 5 = .ok (.iload_n 1, 1) by decide +kernel) (by rfl) ?_
  obtain ⟨q1, h⟩ := h
  obtain ⟨q2, h⟩ := h
  refine go_iaload (show decode cX10_edgeAt 6 = .ok (.iaload, 1) by decide +kernel) (shm_k hsm 55 (by decide) (by decide)) q1 (lt_n (m := 2) q2 (shm_n hsm 55 (by decide) (by decide))) ?_
  obtain ⟨ht, hf⟩ := h
  refine go_icmpne (tgt := 18) (show decode cX10_edgeAt 7 = .ok (.if_icmp .ne 11, 3) by decide +kernel) (by decide) (fun hc => ?_) (fun hc => ?_)
  · have h := ht hc
    refine go_aload_n (show decode cX10_edgeAt 18 = .ok (.aload_n 0, 1) by decide +kernel) (by rfl) ?_
    refine go_getRc (show decode cX10_edgeAt 19 = .ok (.getfield 25, 3) by decide +kernel) fl_X10_25 rfl (shm_k hsm 53 (by decide) (by decide)) (v := 54) (shm_r hsm 53 4 (by decide) (by decide)) ?_
    refine go_bipush (show decode cX10_edgeAt 22 = .ok (.bipush 48, 2) by decide +kernel) (by decide) ?_
    refine go_iload_n (show decode cX10_edgeAt 24 = .ok (.iload_n 1, 1) by decide +kernel) (by rfl) ?_
    obtain ⟨q3, h⟩ := h
    refine go_imul (show decode cX10_edgeAt 25 = .ok (.imul, 1) by decide +kernel) q3 ?_
    refine go_iload_n (show decode cX10_edgeAt 26 = .ok (.iload_n 2, 1) by decide +kernel) (by rfl) ?_
    obtain ⟨q4, h⟩ := h
    refine go_iadd (show decode cX10_edgeAt 27 = .ok (.iadd, 1) by decide +kernel) q4 ?_
    obtain ⟨q5, h⟩ := h
    obtain ⟨q6, h⟩ := h
    refine go_iaload (show decode cX10_edgeAt 28 = .ok (.iaload, 1) by decide +kernel) (shm_k hsm 54 (by decide) (by decide)) q5 (lt_n (m := 96) q6 (shm_n hsm 54 (by decide) (by decide))) ?_
    exact go_iret (show decode cX10_edgeAt 29 = .ok (.ireturn, 1) by decide +kernel) rfl h
  · have h := hf hc
    refine go_aload_n (show decode cX10_edgeAt 10 = .ok (.aload_n 0, 1) by decide +kernel) (by rfl) ?_
    refine go_iload_n (show decode cX10_edgeAt 11 = .ok (.iload_n 1, 1) by decide +kernel) (by rfl) ?_
    obtain ⟨q7, h⟩ := h
    obtain ⟨z12, p13, h⟩ := h
    refine go_callV (d2 := d - 1) (M2 := MX10_sizeOf) (n := 1) (ci := 10) (av := [vI a1]) (st := []) (show decode cX10_edgeAt 12 = .ok (.invokevirtual 122, 3) by decide +kernel) ml_X10_122 mt_X10_sizeOf min_X10_sizeOf mse_X10_sizeOf (by decide) (shm_k hsm 53 (by decide) (by decide)) rfl (Nat.le_of_ble_eq_true rfl) (by omega) (ok_mono p13 (fun w8 S9 F10 G11 e9 => ?_))
    obtain ⟨e1, e2, e3, e4⟩ := e9
    subst e1
    replace e2 := e2.symm; subst e2
    replace e3 := e3.symm; subst e3
    replace e4 := e4.symm; subst e4
    show Go d MX10_edgeAt 15 [some (vR 53), some (vI a1), some (vI a2)] [vI z12] S F G Q
    refine go_goto (tgt := 29) (show decode cX10_edgeAt 15 = .ok (.goto 14, 3) by decide +kernel) (by decide) ?_
    exact go_iret (show decode cX10_edgeAt 29 = .ok (.ireturn, 1) by decide +kernel) rfl h
def V_X10_sizeOf_0 (d : Nat) (S : AS) (F : AF) (G : AG) (Q : AQ) (a1 : Int) : Prop :=
  ((¬ a1 = 0) →
    Q (some (vI (F 53 2))) S F G) ∧
  ((a1 = 0) →
    Q (some (vI (F 53 1))) S F G)
theorem R_X10_sizeOf_0 {d : Nat} {S : AS} {F : AF} {G : AG} {Q : AQ} {a1 : Int} (hsm : ShM S) (h : V_X10_sizeOf_0 d S F G Q a1) : Go d MX10_sizeOf 0 [some (vR 53), some (vI a1)] [] S F G Q := by
  unfold V_X10_sizeOf_0 at h
  refine go_iload_n (show decode cX10_sizeOf 0 = .ok (.iload_n 1, 1) by decide +kernel) (by rfl) ?_
  obtain ⟨ht, hf⟩ := h
  refine go_ifne (tgt := 11) (show decode cX10_sizeOf 1 = .ok (.ifCond .ne 10, 3) by decide +kernel) (by decide) (fun hc => ?_) (fun hc => ?_)
  · have h := ht hc
    refine go_aload_n (show decode cX10_sizeOf 11 = .ok (.aload_n 0, 1) by decide +kernel) (by rfl) ?_
    refine go_getI (show decode cX10_sizeOf 12 = .ok (.getfield 16, 3) by decide +kernel) fl_X10_16 (Or.inl rfl) (shm_k hsm 53 (by decide) (by decide)) ?_
    exact go_iret (show decode cX10_sizeOf 15 = .ok (.ireturn, 1) by decide +kernel) rfl h
  · have h := hf hc
    refine go_aload_n (show decode cX10_sizeOf 4 = .ok (.aload_n 0, 1) by decide +kernel) (by rfl) ?_
    refine go_getI (show decode cX10_sizeOf 5 = .ok (.getfield 13, 3) by decide +kernel) fl_X10_13 (Or.inl rfl) (shm_k hsm 53 (by decide) (by decide)) ?_
    refine go_goto (tgt := 15) (show decode cX10_sizeOf 8 = .ok (.goto 7, 3) by decide +kernel) (by decide) ?_
    exact go_iret (show decode cX10_sizeOf 15 = .ok (.ireturn, 1) by decide +kernel) rfl h
def V_X10_in_0 (d : Nat) (S : AS) (F : AF) (G : AG) (Q : AQ) (a1 : Int) (a2 : Int) (a3 : Int) : Prop :=
  ((¬ a1 = -1) →
    (1 ≤ d) ∧
    ∃ z6 : Int, Pu (d - 1) MX10_slot [vI a1, vI a2, vI a3] S F G (some (vI z6)) ∧
    ((0 : Int) ≤ z6) ∧
    ((z6 : Int) < 6912) ∧
    Q (some (vJ (G 57 z6))) S F G) ∧
  ((a1 = -1) →
    (1 ≤ d) ∧
    ∃ z15 : Int, Pu (d - 1) MX10_slot [vI 0, vI a2, vI a3] S F G (some (vI z15)) ∧
    ((0 : Int) ≤ z15) ∧
    ((z15 : Int) < 6912) ∧
    ∃ z23 : Int, Pu (d - 1) MX10_slot [vI 1, vI a2, vI a3] S F G (some (vI z23)) ∧
    ((0 : Int) ≤ z23) ∧
    ((z23 : Int) < 6912) ∧
    (r64 ((G 57 z15) + (G 57 z23))) ∧
    ∃ z32 : Int, Pu (d - 1) MX10_slot [vI 2, vI a2, vI a3] S F G (some (vI z32)) ∧
    ((0 : Int) ≤ z32) ∧
    ((z32 : Int) < 6912) ∧
    (r64 (((G 57 z15) + (G 57 z23)) + (G 57 z32))) ∧
    Q (some (vJ (((G 57 z15) + (G 57 z23)) + (G 57 z32)))) S F G)
theorem R_X10_in_0 {d : Nat} {S : AS} {F : AF} {G : AG} {Q : AQ} {a1 : Int} {a2 : Int} {a3 : Int} (hsm : ShM S) (h : V_X10_in_0 d S F G Q a1 a2 a3) : Go d MX10_in 0 [some (vR 53), some (vI a1), some (vI a2), some (vI a3)] [] S F G Q := by
  unfold V_X10_in_0 at h
  refine go_iload_n (show decode cX10_in 0 = .ok (.iload_n 1, 1) by decide +kernel) (by rfl) ?_
  refine go_iconst (show decode cX10_in 1 = .ok (.iconst (-1), 1) by decide +kernel) (by decide) ?_
  obtain ⟨ht, hf⟩ := h
  refine go_icmpne (tgt := 43) (show decode cX10_in 2 = .ok (.if_icmp .ne 41, 3) by decide +kernel) (by decide) (fun hc => ?_) (fun hc => ?_)
  · have h := ht hc
    refine go_aload_n (show decode cX10_in 43 = .ok (.aload_n 0, 1) by decide +kernel) (by rfl) ?_
    refine go_getRc (show decode cX10_in 44 = .ok (.getfield 35, 3) by decide +kernel) fl_X10_35 rfl (shm_k hsm 53 (by decide) (by decide)) (v := 57) (shm_r hsm 53 7 (by decide) (by decide)) ?_
    refine go_iload_n (show decode cX10_in 47 = .ok (.iload_n 1, 1) by decide +kernel) (by rfl) ?_
    refine go_iload_n (show decode cX10_in 48 = .ok (.iload_n 2, 1) by decide +kernel) (by rfl) ?_
    refine go_iload_n (show decode cX10_in 49 = .ok (.iload_n 3, 1) by decide +kernel) (by rfl) ?_
    obtain ⟨q1, h⟩ := h
    obtain ⟨z6, p7, h⟩ := h
    refine go_callS (d2 := d - 1) (M2 := MX10_slot) (n := 3) (av := [vI a1, vI a2, vI a3]) (st := [vR 57]) (show decode cX10_in 50 = .ok (.invokestatic 130, 3) by decide +kernel) ml_X10_130 mt_X10_slot mst_X10_slot rfl (Nat.le_of_ble_eq_true rfl) (by omega) (ok_mono p7 (fun w2 S3 F4 G5 e9 => ?_))
    obtain ⟨e1, e2, e3, e4⟩ := e9
    subst e1
    replace e2 := e2.symm; subst e2
    replace e3 := e3.symm; subst e3
    replace e4 := e4.symm; subst e4
    show Go d MX10_in 53 [some (vR 53), some (vI a1), some (vI a2), some (vI a3)] [vI z6, vR 57] S F G Q
    obtain ⟨q8, h⟩ := h
    obtain ⟨q9, h⟩ := h
    refine go_laload (show decode cX10_in 53 = .ok (.laload, 1) by decide +kernel) (shm_k hsm 57 (by decide) (by decide)) q8 (lt_n (m := 6912) q9 (shm_n hsm 57 (by decide) (by decide))) ?_
    exact go_lret (show decode cX10_in 54 = .ok (.lreturn, 1) by decide +kernel) rfl h
  · have h := hf hc
    refine go_aload_n (show decode cX10_in 5 = .ok (.aload_n 0, 1) by decide +kernel) (by rfl) ?_
    refine go_getRc (show decode cX10_in 6 = .ok (.getfield 35, 3) by decide +kernel) fl_X10_35 rfl (shm_k hsm 53 (by decide) (by decide)) (v := 57) (shm_r hsm 53 7 (by decide) (by decide)) ?_
    refine go_iconst (show decode cX10_in 9 = .ok (.iconst 0, 1) by decide +kernel) (by decide) ?_
    refine go_iload_n (show decode cX10_in 10 = .ok (.iload_n 2, 1) by decide +kernel) (by rfl) ?_
    refine go_iload_n (show decode cX10_in 11 = .ok (.iload_n 3, 1) by decide +kernel) (by rfl) ?_
    obtain ⟨q10, h⟩ := h
    obtain ⟨z15, p16, h⟩ := h
    refine go_callS (d2 := d - 1) (M2 := MX10_slot) (n := 3) (av := [vI 0, vI a2, vI a3]) (st := [vR 57]) (show decode cX10_in 12 = .ok (.invokestatic 130, 3) by decide +kernel) ml_X10_130 mt_X10_slot mst_X10_slot rfl (Nat.le_of_ble_eq_true rfl) (by omega) (ok_mono p16 (fun w11 S12 F13 G14 e9 => ?_))
    obtain ⟨e1, e2, e3, e4⟩ := e9
    subst e1
    replace e2 := e2.symm; subst e2
    replace e3 := e3.symm; subst e3
    replace e4 := e4.symm; subst e4
    show Go d MX10_in 15 [some (vR 53), some (vI a1), some (vI a2), some (vI a3)] [vI z15, vR 57] S F G Q
    obtain ⟨q17, h⟩ := h
    obtain ⟨q18, h⟩ := h
    refine go_laload (show decode cX10_in 15 = .ok (.laload, 1) by decide +kernel) (shm_k hsm 57 (by decide) (by decide)) q17 (lt_n (m := 6912) q18 (shm_n hsm 57 (by decide) (by decide))) ?_
    refine go_aload_n (show decode cX10_in 16 = .ok (.aload_n 0, 1) by decide +kernel) (by rfl) ?_
    refine go_getRc (show decode cX10_in 17 = .ok (.getfield 35, 3) by decide +kernel) fl_X10_35 rfl (shm_k hsm 53 (by decide) (by decide)) (v := 57) (shm_r hsm 53 7 (by decide) (by decide)) ?_
    refine go_iconst (show decode cX10_in 20 = .ok (.iconst 1, 1) by decide +kernel) (by decide) ?_
    refine go_iload_n (show decode cX10_in 21 = .ok (.iload_n 2, 1) by decide +kernel) (by rfl) ?_
    refine go_iload_n (show decode cX10_in 22 = .ok (.iload_n 3, 1) by decide +kernel) (by rfl) ?_
    obtain ⟨z23, p24, h⟩ := h
    refine go_callS (d2 := d - 1) (M2 := MX10_slot) (n := 3) (av := [vI 1, vI a2, vI a3]) (st := [vR 57, vJ (G 57 z15)]) (show decode cX10_in 23 = .ok (.invokestatic 130, 3) by decide +kernel) ml_X10_130 mt_X10_slot mst_X10_slot rfl (Nat.le_of_ble_eq_true rfl) (by omega) (ok_mono p24 (fun w19 S20 F21 G22 e9 => ?_))
    obtain ⟨e1, e2, e3, e4⟩ := e9
    subst e1
    replace e2 := e2.symm; subst e2
    replace e3 := e3.symm; subst e3
    replace e4 := e4.symm; subst e4
    show Go d MX10_in 26 [some (vR 53), some (vI a1), some (vI a2), some (vI a3)] [vI z23, vR 57, vJ (G 57 z15)] S F G Q
    obtain ⟨q25, h⟩ := h
    obtain ⟨q26, h⟩ := h
    refine go_laload (show decode cX10_in 26 = .ok (.laload, 1) by decide +kernel) (shm_k hsm 57 (by decide) (by decide)) q25 (lt_n (m := 6912) q26 (shm_n hsm 57 (by decide) (by decide))) ?_
    obtain ⟨q27, h⟩ := h
    refine go_ladd (show decode cX10_in 27 = .ok (.ladd, 1) by decide +kernel) q27 ?_
    refine go_aload_n (show decode cX10_in 28 = .ok (.aload_n 0, 1) by decide +kernel) (by rfl) ?_
    refine go_getRc (show decode cX10_in 29 = .ok (.getfield 35, 3) by decide +kernel) fl_X10_35 rfl (shm_k hsm 53 (by decide) (by decide)) (v := 57) (shm_r hsm 53 7 (by decide) (by decide)) ?_
    refine go_iconst (show decode cX10_in 32 = .ok (.iconst 2, 1) by decide +kernel) (by decide) ?_
    refine go_iload_n (show decode cX10_in 33 = .ok (.iload_n 2, 1) by decide +kernel) (by rfl) ?_
    refine go_iload_n (show decode cX10_in 34 = .ok (.iload_n 3, 1) by decide +kernel) (by rfl) ?_
    obtain ⟨z32, p33, h⟩ := h
    refine go_callS (d2 := d - 1) (M2 := MX10_slot) (n := 3) (av := [vI 2, vI a2, vI a3]) (st := [vR 57, vJ ((G 57 z15) + (G 57 z23))]) (show decode cX10_in 35 = .ok (.invokestatic 130, 3) by decide +kernel) ml_X10_130 mt_X10_slot mst_X10_slot rfl (Nat.le_of_ble_eq_true rfl) (by omega) (ok_mono p33 (fun w28 S29 F30 G31 e9 => ?_))
    obtain ⟨e1, e2, e3, e4⟩ := e9
    subst e1
    replace e2 := e2.symm; subst e2
    replace e3 := e3.symm; subst e3
    replace e4 := e4.symm; subst e4
    show Go d MX10_in 38 [some (vR 53), some (vI a1), some (vI a2), some (vI a3)] [vI z32, vR 57, vJ ((G 57 z15) + (G 57 z23))] S F G Q
    obtain ⟨q34, h⟩ := h
    obtain ⟨q35, h⟩ := h
    refine go_laload (show decode cX10_in 38 = .ok (.laload, 1) by decide +kernel) (shm_k hsm 57 (by decide) (by decide)) q34 (lt_n (m := 6912) q35 (shm_n hsm 57 (by decide) (by decide))) ?_
    obtain ⟨q36, h⟩ := h
    refine go_ladd (show decode cX10_in 39 = .ok (.ladd, 1) by decide +kernel) q36 ?_
    refine go_goto (tgt := 54) (show decode cX10_in 40 = .ok (.goto 14, 3) by decide +kernel) (by decide) ?_
    exact go_lret (show decode cX10_in 54 = .ok (.lreturn, 1) by decide +kernel) rfl h
def V_X10_slot_0 (d : Nat) (S : AS) (F : AF) (G : AG) (Q : AQ) (a0 : Int) (a1 : Int) (a2 : Int) : Prop :=
  (r32 (2304 * a0)) ∧
  (r32 (48 * a2)) ∧
  (r32 ((2304 * a0) + (48 * a2))) ∧
  (r32 (((2304 * a0) + (48 * a2)) + a1)) ∧
  Q (some (vI (((2304 * a0) + (48 * a2)) + a1))) S F G
theorem R_X10_slot_0 {d : Nat} {S : AS} {F : AF} {G : AG} {Q : AQ} {a0 : Int} {a1 : Int} {a2 : Int} (hsm : ShM S) (h : V_X10_slot_0 d S F G Q a0 a1 a2) : Go d MX10_slot 0 [some (vI a0), some (vI a1), some (vI a2)] [] S F G Q := by
  unfold V_X10_slot_0 at h
  refine go_sipush (show decode cX10_slot 0 = .ok (.sipush 2304, 3) by decide +kernel) (by decide) ?_
  refine go_iload_n (show decode cX10_slot 3 = .ok (.iload_n 0, 1) by decide +kernel) (by rfl) ?_
  obtain ⟨q1, h⟩ := h
  refine go_imul (show decode cX10_slot 4 = .ok (.imul, 1) by decide +kernel) q1 ?_
  refine go_bipush (show decode cX10_slot 5 = .ok (.bipush 48, 2) by decide +kernel) (by decide) ?_
  refine go_iload_n (show decode cX10_slot 7 = .ok (.iload_n 2, 1) by decide +kernel) (by rfl) ?_
  obtain ⟨q2, h⟩ := h
  refine go_imul (show decode cX10_slot 8 = .ok (.imul, 1) by decide +kernel) q2 ?_
  obtain ⟨q3, h⟩ := h
  refine go_iadd (show decode cX10_slot 9 = .ok (.iadd, 1) by decide +kernel) q3 ?_
  refine go_iload_n (show decode cX10_slot 10 = .ok (.iload_n 1, 1) by decide +kernel) (by rfl) ?_
  obtain ⟨q4, h⟩ := h
  refine go_iadd (show decode cX10_slot 11 = .ok (.iadd, 1) by decide +kernel) q4 ?_
  exact go_iret (show decode cX10_slot 12 = .ok (.ireturn, 1) by decide +kernel) rfl h
