def V_X2_clear_52 (d : Nat) (S : AS) (F : AF) (G : AG) (Q : AQ) (a1 : Int) (a2 : Int) (a3 : Int) (a5 : Int) : Prop :=
  ((6 ≤ a5) →
    Q none S F G) ∧
  ((¬ 6 ≤ a5) →
    ((0 : Int) ≤ a5) ∧
    ((a5 : Int) < 6) ∧
    ∀ F3 : AF, F3 = fu F (22 + 2 * Int.toNat a5) 2 0 →
    (r32 (a5 + 1)) ∧
    Go d MX2_clear 52 [some (vR 2), some (vI a1), some (vI a2), some (vJ a3), none, some (vI (a5 + 1))] [] S F3 G Q)
theorem R_X2_clear_52 {d : Nat} {S : AS} {F : AF} {G : AG} {Q : AQ} {a1 : Int} {a2 : Int} {a3 : Int} {a5 : Int} (hsh : ShC S) (h : V_X2_clear_52 d S F G Q a1 a2 a3 a5) : Go d MX2_clear 52 [some (vR 2), some (vI a1), some (vI a2), some (vJ a3), none, some (vI a5)] [] S F G Q := by
  unfold V_X2_clear_52 at h
  refine go_iload (show decode cX2_clear 52 = .ok (.iload 5, 2) by decide +kernel) (by rfl) ?_
  refine go_aload_n (show decode cX2_clear 54 = .ok (.aload_n 0, 1) by decide +kernel) (by rfl) ?_
  refine go_getRc (show decode cX2_clear 55 = .ok (.getfield 37, 3) by decide +kernel) fl_X2_37 rfl (shc_k hsh 2 (by decide) (by decide)) (v := 20) (shc_r hsh 2 5 (by decide) (by decide) (by decide)) ?_
  refine go_alenc (show decode cX2_clear 58 = .ok (.arraylength, 1) by decide +kernel) (by have h9 : sK S 20 = 24 := (shc_k hsh 20 (by decide) (by decide)); omega) (z := 6) (by rw [(shc_n hsh 20 (by decide) (by decide))]; rfl) ?_
  obtain ⟨ht, hf⟩ := h
  refine go_icmpge (tgt := 79) (show decode cX2_clear 59 = .ok (.if_icmp .ge 20, 3) by decide +kernel) (by decide) (fun hc => ?_) (fun hc => ?_)
  · have h := ht hc
    exact go_vret (show decode cX2_clear 79 = .ok (.return_, 1) by decide +kernel) rfl h
  · have h := hf hc
    refine go_aload_n (show decode cX2_clear 62 = .ok (.aload_n 0, 1) by decide +kernel) (by rfl) ?_
    refine go_getRc (show decode cX2_clear 63 = .ok (.getfield 37, 3) by decide +kernel) fl_X2_37 rfl (shc_k hsh 2 (by decide) (by decide)) (v := 20) (shc_r hsh 2 5 (by decide) (by decide) (by decide)) ?_
    refine go_iload (show decode cX2_clear 66 = .ok (.iload 5, 2) by decide +kernel) (by rfl) ?_
    obtain ⟨q1, h⟩ := h
    obtain ⟨q2, h⟩ := h
    refine go_aaloadc (show decode cX2_clear 68 = .ok (.aaload, 1) by decide +kernel) (Or.inl (shc_k hsh 20 (by decide) (by decide))) q1 (lt_n (m := 6) q2 (shc_n hsh 20 (by decide) (by decide))) (sh_zone hsh q1 q2) ?_
    refine go_iconst (show decode cX2_clear 69 = .ok (.iconst 0, 1) by decide +kernel) (by decide) ?_
    refine go_putB (show decode cX2_clear 70 = .ok (.putfield 70, 3) by decide +kernel) fl_X2_70 rfl (Or.inl rfl) (sh_zoneAt hsh q1 q2).1 (by decide) ?_
    obtain ⟨F3, F3e⟩ : ∃ F3 : AF, F3 = fu F (22 + 2 * Int.toNat a5) 2 0 := ⟨_, rfl⟩
    have h := h F3 F3e
    rw [← F3e]
    obtain ⟨q4, h⟩ := h
    refine go_iinc (show decode cX2_clear 73 = .ok (.iinc 5 1, 3) by decide +kernel) (by rfl) q4 (by decide) ?_
    show Go d MX2_clear 76 [some (vR 2), some (vI a1), some (vI a2), some (vJ a3), none, some (vI (a5 + 1))] [] S F3 G Q
    refine go_goto (tgt := 52) (show decode cX2_clear 76 = .ok (.goto (-24), 3) by decide +kernel) (by decide) ?_
    exact h
def V_X2_clear_0 (d : Nat) (S : AS) (F : AF) (G : AG) (Q : AQ) (a1 : Int) (a2 : Int) (a3 : Int) : Prop :=
  (1 ≤ d) ∧
  Ok (d - 1) MX0_clear [vR 3, vI a1] S F G (fun w2 S3 F4 G5 =>
  S3 = S ∧
  w2 = none ∧
  Ok (d - 1) MX0_clear [vR 10, vI a2] S F4 G5 (fun w6 S7 F8 G9 =>
  S7 = S ∧
  w6 = none ∧
  (r32 (a1 - 1)) ∧
  (r32 (a2 - 1)) ∧
  Ok (d - 1) MX3_set [vR 17, vI 0, vI 0, vI (a1 - 1), vI (a2 - 1)] S F8 G9 (fun w12 S13 F14 G15 =>
  S13 = S ∧
  w12 = none ∧
  ∀ F16 : AF, F16 = fu F14 2 7 a3 →
  ∀ F17 : AF, F17 = fu F16 2 8 0 →
  Ok (d - 1) MJ7_fill_d0a16 [vR 18, vJ 0] S F17 G15 (fun w18 S19 F20 G21 =>
  S19 = S ∧
  w18 = none ∧
  Go d MX2_clear 52 [some (vR 2), some (vI a1), some (vI a2), some (vJ a3), none, some (vI 0)] [] S F20 G21 Q))))
theorem R_X2_clear_0 {d : Nat} {S : AS} {F : AF} {G : AG} {Q : AQ} {a1 : Int} {a2 : Int} {a3 : Int} (hsh : ShC S) (h : V_X2_clear_0 d S F G Q a1 a2 a3) : Go d MX2_clear 0 [some (vR 2), some (vI a1), some (vI a2), some (vJ a3), none, none] [] S F G Q := by
  unfold V_X2_clear_0 at h
  refine go_aload_n (show decode cX2_clear 0 = .ok (.aload_n 0, 1) by decide +kernel) (by rfl) ?_
  refine go_getRc (show decode cX2_clear 1 = .ok (.getfield 12, 3) by decide +kernel) fl_X2_12 rfl (shc_k hsh 2 (by decide) (by decide)) (v := 3) (shc_r hsh 2 0 (by decide) (by decide) (by decide)) ?_
  refine go_iload_n (show decode cX2_clear 4 = .ok (.iload_n 1, 1) by decide +kernel) (by rfl) ?_
  obtain ⟨q1, h⟩ := h
  refine go_callV (d2 := d - 1) (M2 := MX0_clear) (n := 1) (ci := 0) (av := [vI a1]) (st := []) (show decode cX2_clear 5 = .ok (.invokevirtual 48, 3) by decide +kernel) ml_X2_48 mt_X0_clear min_X0_clear mse_X0_clear (by decide) (shc_k hsh 3 (by decide) (by decide)) rfl (Nat.le_of_ble_eq_true rfl) (by omega) (ok_mono h (fun w2 S3 F4 G5 h => ?_))
  obtain ⟨e8, h⟩ := h
  replace e8 := e8.symm; subst e8
  obtain ⟨e9, h⟩ := h
  subst e9
  show Go d MX2_clear 8 [some (vR 2), some (vI a1), some (vI a2), some (vJ a3), none, none] [] S F4 G5 Q
  refine go_aload_n (show decode cX2_clear 8 = .ok (.aload_n 0, 1) by decide +kernel) (by rfl) ?_
  refine go_getRc (show decode cX2_clear 9 = .ok (.getfield 18, 3) by decide +kernel) fl_X2_18 rfl (shc_k hsh 2 (by decide) (by decide)) (v := 10) (shc_r hsh 2 1 (by decide) (by decide) (by decide)) ?_
  refine go_iload_n (show decode cX2_clear 12 = .ok (.iload_n 2, 1) by decide +kernel) (by rfl) ?_
  refine go_callV (d2 := d - 1) (M2 := MX0_clear) (n := 1) (ci := 0) (av := [vI a2]) (st := []) (show decode cX2_clear 13 = .ok (.invokevirtual 48, 3) by decide +kernel) ml_X2_48 mt_X0_clear min_X0_clear mse_X0_clear (by decide) (shc_k hsh 10 (by decide) (by decide)) rfl (Nat.le_of_ble_eq_true rfl) (by omega) (ok_mono h (fun w6 S7 F8 G9 h => ?_))
  obtain ⟨e8, h⟩ := h
  replace e8 := e8.symm; subst e8
  obtain ⟨e9, h⟩ := h
  subst e9
  show Go d MX2_clear 16 [some (vR 2), some (vI a1), some (vI a2), some (vJ a3), none, none] [] S F8 G9 Q
  refine go_aload_n (show decode cX2_clear 16 = .ok (.aload_n 0, 1) by decide +kernel) (by rfl) ?_
  refine go_getRc (show decode cX2_clear 17 = .ok (.getfield 24, 3) by decide +kernel) fl_X2_24 rfl (shc_k hsh 2 (by decide) (by decide)) (v := 17) (shc_r hsh 2 2 (by decide) (by decide) (by decide)) ?_
  refine go_iconst (show decode cX2_clear 20 = .ok (.iconst 0, 1) by decide +kernel) (by decide) ?_
  refine go_iconst (show decode cX2_clear 21 = .ok (.iconst 0, 1) by decide +kernel) (by decide) ?_
  refine go_iload_n (show decode cX2_clear 22 = .ok (.iload_n 1, 1) by decide +kernel) (by rfl) ?_
  refine go_iconst (show decode cX2_clear 23 = .ok (.iconst 1, 1) by decide +kernel) (by decide) ?_
  obtain ⟨q10, h⟩ := h
  refine go_isub (show decode cX2_clear 24 = .ok (.isub, 1) by decide +kernel) q10 ?_
  refine go_iload_n (show decode cX2_clear 25 = .ok (.iload_n 2, 1) by decide +kernel) (by rfl) ?_
  refine go_iconst (show decode cX2_clear 26 = .ok (.iconst 1, 1) by decide +kernel) (by decide) ?_
  obtain ⟨q11, h⟩ := h
  refine go_isub (show decode cX2_clear 27 = .ok (.isub, 1) by decide +kernel) q11 ?_
  refine go_callV (d2 := d - 1) (M2 := MX3_set) (n := 4) (ci := 3) (av := [vI 0, vI 0, vI (a1 - 1), vI (a2 - 1)]) (st := []) (show decode cX2_clear 28 = .ok (.invokevirtual 52, 3) by decide +kernel) ml_X2_52 mt_X3_set min_X3_set mse_X3_set (by decide) (shc_k hsh 17 (by decide) (by decide)) rfl (Nat.le_of_ble_eq_true rfl) (by omega) (ok_mono h (fun w12 S13 F14 G15 h => ?_))
  obtain ⟨e8, h⟩ := h
  replace e8 := e8.symm; subst e8
  obtain ⟨e9, h⟩ := h
  subst e9
  show Go d MX2_clear 31 [some (vR 2), some (vI a1), some (vI a2), some (vJ a3), none, none] [] S F14 G15 Q
  refine go_aload_n (show decode cX2_clear 31 = .ok (.aload_n 0, 1) by decide +kernel) (by rfl) ?_
  refine go_lload_n (show decode cX2_clear 32 = .ok (.lload_n 3, 1) by decide +kernel) (by rfl) ?_
  refine go_putJ (show decode cX2_clear 33 = .ok (.putfield 56, 3) by decide +kernel) fl_X2_56 rfl (Or.inl rfl) (shc_k hsh 2 (by decide) (by decide)) ?_
  obtain ⟨F16, F16e⟩ : ∃ F16 : AF, F16 = fu F14 2 7 a3 := ⟨_, rfl⟩
  have h := h F16 F16e
  rw [← F16e]
  refine go_aload_n (show decode cX2_clear 36 = .ok (.aload_n 0, 1) by decide +kernel) (by rfl) ?_
  refine go_iconst (show decode cX2_clear 37 = .ok (.iconst 0, 1) by decide +kernel) (by decide) ?_
  refine go_putI (show decode cX2_clear 38 = .ok (.putfield 60, 3) by decide +kernel) fl_X2_60 rfl (Or.inl rfl) (shc_k hsh 2 (by decide) (by decide)) ?_
  obtain ⟨F17, F17e⟩ : ∃ F17 : AF, F17 = fu F16 2 8 0 := ⟨_, rfl⟩
  have h := h F17 F17e
  rw [← F17e]
  refine go_aload_n (show decode cX2_clear 41 = .ok (.aload_n 0, 1) by decide +kernel) (by rfl) ?_
  refine go_getRc (show decode cX2_clear 42 = .ok (.getfield 28, 3) by decide +kernel) fl_X2_28 rfl (shc_k hsh 2 (by decide) (by decide)) (v := 18) (shc_r hsh 2 3 (by decide) (by decide) (by decide)) ?_
  refine go_lconst (n := 0) (show decode cX2_clear 45 = .ok (.lconst 0, 1) by decide +kernel) ?_
  show Go d MX2_clear 46 [some (vR 2), some (vI a1), some (vI a2), some (vJ a3), none, none] [vJ 0, vR 18] S F17 G15 Q
  refine go_callS (d2 := d - 1) (M2 := MJ7_fill_d0a16) (n := 2) (av := [vR 18, vJ 0]) (st := []) (show decode cX2_clear 46 = .ok (.invokestatic 64, 3) by decide +kernel) ml_X2_64 mt_J7_fill_d0a16 mst_J7_fill_d0a16 rfl (Nat.le_of_ble_eq_true rfl) (by omega) (ok_mono h (fun w18 S19 F20 G21 h => ?_))
  obtain ⟨e8, h⟩ := h
  replace e8 := e8.symm; subst e8
  obtain ⟨e9, h⟩ := h
  subst e9
  show Go d MX2_clear 49 [some (vR 2), some (vI a1), some (vI a2), some (vJ a3), none, none] [] S F20 G21 Q
  refine go_iconst (show decode cX2_clear 49 = .ok (.iconst 0, 1) by decide +kernel) (by decide) ?_
  refine go_istore (show decode cX2_clear 50 = .ok (.istore 5, 2) by decide +kernel) (by decide) ?_
  show Go d MX2_clear 52 [some (vR 2), some (vI a1), some (vI a2), some (vJ a3), none, some (vI 0)] [] S F20 G21 Q
  exact h
def V_X2_holds_0 (d : Nat) (S : AS) (F : AF) (G : AG) (Q : AQ) (a1 : Nat) : Prop :=
  ((F a1 0 < 0) →
    Q (some (vI 0)) S F G) ∧
  ((¬ F a1 0 < 0) →
    ((F a1 2 < F a1 0) →
      Q (some (vI 0)) S F G) ∧
    ((¬ F a1 2 < F a1 0) →
      ((F 17 2 < F a1 2) →
        Q (some (vI 0)) S F G) ∧
      ((¬ F 17 2 < F a1 2) →
        ((F a1 1 < 0) →
          Q (some (vI 0)) S F G) ∧
        ((¬ F a1 1 < 0) →
          ((F a1 3 < F a1 1) →
            Q (some (vI 0)) S F G) ∧
          ((¬ F a1 3 < F a1 1) →
            ((F 17 3 < F a1 3) →
              Q (some (vI 0)) S F G) ∧
            ((¬ F 17 3 < F a1 3) →
              Q (some (vI 1)) S F G))))))
theorem R_X2_holds_0 {d : Nat} {S : AS} {F : AF} {G : AG} {Q : AQ} {a1 : Nat} (hsh : ShC S) (hk1 : AtRect S a1) (h : V_X2_holds_0 d S F G Q a1) : Go d MX2_holds 0 [some (vR 2), some (vR a1)] [] S F G Q := by
  unfold V_X2_holds_0 at h
  refine go_aload_n (show decode cX2_holds 0 = .ok (.aload_n 1, 1) by decide +kernel) (by rfl) ?_
  refine go_getI (show decode cX2_holds 1 = .ok (.getfield 74, 3) by decide +kernel) fl_X2_74 (Or.inl rfl) hk1 ?_
  obtain ⟨ht, hf⟩ := h
  refine go_iflt (tgt := 68) (show decode cX2_holds 4 = .ok (.ifCond .lt 64, 3) by decide +kernel) (by decide) (fun hc => ?_) (fun hc => ?_)
  · have h := ht hc
    refine go_iconst (show decode cX2_holds 68 = .ok (.iconst 0, 1) by decide +kernel) (by decide) ?_
    exact go_zret (show decode cX2_holds 69 = .ok (.ireturn, 1) by decide +kernel) rfl (by decide) h
  · have h := hf hc
    refine go_aload_n (show decode cX2_holds 7 = .ok (.aload_n 1, 1) by decide +kernel) (by rfl) ?_
    refine go_getI (show decode cX2_holds 8 = .ok (.getfield 74, 3) by decide +kernel) fl_X2_74 (Or.inl rfl) hk1 ?_
    refine go_aload_n (show decode cX2_holds 11 = .ok (.aload_n 1, 1) by decide +kernel) (by rfl) ?_
    refine go_getI (show decode cX2_holds 12 = .ok (.getfield 77, 3) by decide +kernel) fl_X2_77 (Or.inl rfl) hk1 ?_
    obtain ⟨ht, hf⟩ := h
    refine go_icmpgt (tgt := 68) (show decode cX2_holds 15 = .ok (.if_icmp .gt 53, 3) by decide +kernel) (by decide) (fun hc => ?_) (fun hc => ?_)
    · have h := ht hc
      refine go_iconst (show decode cX2_holds 68 = .ok (.iconst 0, 1) by decide +kernel) (by decide) ?_
      exact go_zret (show decode cX2_holds 69 = .ok (.ireturn, 1) by decide +kernel) rfl (by decide) h
    · have h := hf hc
      refine go_aload_n (show decode cX2_holds 18 = .ok (.aload_n 1, 1) by decide +kernel) (by rfl) ?_
      refine go_getI (show decode cX2_holds 19 = .ok (.getfield 77, 3) by decide +kernel) fl_X2_77 (Or.inl rfl) hk1 ?_
      refine go_aload_n (show decode cX2_holds 22 = .ok (.aload_n 0, 1) by decide +kernel) (by rfl) ?_
      refine go_getRc (show decode cX2_holds 23 = .ok (.getfield 24, 3) by decide +kernel) fl_X2_24 rfl (shc_k hsh 2 (by decide) (by decide)) (v := 17) (shc_r hsh 2 2 (by decide) (by decide) (by decide)) ?_
      refine go_getI (show decode cX2_holds 26 = .ok (.getfield 77, 3) by decide +kernel) fl_X2_77 (Or.inl rfl) (shc_k hsh 17 (by decide) (by decide)) ?_
      obtain ⟨ht, hf⟩ := h
      refine go_icmpgt (tgt := 68) (show decode cX2_holds 29 = .ok (.if_icmp .gt 39, 3) by decide +kernel) (by decide) (fun hc => ?_) (fun hc => ?_)
      · have h := ht hc
        refine go_iconst (show decode cX2_holds 68 = .ok (.iconst 0, 1) by decide +kernel) (by decide) ?_
        exact go_zret (show decode cX2_holds 69 = .ok (.ireturn, 1) by decide +kernel) rfl (by decide) h
      · have h := hf hc
        refine go_aload_n (show decode cX2_holds 32 = .ok (.aload_n 1, 1) by decide +kernel) (by rfl) ?_
        refine go_getI (show decode cX2_holds 33 = .ok (.getfield 80, 3) by decide +kernel) fl_X2_80 (Or.inl rfl) hk1 ?_
        obtain ⟨ht, hf⟩ := h
        refine go_iflt (tgt := 68) (show decode cX2_holds 36 = .ok (.ifCond .lt 32, 3) by decide +kernel) (by decide) (fun hc => ?_) (fun hc => ?_)
        · have h := ht hc
          refine go_iconst (show decode cX2_holds 68 = .ok (.iconst 0, 1) by decide +kernel) (by decide) ?_
          exact go_zret (show decode cX2_holds 69 = .ok (.ireturn, 1) by decide +kernel) rfl (by decide) h
        · have h := hf hc
          refine go_aload_n (show decode cX2_holds 39 = .ok (.aload_n 1, 1) by decide +kernel) (by rfl) ?_
          refine go_getI (show decode cX2_holds 40 = .ok (.getfield 80, 3) by decide +kernel) fl_X2_80 (Or.inl rfl) hk1 ?_
          refine go_aload_n (show decode cX2_holds 43 = .ok (.aload_n 1, 1) by decide +kernel) (by rfl) ?_
          refine go_getI (show decode cX2_holds 44 = .ok (.getfield 83, 3) by decide +kernel) fl_X2_83 (Or.inl rfl) hk1 ?_
          obtain ⟨ht, hf⟩ := h
          refine go_icmpgt (tgt := 68) (show decode cX2_holds 47 = .ok (.if_icmp .gt 21, 3) by decide +kernel) (by decide) (fun hc => ?_) (fun hc => ?_)
          · have h := ht hc
            refine go_iconst (show decode cX2_holds 68 = .ok (.iconst 0, 1) by decide +kernel) (by decide) ?_
            exact go_zret (show decode cX2_holds 69 = .ok (.ireturn, 1) by decide +kernel) rfl (by decide) h
          · have h := hf hc
            refine go_aload_n (show decode cX2_holds 50 = .ok (.aload_n 1, 1) by decide +kernel) (by rfl) ?_
            refine go_getI (show decode cX2_holds 51 = .ok (.getfield 83, 3) by decide +kernel) fl_X2_83 (Or.inl rfl) hk1 ?_
            refine go_aload_n (show decode cX2_holds 54 = .ok (.aload_n 0, 1) by decide +kernel) (by rfl) ?_
            refine go_getRc (show decode cX2_holds 55 = .ok (.getfield 24, 3) by decide +kernel) fl_X2_24 rfl (shc_k hsh 2 (by decide) (by decide)) (v := 17) (shc_r hsh 2 2 (by decide) (by decide) (by decide)) ?_
            refine go_getI (show decode cX2_holds 58 = .ok (.getfield 83, 3) by decide +kernel) fl_X2_83 (Or.inl rfl) (shc_k hsh 17 (by decide) (by decide)) ?_
            obtain ⟨ht, hf⟩ := h
            refine go_icmpgt (tgt := 68) (show decode cX2_holds 61 = .ok (.if_icmp .gt 7, 3) by decide +kernel) (by decide) (fun hc => ?_) (fun hc => ?_)
            · have h := ht hc
              refine go_iconst (show decode cX2_holds 68 = .ok (.iconst 0, 1) by decide +kernel) (by decide) ?_
              exact go_zret (show decode cX2_holds 69 = .ok (.ireturn, 1) by decide +kernel) rfl (by decide) h
            · have h := hf hc
              refine go_iconst (show decode cX2_holds 64 = .ok (.iconst 1, 1) by decide +kernel) (by decide) ?_
              refine go_goto (tgt := 69) (show decode cX2_holds 65 = .ok (.goto 4, 3) by decide +kernel) (by decide) ?_
              exact go_zret (show decode cX2_holds 69 = .ok (.ireturn, 1) by decide +kernel) rfl (by decide) h
def V_X2_addRefusal_130 (d : Nat) (S : AS) (F : AF) (G : AG) (Q : AQ) (a1 : Int) (a2 : Nat) (a3 : Int) (a4 : Int) (a5 : Int) : Prop :=
  (r32 (a4 + 1)) ∧
  Go d MX2_addRefusal 46 [some (vR 2), some (vI a1), some (vR a2), some (vI a3), some (vI (a4 + 1)), none, none] [] S F G Q
theorem R_X2_addRefusal_130 {d : Nat} {S : AS} {F : AF} {G : AG} {Q : AQ} {a1 : Int} {a2 : Nat} {a3 : Int} {a4 : Int} {a5 : Int} (hsh : ShC S) (hk2 : AtRect S a2) (h : V_X2_addRefusal_130 d S F G Q a1 a2 a3 a4 a5) : Go d MX2_addRefusal 130 [some (vR 2), some (vI a1), some (vR a2), some (vI a3), some (vI a4), some (vJ a5), none] [] S F G Q := by
  unfold V_X2_addRefusal_130 at h
  obtain ⟨q1, h⟩ := h
  refine go_iinc (show decode cX2_addRefusal 130 = .ok (.iinc 4 1, 3) by decide +kernel) (by rfl) q1 (by decide) ?_
  show Go d MX2_addRefusal 133 [some (vR 2), some (vI a1), some (vR a2), some (vI a3), some (vI (a4 + 1)), some (vJ a5), none] [] S F G Q
  refine go_goto (tgt := 46) (show decode cX2_addRefusal 133 = .ok (.goto (-87), 3) by decide +kernel) (by decide) ?_
  refine go_clr 5 ?_
  exact h
def V_X2_addRefusal_46 (d : Nat) (S : AS) (F : AF) (G : AG) (Q : AQ) (a1 : Int) (a2 : Nat) (a3 : Int) (a4 : Int) : Prop :=
  ((6 ≤ a4) →
    (1 ≤ d) ∧
    ∃ z6 : Int, Pu (d - 1) MX2_sumOf [vR 2, vI a1, vR 17] S F G (some (vJ z6)) ∧
    ∃ z12 : Int, Pu (d - 1) MX3_cells [vR a2] S F G (some (vJ z12)) ∧
    (r64 (z12 * a3)) ∧
    (r64 (z6 + (z12 * a3))) ∧
    ((z6 + (z12 * a3) ≤ 3000000000000000000) →
      Q (some (vI 0)) S F G) ∧
    ((¬ z6 + (z12 * a3) ≤ 3000000000000000000) →
      Q (some (vI (-6))) S F G)) ∧
  ((¬ 6 ≤ a4) →
    ((0 : Int) ≤ a4) ∧
    ((a4 : Int) < 6) ∧
    (1 ≤ d) ∧
    ∃ z23 : Int, Pu (d - 1) MX2_commonCells [vR (22 + 2 * Int.toNat a4 + 1), vR a2] S F G (some (vJ z23)) ∧
    (r64 (z23 * a3)) ∧
    ∀ x26 : Int, x26 = z23 * a3 →
    ((F (22 + 2 * Int.toNat a4) 2 = 0) →
      V_X2_addRefusal_130 d S F G Q a1 a2 a3 a4 x26) ∧
    ((¬ F (22 + 2 * Int.toNat a4) 2 = 0) →
      ((x26 ≤ 0) →
        V_X2_addRefusal_130 d S F G Q a1 a2 a3 a4 x26) ∧
      ((¬ x26 ≤ 0) →
        ∃ z31 : Int, Pu (d - 1) MX2_sumOf [vR 2, vI (-1), vR (22 + 2 * Int.toNat a4 + 1)] S F G (some (vJ z31)) ∧
        (r64 (z31 + x26)) ∧
        ((z31 + x26 ≤ F (22 + 2 * Int.toNat a4) 1) →
          V_X2_addRefusal_130 d S F G Q a1 a2 a3 a4 x26) ∧
        ((¬ z31 + x26 ≤ F (22 + 2 * Int.toNat a4) 1) →
          Q (some (vI (-9))) S F G))))
theorem R_X2_addRefusal_46 {d : Nat} {S : AS} {F : AF} {G : AG} {Q : AQ} {a1 : Int} {a2 : Nat} {a3 : Int} {a4 : Int} (hsh : ShC S) (hk2 : AtRect S a2) (h : V_X2_addRefusal_46 d S F G Q a1 a2 a3 a4) : Go d MX2_addRefusal 46 [some (vR 2), some (vI a1), some (vR a2), some (vI a3), some (vI a4), none, none] [] S F G Q := by
  unfold V_X2_addRefusal_46 at h
  refine go_iload (show decode cX2_addRefusal 46 = .ok (.iload 4, 2) by decide +kernel) (by rfl) ?_
  refine go_aload_n (show decode cX2_addRefusal 48 = .ok (.aload_n 0, 1) by decide +kernel) (by rfl) ?_
  refine go_getRc (show decode cX2_addRefusal 49 = .ok (.getfield 37, 3) by decide +kernel) fl_X2_37 rfl (shc_k hsh 2 (by decide) (by decide)) (v := 20) (shc_r hsh 2 5 (by decide) (by decide) (by decide)) ?_
  refine go_alenc (show decode cX2_addRefusal 52 = .ok (.arraylength, 1) by decide +kernel) (by have h9 : sK S 20 = 24 := (shc_k hsh 20 (by decide) (by decide)); omega) (z := 6) (by rw [(shc_n hsh 20 (by decide) (by decide))]; rfl) ?_
  obtain ⟨ht, hf⟩ := h
  refine go_icmpge (tgt := 136) (show decode cX2_addRefusal 53 = .ok (.if_icmp .ge 83, 3) by decide +kernel) (by decide) (fun hc => ?_) (fun hc => ?_)
  · have h := ht hc
    refine go_aload_n (show decode cX2_addRefusal 136 = .ok (.aload_n 0, 1) by decide +kernel) (by rfl) ?_
    refine go_iload_n (show decode cX2_addRefusal 137 = .ok (.iload_n 1, 1) by decide +kernel) (by rfl) ?_
    refine go_aload_n (show decode cX2_addRefusal 138 = .ok (.aload_n 0, 1) by decide +kernel) (by rfl) ?_
    refine go_getRc (show decode cX2_addRefusal 139 = .ok (.getfield 24, 3) by decide +kernel) fl_X2_24 rfl (shc_k hsh 2 (by decide) (by decide)) (v := 17) (shc_r hsh 2 2 (by decide) (by decide) (by decide)) ?_
    obtain ⟨q1, h⟩ := h
    obtain ⟨z6, p7, h⟩ := h
    refine go_callV (d2 := d - 1) (M2 := MX2_sumOf) (n := 2) (ci := 2) (av := [vI a1, vR 17]) (st := []) (show decode cX2_addRefusal 142 = .ok (.invokevirtual 181, 3) by decide +kernel) ml_X2_181 mt_X2_sumOf min_X2_sumOf mse_X2_sumOf (by decide) (shc_k hsh 2 (by decide) (by decide)) rfl (Nat.le_of_ble_eq_true rfl) (by omega) (ok_mono p7 (fun w2 S3 F4 G5 e9 => ?_))
    obtain ⟨e1, e2, e3, e4⟩ := e9
    subst e1
    replace e2 := e2.symm; subst e2
    replace e3 := e3.symm; subst e3
    replace e4 := e4.symm; subst e4
    show Go d MX2_addRefusal 145 [some (vR 2), some (vI a1), some (vR a2), some (vI a3), some (vI a4), none, none] [vJ z6] S F G Q
    refine go_aload_n (show decode cX2_addRefusal 145 = .ok (.aload_n 2, 1) by decide +kernel) (by rfl) ?_
    obtain ⟨z12, p13, h⟩ := h
    refine go_callV (d2 := d - 1) (M2 := MX3_cells) (n := 0) (ci := 3) (av := []) (st := [vJ z6]) (show decode cX2_addRefusal 146 = .ok (.invokevirtual 131, 3) by decide +kernel) ml_X2_131 mt_X3_cells min_X3_cells mse_X3_cells (by decide) hk2 rfl (Nat.le_of_ble_eq_true rfl) (by omega) (ok_mono p13 (fun w8 S9 F10 G11 e9 => ?_))
    obtain ⟨e1, e2, e3, e4⟩ := e9
    subst e1
    replace e2 := e2.symm; subst e2
    replace e3 := e3.symm; subst e3
    replace e4 := e4.symm; subst e4
    show Go d MX2_addRefusal 149 [some (vR 2), some (vI a1), some (vR a2), some (vI a3), some (vI a4), none, none] [vJ z12, vJ z6] S F G Q
    refine go_iload_n (show decode cX2_addRefusal 149 = .ok (.iload_n 3, 1) by decide +kernel) (by rfl) ?_
    refine go_i2l (show decode cX2_addRefusal 150 = .ok (.i2l, 1) by decide +kernel) ?_
    obtain ⟨q14, h⟩ := h
    refine go_lmul (show decode cX2_addRefusal 151 = .ok (.lmul, 1) by decide +kernel) q14 ?_
    obtain ⟨q15, h⟩ := h
    refine go_ladd (show decode cX2_addRefusal 152 = .ok (.ladd, 1) by decide +kernel) q15 ?_
    refine go_ldc2 (show decode cX2_addRefusal 153 = .ok (.ldc2_w 187, 3) by decide +kernel) lc_X2_187 (by decide) ?_
    obtain ⟨ht, hf⟩ := h
    refine go_jle (tgt := 165) (show decode cX2_addRefusal 156 = .ok (.lcmp, 1) by decide +kernel) (show decode cX2_addRefusal 157 = .ok (.ifCond .le 8, 3) by decide +kernel) (by decide) (fun hc => ?_) (fun hc => ?_)
    · have h := ht hc
      refine go_iconst (show decode cX2_addRefusal 165 = .ok (.iconst 0, 1) by decide +kernel) (by decide) ?_
      exact go_iret (show decode cX2_addRefusal 166 = .ok (.ireturn, 1) by decide +kernel) rfl h
    · have h := hf hc
      refine go_bipush (show decode cX2_addRefusal 160 = .ok (.bipush (-6), 2) by decide +kernel) (by decide) ?_
      refine go_goto (tgt := 166) (show decode cX2_addRefusal 162 = .ok (.goto 4, 3) by decide +kernel) (by decide) ?_
      exact go_iret (show decode cX2_addRefusal 166 = .ok (.ireturn, 1) by decide +kernel) rfl h
  · have h := hf hc
    refine go_aload_n (show decode cX2_addRefusal 56 = .ok (.aload_n 0, 1) by decide +kernel) (by rfl) ?_
    refine go_getRc (show decode cX2_addRefusal 57 = .ok (.getfield 37, 3) by decide +kernel) fl_X2_37 rfl (shc_k hsh 2 (by decide) (by decide)) (v := 20) (shc_r hsh 2 5 (by decide) (by decide) (by decide)) ?_
    refine go_iload (show decode cX2_addRefusal 60 = .ok (.iload 4, 2) by decide +kernel) (by rfl) ?_
    obtain ⟨q16, h⟩ := h
    obtain ⟨q17, h⟩ := h
    refine go_aaloadc (show decode cX2_addRefusal 62 = .ok (.aaload, 1) by decide +kernel) (Or.inl (shc_k hsh 20 (by decide) (by decide))) q16 (lt_n (m := 6) q17 (shc_n hsh 20 (by decide) (by decide))) (sh_zone hsh q16 q17) ?_
    refine go_getRc (show decode cX2_addRefusal 63 = .ok (.getfield 174, 3) by decide +kernel) fl_X2_174 rfl (sh_zoneAt hsh q16 q17).1 (v := (22 + 2 * Int.toNat a4 + 1)) (sh_zoneAt hsh q16 q17).2.1 ?_
    refine go_aload_n (show decode cX2_addRefusal 66 = .ok (.aload_n 2, 1) by decide +kernel) (by rfl) ?_
    obtain ⟨q18, h⟩ := h
    obtain ⟨z23, p24, h⟩ := h
    refine go_callS (d2 := d - 1) (M2 := MX2_commonCells) (n := 2) (av := [vR (22 + 2 * Int.toNat a4 + 1), vR a2]) (st := []) (show decode cX2_addRefusal 67 = .ok (.invokestatic 177, 3) by decide +kernel) ml_X2_177 mt_X2_commonCells mst_X2_commonCells rfl (Nat.le_of_ble_eq_true rfl) (by omega) (ok_mono p24 (fun w19 S20 F21 G22 e9 => ?_))
    obtain ⟨e1, e2, e3, e4⟩ := e9
    subst e1
    replace e2 := e2.symm; subst e2
    replace e3 := e3.symm; subst e3
    replace e4 := e4.symm; subst e4
    show Go d MX2_addRefusal 70 [some (vR 2), some (vI a1), some (vR a2), some (vI a3), some (vI a4), none, none] [vJ z23] S F G Q
    refine go_iload_n (show decode cX2_addRefusal 70 = .ok (.iload_n 3, 1) by decide +kernel) (by rfl) ?_
    refine go_i2l (show decode cX2_addRefusal 71 = .ok (.i2l, 1) by decide +kernel) ?_
    obtain ⟨q25, h⟩ := h
    refine go_lmul (show decode cX2_addRefusal 72 = .ok (.lmul, 1) by decide +kernel) q25 ?_
    obtain ⟨x26, x26e⟩ : ∃ x26 : Int, x26 = z23 * a3 := ⟨_, rfl⟩
    have h := h x26 x26e
    rw [← x26e]
    refine go_lstore (show decode cX2_addRefusal 73 = .ok (.lstore 5, 2) by decide +kernel) (by decide) ?_
    show Go d MX2_addRefusal 75 [some (vR 2), some (vI a1), some (vR a2), some (vI a3), some (vI a4), some (vJ x26), none] [] S F G Q
    refine go_aload_n (show decode cX2_addRefusal 75 = .ok (.aload_n 0, 1) by decide +kernel) (by rfl) ?_
    refine go_getRc (show decode cX2_addRefusal 76 = .ok (.getfield 37, 3) by decide +kernel) fl_X2_37 rfl (shc_k hsh 2 (by decide) (by decide)) (v := 20) (shc_r hsh 2 5 (by decide) (by decide) (by decide)) ?_
    refine go_iload (show decode cX2_addRefusal 79 = .ok (.iload 4, 2) by decide +kernel) (by rfl) ?_
    refine go_aaloadc (show decode cX2_addRefusal 81 = .ok (.aaload, 1) by decide +kernel) (Or.inl (shc_k hsh 20 (by decide) (by decide))) q16 (lt_n (m := 6) q17 (shc_n hsh 20 (by decide) (by decide))) (sh_zone hsh q16 q17) ?_
    refine go_getI (show decode cX2_addRefusal 82 = .ok (.getfield 70, 3) by decide +kernel) fl_X2_70 (Or.inr rfl) (sh_zoneAt hsh q16 q17).1 ?_
    obtain ⟨ht, hf⟩ := h
    refine go_ifeq (tgt := 130) (show decode cX2_addRefusal 85 = .ok (.ifCond .eq 45, 3) by decide +kernel) (by decide) (fun hc => ?_) (fun hc => ?_)
    · have h := ht hc
      exact R_X2_addRefusal_130 hsh hk2 h
    · have h := hf hc
      refine go_lload (show decode cX2_addRefusal 88 = .ok (.lload 5, 2) by decide +kernel) (by rfl) ?_
      refine go_lconst (n := 0) (show decode cX2_addRefusal 90 = .ok (.lconst 0, 1) by decide +kernel) ?_
      show Go d MX2_addRefusal 91 [some (vR 2), some (vI a1), some (vR a2), some (vI a3), some (vI a4), some (vJ x26), none] [vJ 0, vJ x26] S F G Q
      obtain ⟨ht, hf⟩ := h
      refine go_jle (tgt := 130) (show decode cX2_addRefusal 91 = .ok (.lcmp, 1) by decide +kernel) (show decode cX2_addRefusal 92 = .ok (.ifCond .le 38, 3) by decide +kernel) (by decide) (fun hc => ?_) (fun hc => ?_)
      · have h := ht hc
        exact R_X2_addRefusal_130 hsh hk2 h
      · have h := hf hc
        refine go_aload_n (show decode cX2_addRefusal 95 = .ok (.aload_n 0, 1) by decide +kernel) (by rfl) ?_
        refine go_iconst (show decode cX2_addRefusal 96 = .ok (.iconst (-1), 1) by decide +kernel) (by decide) ?_
        refine go_aload_n (show decode cX2_addRefusal 97 = .ok (.aload_n 0, 1) by decide +kernel) (by rfl) ?_
        refine go_getRc (show decode cX2_addRefusal 98 = .ok (.getfield 37, 3) by decide +kernel) fl_X2_37 rfl (shc_k hsh 2 (by decide) (by decide)) (v := 20) (shc_r hsh 2 5 (by decide) (by decide) (by decide)) ?_
        refine go_iload (show decode cX2_addRefusal 101 = .ok (.iload 4, 2) by decide +kernel) (by rfl) ?_
        refine go_aaloadc (show decode cX2_addRefusal 103 = .ok (.aaload, 1) by decide +kernel) (Or.inl (shc_k hsh 20 (by decide) (by decide))) q16 (lt_n (m := 6) q17 (shc_n hsh 20 (by decide) (by decide))) (sh_zone hsh q16 q17) ?_
        refine go_getRc (show decode cX2_addRefusal 104 = .ok (.getfield 174, 3) by decide +kernel) fl_X2_174 rfl (sh_zoneAt hsh q16 q17).1 (v := (22 + 2 * Int.toNat a4 + 1)) (sh_zoneAt hsh q16 q17).2.1 ?_
        obtain ⟨z31, p32, h⟩ := h
        refine go_callV (d2 := d - 1) (M2 := MX2_sumOf) (n := 2) (ci := 2) (av := [vI (-1), vR (22 + 2 * Int.toNat a4 + 1)]) (st := []) (show decode cX2_addRefusal 107 = .ok (.invokevirtual 181, 3) by decide +kernel) ml_X2_181 mt_X2_sumOf min_X2_sumOf mse_X2_sumOf (by decide) (shc_k hsh 2 (by decide) (by decide)) rfl (Nat.le_of_ble_eq_true rfl) (by omega) (ok_mono p32 (fun w27 S28 F29 G30 e9 => ?_))
        obtain ⟨e1, e2, e3, e4⟩ := e9
        subst e1
        replace e2 := e2.symm; subst e2
        replace e3 := e3.symm; subst e3
        replace e4 := e4.symm; subst e4
        show Go d MX2_addRefusal 110 [some (vR 2), some (vI a1), some (vR a2), some (vI a3), some (vI a4), some (vJ x26), none] [vJ z31] S F G Q
        refine go_lload (show decode cX2_addRefusal 110 = .ok (.lload 5, 2) by decide +kernel) (by rfl) ?_
        obtain ⟨q33, h⟩ := h
        refine go_ladd (show decode cX2_addRefusal 112 = .ok (.ladd, 1) by decide +kernel) q33 ?_
        refine go_aload_n (show decode cX2_addRefusal 113 = .ok (.aload_n 0, 1) by decide +kernel) (by rfl) ?_
        refine go_getRc (show decode cX2_addRefusal 114 = .ok (.getfield 37, 3) by decide +kernel) fl_X2_37 rfl (shc_k hsh 2 (by decide) (by decide)) (v := 20) (shc_r hsh 2 5 (by decide) (by decide) (by decide)) ?_
        refine go_iload (show decode cX2_addRefusal 117 = .ok (.iload 4, 2) by decide +kernel) (by rfl) ?_
        refine go_aaloadc (show decode cX2_addRefusal 119 = .ok (.aaload, 1) by decide +kernel) (Or.inl (shc_k hsh 20 (by decide) (by decide))) q16 (lt_n (m := 6) q17 (shc_n hsh 20 (by decide) (by decide))) (sh_zone hsh q16 q17) ?_
        refine go_getJ (show decode cX2_addRefusal 120 = .ok (.getfield 184, 3) by decide +kernel) fl_X2_184 rfl (sh_zoneAt hsh q16 q17).1 ?_
        obtain ⟨ht, hf⟩ := h
        refine go_jle (tgt := 130) (show decode cX2_addRefusal 123 = .ok (.lcmp, 1) by decide +kernel) (show decode cX2_addRefusal 124 = .ok (.ifCond .le 6, 3) by decide +kernel) (by decide) (fun hc => ?_) (fun hc => ?_)
        · have h := ht hc
          exact R_X2_addRefusal_130 hsh hk2 h
        · have h := hf hc
          refine go_bipush (show decode cX2_addRefusal 127 = .ok (.bipush (-9), 2) by decide +kernel) (by decide) ?_
          exact go_iret (show decode cX2_addRefusal 129 = .ok (.ireturn, 1) by decide +kernel) rfl h
def V_X2_addRefusal_0 (d : Nat) (S : AS) (F : AF) (G : AG) (Q : AQ) (a1 : Int) (a2 : Nat) (a3 : Int) : Prop :=
  (1 ≤ d) ∧
  ∃ z6 : Int, Pu (d - 1) MX2_leastIn [vR 2, vI a1, vR a2] S F G (some (vJ z6)) ∧
  (r64 (z6 + a3)) ∧
  ((0 ≤ z6 + a3) →
    ((0 ≤ a3) →
      ∃ z13 : Int, Pu (d - 1) MX2_mostIn [vR 2, vI (-1), vR a2] S F G (some (vJ z13)) ∧
      (r64 (z13 + a3)) ∧
      ((z13 + a3 ≤ F 2 7) →
        Go d MX2_addRefusal 46 [some (vR 2), some (vI a1), some (vR a2), some (vI a3), some (vI 0), none, none] [] S F G Q) ∧
      ((¬ z13 + a3 ≤ F 2 7) →
        Q (some (vI (-7))) S F G)) ∧
    ((¬ 0 ≤ a3) →
      Q (some (vI 0)) S F G)) ∧
  ((¬ 0 ≤ z6 + a3) →
    Q (some (vI (-5))) S F G)
theorem R_X2_addRefusal_0 {d : Nat} {S : AS} {F : AF} {G : AG} {Q : AQ} {a1 : Int} {a2 : Nat} {a3 : Int} (hsh : ShC S) (hk2 : AtRect S a2) (h : V_X2_addRefusal_0 d S F G Q a1 a2 a3) : Go d MX2_addRefusal 0 [some (vR 2), some (vI a1), some (vR a2), some (vI a3), none, none, none] [] S F G Q := by
  unfold V_X2_addRefusal_0 at h
  refine go_aload_n (show decode cX2_addRefusal 0 = .ok (.aload_n 0, 1) by decide +kernel) (by rfl) ?_
  refine go_iload_n (show decode cX2_addRefusal 1 = .ok (.iload_n 1, 1) by decide +kernel) (by rfl) ?_
  refine go_aload_n (show decode cX2_addRefusal 2 = .ok (.aload_n 2, 1) by decide +kernel) (by rfl) ?_
  obtain ⟨q1, h⟩ := h
  obtain ⟨z6, p7, h⟩ := h
  refine go_callV (d2 := d - 1) (M2 := MX2_leastIn) (n := 2) (ci := 2) (av := [vI a1, vR a2]) (st := []) (show decode cX2_addRefusal 3 = .ok (.invokevirtual 124, 3) by decide +kernel) ml_X2_124 mt_X2_leastIn min_X2_leastIn mse_X2_leastIn (by decide) (shc_k hsh 2 (by decide) (by decide)) rfl (Nat.le_of_ble_eq_true rfl) (by omega) (ok_mono p7 (fun w2 S3 F4 G5 e9 => ?_))
  obtain ⟨e1, e2, e3, e4⟩ := e9
  subst e1
  replace e2 := e2.symm; subst e2
  replace e3 := e3.symm; subst e3
  replace e4 := e4.symm; subst e4
  show Go d MX2_addRefusal 6 [some (vR 2), some (vI a1), some (vR a2), some (vI a3), none, none, none] [vJ z6] S F G Q
  refine go_iload_n (show decode cX2_addRefusal 6 = .ok (.iload_n 3, 1) by decide +kernel) (by rfl) ?_
  refine go_i2l (show decode cX2_addRefusal 7 = .ok (.i2l, 1) by decide +kernel) ?_
  obtain ⟨q8, h⟩ := h
  refine go_ladd (show decode cX2_addRefusal 8 = .ok (.ladd, 1) by decide +kernel) q8 ?_
  refine go_lconst (n := 0) (show decode cX2_addRefusal 9 = .ok (.lconst 0, 1) by decide +kernel) ?_
  show Go d MX2_addRefusal 10 [some (vR 2), some (vI a1), some (vR a2), some (vI a3), none, none, none] [vJ 0, vJ (z6 + a3)] S F G Q
  obtain ⟨ht, hf⟩ := h
  refine go_jge (tgt := 17) (show decode cX2_addRefusal 10 = .ok (.lcmp, 1) by decide +kernel) (show decode cX2_addRefusal 11 = .ok (.ifCond .ge 6, 3) by decide +kernel) (by decide) (fun hc => ?_) (fun hc => ?_)
  · have h := ht hc
    refine go_iload_n (show decode cX2_addRefusal 17 = .ok (.iload_n 3, 1) by decide +kernel) (by rfl) ?_
    obtain ⟨ht, hf⟩ := h
    refine go_ifge (tgt := 23) (show decode cX2_addRefusal 18 = .ok (.ifCond .ge 5, 3) by decide +kernel) (by decide) (fun hc => ?_) (fun hc => ?_)
    · have h := ht hc
      refine go_aload_n (show decode cX2_addRefusal 23 = .ok (.aload_n 0, 1) by decide +kernel) (by rfl) ?_
      refine go_iconst (show decode cX2_addRefusal 24 = .ok (.iconst (-1), 1) by decide +kernel) (by decide) ?_
      refine go_aload_n (show decode cX2_addRefusal 25 = .ok (.aload_n 2, 1) by decide +kernel) (by rfl) ?_
      obtain ⟨z13, p14, h⟩ := h
      refine go_callV (d2 := d - 1) (M2 := MX2_mostIn) (n := 2) (ci := 2) (av := [vI (-1), vR a2]) (st := []) (show decode cX2_addRefusal 26 = .ok (.invokevirtual 128, 3) by decide +kernel) ml_X2_128 mt_X2_mostIn min_X2_mostIn mse_X2_mostIn (by decide) (shc_k hsh 2 (by decide) (by decide)) rfl (Nat.le_of_ble_eq_true rfl) (by omega) (ok_mono p14 (fun w9 S10 F11 G12 e9 => ?_))
      obtain ⟨e1, e2, e3, e4⟩ := e9
      subst e1
      replace e2 := e2.symm; subst e2
      replace e3 := e3.symm; subst e3
      replace e4 := e4.symm; subst e4
      show Go d MX2_addRefusal 29 [some (vR 2), some (vI a1), some (vR a2), some (vI a3), none, none, none] [vJ z13] S F G Q
      refine go_iload_n (show decode cX2_addRefusal 29 = .ok (.iload_n 3, 1) by decide +kernel) (by rfl) ?_
      refine go_i2l (show decode cX2_addRefusal 30 = .ok (.i2l, 1) by decide +kernel) ?_
      obtain ⟨q15, h⟩ := h
      refine go_ladd (show decode cX2_addRefusal 31 = .ok (.ladd, 1) by decide +kernel) q15 ?_
      refine go_aload_n (show decode cX2_addRefusal 32 = .ok (.aload_n 0, 1) by decide +kernel) (by rfl) ?_
      refine go_getJ (show decode cX2_addRefusal 33 = .ok (.getfield 56, 3) by decide +kernel) fl_X2_56 rfl (shc_k hsh 2 (by decide) (by decide)) ?_
      obtain ⟨ht, hf⟩ := h
      refine go_jle (tgt := 43) (show decode cX2_addRefusal 36 = .ok (.lcmp, 1) by decide +kernel) (show decode cX2_addRefusal 37 = .ok (.ifCond .le 6, 3) by decide +kernel) (by decide) (fun hc => ?_) (fun hc => ?_)
      · have h := ht hc
        refine go_iconst (show decode cX2_addRefusal 43 = .ok (.iconst 0, 1) by decide +kernel) (by decide) ?_
        refine go_istore (show decode cX2_addRefusal 44 = .ok (.istore 4, 2) by decide +kernel) (by decide) ?_
        show Go d MX2_addRefusal 46 [some (vR 2), some (vI a1), some (vR a2), some (vI a3), some (vI 0), none, none] [] S F G Q
        exact h
      · have h := hf hc
        refine go_bipush (show decode cX2_addRefusal 40 = .ok (.bipush (-7), 2) by decide +kernel) (by decide) ?_
        exact go_iret (show decode cX2_addRefusal 42 = .ok (.ireturn, 1) by decide +kernel) rfl h
    · have h := hf hc
      refine go_iconst (show decode cX2_addRefusal 21 = .ok (.iconst 0, 1) by decide +kernel) (by decide) ?_
      exact go_iret (show decode cX2_addRefusal 22 = .ok (.ireturn, 1) by decide +kernel) rfl h
  · have h := hf hc
    refine go_bipush (show decode cX2_addRefusal 14 = .ok (.bipush (-5), 2) by decide +kernel) (by decide) ?_
    exact go_iret (show decode cX2_addRefusal 16 = .ok (.ireturn, 1) by decide +kernel) rfl h
def V_X2_leastIn_75 (d : Nat) (S : AS) (F : AF) (G : AG) (Q : AQ) (a1 : Int) (a2 : Nat) (a3 : Int) (a5 : Int) (a6 : Int) (a7 : Int) (a8 : Int) : Prop :=
  ((a5 < a8) →
    (r32 (a7 + 1)) ∧
    Go d MX2_leastIn 52 [some (vR 2), some (vI a1), some (vR a2), some (vJ a3), none, some (vI a5), some (vI a6), some (vI (a7 + 1)), none] [] S F G Q) ∧
  ((¬ a5 < a8) →
    (r32 (48 * a7)) ∧
    (r32 ((48 * a7) + a8)) ∧
    (1 ≤ d) ∧
    ∃ z9 : Int, Pu (d - 1) MX2_unitsAt [vR 2, vI a1, vI ((48 * a7) + a8)] S F G (some (vJ z9)) ∧
    ∀ x11 : Int, x11 = min a3 z9 →
    (r32 (a8 + 1)) ∧
    Go d MX2_leastIn 75 [some (vR 2), some (vI a1), some (vR a2), some (vJ x11), none, some (vI a5), some (vI a6), some (vI a7), some (vI (a8 + 1))] [] S F G Q)
theorem R_X2_leastIn_75 {d : Nat} {S : AS} {F : AF} {G : AG} {Q : AQ} {a1 : Int} {a2 : Nat} {a3 : Int} {a5 : Int} {a6 : Int} {a7 : Int} {a8 : Int} (hsh : ShC S) (hk2 : AtRect S a2) (h : V_X2_leastIn_75 d S F G Q a1 a2 a3 a5 a6 a7 a8) : Go d MX2_leastIn 75 [some (vR 2), some (vI a1), some (vR a2), some (vJ a3), none, some (vI a5), some (vI a6), some (vI a7), some (vI a8)] [] S F G Q := by
  unfold V_X2_leastIn_75 at h
  refine go_iload (show decode cX2_leastIn 75 = .ok (.iload 8, 2) by decide +kernel) (by rfl) ?_
  refine go_iload (show decode cX2_leastIn 77 = .ok (.iload 5, 2) by decide +kernel) (by rfl) ?_
  obtain ⟨ht, hf⟩ := h
  refine go_icmpgt (tgt := 106) (show decode cX2_leastIn 79 = .ok (.if_icmp .gt 27, 3) by decide +kernel) (by decide) (fun hc => ?_) (fun hc => ?_)
  · have h := ht hc
    obtain ⟨q1, h⟩ := h
    refine go_iinc (show decode cX2_leastIn 106 = .ok (.iinc 7 1, 3) by decide +kernel) (by rfl) q1 (by decide) ?_
    show Go d MX2_leastIn 109 [some (vR 2), some (vI a1), some (vR a2), some (vJ a3), none, some (vI a5), some (vI a6), some (vI (a7 + 1)), some (vI a8)] [] S F G Q
    refine go_goto (tgt := 52) (show decode cX2_leastIn 109 = .ok (.goto (-57), 3) by decide +kernel) (by decide) ?_
    refine go_clr 8 ?_
    exact h
  · have h := hf hc
    refine go_lload_n (show decode cX2_leastIn 82 = .ok (.lload_n 3, 1) by decide +kernel) (by rfl) ?_
    refine go_aload_n (show decode cX2_leastIn 83 = .ok (.aload_n 0, 1) by decide +kernel) (by rfl) ?_
    refine go_iload_n (show decode cX2_leastIn 84 = .ok (.iload_n 1, 1) by decide +kernel) (by rfl) ?_
    refine go_bipush (show decode cX2_leastIn 85 = .ok (.bipush 48, 2) by decide +kernel) (by decide) ?_
    refine go_iload (show decode cX2_leastIn 87 = .ok (.iload 7, 2) by decide +kernel) (by rfl) ?_
    obtain ⟨q2, h⟩ := h
    refine go_imul (show decode cX2_leastIn 89 = .ok (.imul, 1) by decide +kernel) q2 ?_
    refine go_iload (show decode cX2_leastIn 90 = .ok (.iload 8, 2) by decide +kernel) (by rfl) ?_
    obtain ⟨q3, h⟩ := h
    refine go_iadd (show decode cX2_leastIn 92 = .ok (.iadd, 1) by decide +kernel) q3 ?_
    obtain ⟨q4, h⟩ := h
    obtain ⟨z9, p10, h⟩ := h
    refine go_callV (d2 := d - 1) (M2 := MX2_unitsAt) (n := 2) (ci := 2) (av := [vI a1, vI ((48 * a7) + a8)]) (st := [vJ a3]) (show decode cX2_leastIn 93 = .ok (.invokevirtual 111, 3) by decide +kernel) ml_X2_111 mt_X2_unitsAt min_X2_unitsAt mse_X2_unitsAt (by decide) (shc_k hsh 2 (by decide) (by decide)) rfl (Nat.le_of_ble_eq_true rfl) (by omega) (ok_mono p10 (fun w5 S6 F7 G8 e9 => ?_))
    obtain ⟨e1, e2, e3, e4⟩ := e9
    subst e1
    replace e2 := e2.symm; subst e2
    replace e3 := e3.symm; subst e3
    replace e4 := e4.symm; subst e4
    show Go d MX2_leastIn 96 [some (vR 2), some (vI a1), some (vR a2), some (vJ a3), none, some (vI a5), some (vI a6), some (vI a7), some (vI a8)] [vJ z9, vJ a3] S F G Q
    refine go_minJm (show decode cX2_leastIn 96 = .ok (.invokestatic 115, 3) by decide +kernel) ml_X2_115 mh_minJ_s mh_i mh_minJ_c (Nat.le_of_ble_eq_true rfl) q4 ?_
    obtain ⟨x11, x11e⟩ : ∃ x11 : Int, x11 = min a3 z9 := ⟨_, rfl⟩
    have h := h x11 x11e
    rw [← x11e]
    refine go_lstore_n (show decode cX2_leastIn 99 = .ok (.lstore_n 3, 1) by decide +kernel) (by decide) ?_
    show Go d MX2_leastIn 100 [some (vR 2), some (vI a1), some (vR a2), some (vJ x11), none, some (vI a5), some (vI a6), some (vI a7), some (vI a8)] [] S F G Q
    obtain ⟨q12, h⟩ := h
    refine go_iinc (show decode cX2_leastIn 100 = .ok (.iinc 8 1, 3) by decide +kernel) (by rfl) q12 (by decide) ?_
    show Go d MX2_leastIn 103 [some (vR 2), some (vI a1), some (vR a2), some (vJ x11), none, some (vI a5), some (vI a6), some (vI a7), some (vI (a8 + 1))] [] S F G Q
    refine go_goto (tgt := 75) (show decode cX2_leastIn 103 = .ok (.goto (-28), 3) by decide +kernel) (by decide) ?_
    exact h
def V_X2_leastIn_52 (d : Nat) (S : AS) (F : AF) (G : AG) (Q : AQ) (a1 : Int) (a2 : Nat) (a3 : Int) (a5 : Int) (a6 : Int) (a7 : Int) : Prop :=
  ((a6 < a7) →
    Q (some (vJ a3)) S F G) ∧
  ((¬ a6 < a7) →
    (1 ≤ d) ∧
    ∃ z6 : Int, Pu (d - 1) MX1_bandOf [vR 4, vI (F a2 0)] S F G (some (vI z6)) ∧
    Go d MX2_leastIn 75 [some (vR 2), some (vI a1), some (vR a2), some (vJ a3), none, some (vI a5), some (vI a6), some (vI a7), some (vI z6)] [] S F G Q)
theorem R_X2_leastIn_52 {d : Nat} {S : AS} {F : AF} {G : AG} {Q : AQ} {a1 : Int} {a2 : Nat} {a3 : Int} {a5 : Int} {a6 : Int} {a7 : Int} (hsh : ShC S) (hk2 : AtRect S a2) (h : V_X2_leastIn_52 d S F G Q a1 a2 a3 a5 a6 a7) : Go d MX2_leastIn 52 [some (vR 2), some (vI a1), some (vR a2), some (vJ a3), none, some (vI a5), some (vI a6), some (vI a7), none] [] S F G Q := by
  unfold V_X2_leastIn_52 at h
  refine go_iload (show decode cX2_leastIn 52 = .ok (.iload 7, 2) by decide +kernel) (by rfl) ?_
  refine go_iload (show decode cX2_leastIn 54 = .ok (.iload 6, 2) by decide +kernel) (by rfl) ?_
  obtain ⟨ht, hf⟩ := h
  refine go_icmpgt (tgt := 112) (show decode cX2_leastIn 56 = .ok (.if_icmp .gt 56, 3) by decide +kernel) (by decide) (fun hc => ?_) (fun hc => ?_)
  · have h := ht hc
    refine go_lload_n (show decode cX2_leastIn 112 = .ok (.lload_n 3, 1) by decide +kernel) (by rfl) ?_
    exact go_lret (show decode cX2_leastIn 113 = .ok (.lreturn, 1) by decide +kernel) rfl h
  · have h := hf hc
    refine go_aload_n (show decode cX2_leastIn 59 = .ok (.aload_n 0, 1) by decide +kernel) (by rfl) ?_
    refine go_getRc (show decode cX2_leastIn 60 = .ok (.getfield 12, 3) by decide +kernel) fl_X2_12 rfl (shc_k hsh 2 (by decide) (by decide)) (v := 3) (shc_r hsh 2 0 (by decide) (by decide) (by decide)) ?_
    refine go_getRc (show decode cX2_leastIn 63 = .ok (.getfield 90, 3) by decide +kernel) fl_X2_90 rfl (shc_k hsh 3 (by decide) (by decide)) (v := 4) (shc_r hsh 3 0 (by decide) (by decide) (by decide)) ?_
    refine go_aload_n (show decode cX2_leastIn 66 = .ok (.aload_n 2, 1) by decide +kernel) (by rfl) ?_
    refine go_getI (show decode cX2_leastIn 67 = .ok (.getfield 74, 3) by decide +kernel) fl_X2_74 (Or.inl rfl) hk2 ?_
    obtain ⟨q1, h⟩ := h
    obtain ⟨z6, p7, h⟩ := h
    refine go_callV (d2 := d - 1) (M2 := MX1_bandOf) (n := 1) (ci := 1) (av := [vI (F a2 0)]) (st := []) (show decode cX2_leastIn 70 = .ok (.invokevirtual 99, 3) by decide +kernel) ml_X2_99 mt_X1_bandOf min_X1_bandOf mse_X1_bandOf (by decide) (shc_k hsh 4 (by decide) (by decide)) rfl (Nat.le_of_ble_eq_true rfl) (by omega) (ok_mono p7 (fun w2 S3 F4 G5 e9 => ?_))
    obtain ⟨e1, e2, e3, e4⟩ := e9
    subst e1
    replace e2 := e2.symm; subst e2
    replace e3 := e3.symm; subst e3
    replace e4 := e4.symm; subst e4
    show Go d MX2_leastIn 73 [some (vR 2), some (vI a1), some (vR a2), some (vJ a3), none, some (vI a5), some (vI a6), some (vI a7), none] [vI z6] S F G Q
    refine go_istore (show decode cX2_leastIn 73 = .ok (.istore 8, 2) by decide +kernel) (by decide) ?_
    show Go d MX2_leastIn 75 [some (vR 2), some (vI a1), some (vR a2), some (vJ a3), none, some (vI a5), some (vI a6), some (vI a7), some (vI z6)] [] S F G Q
    exact h
def V_X2_leastIn_0 (d : Nat) (S : AS) (F : AF) (G : AG) (Q : AQ) (a1 : Int) (a2 : Nat) : Prop :=
  (1 ≤ d) ∧
  ∃ z6 : Int, Pu (d - 1) MX1_bandOf [vR 4, vI (F a2 2)] S F G (some (vI z6)) ∧
  ∃ z12 : Int, Pu (d - 1) MX1_bandOf [vR 11, vI (F a2 3)] S F G (some (vI z12)) ∧
  ∃ z18 : Int, Pu (d - 1) MX1_bandOf [vR 11, vI (F a2 1)] S F G (some (vI z18)) ∧
  Go d MX2_leastIn 52 [some (vR 2), some (vI a1), some (vR a2), some (vJ 9000000000000000001), none, some (vI z6), some (vI z12), some (vI z18), none] [] S F G Q
theorem R_X2_leastIn_0 {d : Nat} {S : AS} {F : AF} {G : AG} {Q : AQ} {a1 : Int} {a2 : Nat} (hsh : ShC S) (hk2 : AtRect S a2) (h : V_X2_leastIn_0 d S F G Q a1 a2) : Go d MX2_leastIn 0 [some (vR 2), some (vI a1), some (vR a2), none, none, none, none, none, none] [] S F G Q := by
  unfold V_X2_leastIn_0 at h
  refine go_ldc2 (show decode cX2_leastIn 0 = .ok (.ldc2_w 109, 3) by decide +kernel) lc_X2_109 (by decide) ?_
  refine go_lstore_n (show decode cX2_leastIn 3 = .ok (.lstore_n 3, 1) by decide +kernel) (by decide) ?_
  show Go d MX2_leastIn 4 [some (vR 2), some (vI a1), some (vR a2), some (vJ 9000000000000000001), none, none, none, none, none] [] S F G Q
  refine go_aload_n (show decode cX2_leastIn 4 = .ok (.aload_n 0, 1) by decide +kernel) (by rfl) ?_
  refine go_getRc (show decode cX2_leastIn 5 = .ok (.getfield 12, 3) by decide +kernel) fl_X2_12 rfl (shc_k hsh 2 (by decide) (by decide)) (v := 3) (shc_r hsh 2 0 (by decide) (by decide) (by decide)) ?_
  refine go_getRc (show decode cX2_leastIn 8 = .ok (.getfield 90, 3) by decide +kernel) fl_X2_90 rfl (shc_k hsh 3 (by decide) (by decide)) (v := 4) (shc_r hsh 3 0 (by decide) (by decide) (by decide)) ?_
  refine go_aload_n (show decode cX2_leastIn 11 = .ok (.aload_n 2, 1) by decide +kernel) (by rfl) ?_
  refine go_getI (show decode cX2_leastIn 12 = .ok (.getfield 77, 3) by decide +kernel) fl_X2_77 (Or.inl rfl) hk2 ?_
  obtain ⟨q1, h⟩ := h
  obtain ⟨z6, p7, h⟩ := h
  refine go_callV (d2 := d - 1) (M2 := MX1_bandOf) (n := 1) (ci := 1) (av := [vI (F a2 2)]) (st := []) (show decode cX2_leastIn 15 = .ok (.invokevirtual 99, 3) by decide +kernel) ml_X2_99 mt_X1_bandOf min_X1_bandOf mse_X1_bandOf (by decide) (shc_k hsh 4 (by decide) (by decide)) rfl (Nat.le_of_ble_eq_true rfl) (by omega) (ok_mono p7 (fun w2 S3 F4 G5 e9 => ?_))
  obtain ⟨e1, e2, e3, e4⟩ := e9
  subst e1
  replace e2 := e2.symm; subst e2
  replace e3 := e3.symm; subst e3
  replace e4 := e4.symm; subst e4
  show Go d MX2_leastIn 18 [some (vR 2), some (vI a1), some (vR a2), some (vJ 9000000000000000001), none, none, none, none, none] [vI z6] S F G Q
  refine go_istore (show decode cX2_leastIn 18 = .ok (.istore 5, 2) by decide +kernel) (by decide) ?_
  show Go d MX2_leastIn 20 [some (vR 2), some (vI a1), some (vR a2), some (vJ 9000000000000000001), none, some (vI z6), none, none, none] [] S F G Q
  refine go_aload_n (show decode cX2_leastIn 20 = .ok (.aload_n 0, 1) by decide +kernel) (by rfl) ?_
  refine go_getRc (show decode cX2_leastIn 21 = .ok (.getfield 18, 3) by decide +kernel) fl_X2_18 rfl (shc_k hsh 2 (by decide) (by decide)) (v := 10) (shc_r hsh 2 1 (by decide) (by decide) (by decide)) ?_
  refine go_getRc (show decode cX2_leastIn 24 = .ok (.getfield 90, 3) by decide +kernel) fl_X2_90 rfl (shc_k hsh 10 (by decide) (by decide)) (v := 11) (shc_r hsh 10 0 (by decide) (by decide) (by decide)) ?_
  refine go_aload_n (show decode cX2_leastIn 27 = .ok (.aload_n 2, 1) by decide +kernel) (by rfl) ?_
  refine go_getI (show decode cX2_leastIn 28 = .ok (.getfield 83, 3) by decide +kernel) fl_X2_83 (Or.inl rfl) hk2 ?_
  obtain ⟨z12, p13, h⟩ := h
  refine go_callV (d2 := d - 1) (M2 := MX1_bandOf) (n := 1) (ci := 1) (av := [vI (F a2 3)]) (st := []) (show decode cX2_leastIn 31 = .ok (.invokevirtual 99, 3) by decide +kernel) ml_X2_99 mt_X1_bandOf min_X1_bandOf mse_X1_bandOf (by decide) (shc_k hsh 11 (by decide) (by decide)) rfl (Nat.le_of_ble_eq_true rfl) (by omega) (ok_mono p13 (fun w8 S9 F10 G11 e9 => ?_))
  obtain ⟨e1, e2, e3, e4⟩ := e9
  subst e1
  replace e2 := e2.symm; subst e2
  replace e3 := e3.symm; subst e3
  replace e4 := e4.symm; subst e4
  show Go d MX2_leastIn 34 [some (vR 2), some (vI a1), some (vR a2), some (vJ 9000000000000000001), none, some (vI z6), none, none, none] [vI z12] S F G Q
  refine go_istore (show decode cX2_leastIn 34 = .ok (.istore 6, 2) by decide +kernel) (by decide) ?_
  show Go d MX2_leastIn 36 [some (vR 2), some (vI a1), some (vR a2), some (vJ 9000000000000000001), none, some (vI z6), some (vI z12), none, none] [] S F G Q
  refine go_aload_n (show decode cX2_leastIn 36 = .ok (.aload_n 0, 1) by decide +kernel) (by rfl) ?_
  refine go_getRc (show decode cX2_leastIn 37 = .ok (.getfield 18, 3) by decide +kernel) fl_X2_18 rfl (shc_k hsh 2 (by decide) (by decide)) (v := 10) (shc_r hsh 2 1 (by decide) (by decide) (by decide)) ?_
  refine go_getRc (show decode cX2_leastIn 40 = .ok (.getfield 90, 3) by decide +kernel) fl_X2_90 rfl (shc_k hsh 10 (by decide) (by decide)) (v := 11) (shc_r hsh 10 0 (by decide) (by decide) (by decide)) ?_
  refine go_aload_n (show decode cX2_leastIn 43 = .ok (.aload_n 2, 1) by decide +kernel) (by rfl) ?_
  refine go_getI (show decode cX2_leastIn 44 = .ok (.getfield 80, 3) by decide +kernel) fl_X2_80 (Or.inl rfl) hk2 ?_
  obtain ⟨z18, p19, h⟩ := h
  refine go_callV (d2 := d - 1) (M2 := MX1_bandOf) (n := 1) (ci := 1) (av := [vI (F a2 1)]) (st := []) (show decode cX2_leastIn 47 = .ok (.invokevirtual 99, 3) by decide +kernel) ml_X2_99 mt_X1_bandOf min_X1_bandOf mse_X1_bandOf (by decide) (shc_k hsh 11 (by decide) (by decide)) rfl (Nat.le_of_ble_eq_true rfl) (by omega) (ok_mono p19 (fun w14 S15 F16 G17 e9 => ?_))
  obtain ⟨e1, e2, e3, e4⟩ := e9
  subst e1
  replace e2 := e2.symm; subst e2
  replace e3 := e3.symm; subst e3
  replace e4 := e4.symm; subst e4
  show Go d MX2_leastIn 50 [some (vR 2), some (vI a1), some (vR a2), some (vJ 9000000000000000001), none, some (vI z6), some (vI z12), none, none] [vI z18] S F G Q
  refine go_istore (show decode cX2_leastIn 50 = .ok (.istore 7, 2) by decide +kernel) (by decide) ?_
  show Go d MX2_leastIn 52 [some (vR 2), some (vI a1), some (vR a2), some (vJ 9000000000000000001), none, some (vI z6), some (vI z12), some (vI z18), none] [] S F G Q
  exact h
def V_X2_unitsAt_0 (d : Nat) (S : AS) (F : AF) (G : AG) (Q : AQ) (a1 : Int) (a2 : Int) : Prop :=
  ((¬ a1 = -1) →
    (r32 (a1 * 2304)) ∧
    (r32 ((a1 * 2304) + a2)) ∧
    ((0 : Int) ≤ (a1 * 2304) + a2) ∧
    (((a1 * 2304) + a2 : Int) < 6912) ∧
    Q (some (vJ (G 18 ((a1 * 2304) + a2)))) S F G) ∧
  ((a1 = -1) →
    ((0 : Int) ≤ a2) ∧
    ((a2 : Int) < 6912) ∧
    (r32 (2304 + a2)) ∧
    ((0 : Int) ≤ 2304 + a2) ∧
    ((2304 + a2 : Int) < 6912) ∧
    (r64 ((G 18 a2) + (G 18 (2304 + a2)))) ∧
    (r32 (4608 + a2)) ∧
    ((0 : Int) ≤ 4608 + a2) ∧
    ((4608 + a2 : Int) < 6912) ∧
    (r64 (((G 18 a2) + (G 18 (2304 + a2))) + (G 18 (4608 + a2)))) ∧
    Q (some (vJ (((G 18 a2) + (G 18 (2304 + a2))) + (G 18 (4608 + a2))))) S F G)
theorem R_X2_unitsAt_0 {d : Nat} {S : AS} {F : AF} {G : AG} {Q : AQ} {a1 : Int} {a2 : Int} (hsh : ShC S) (h : V_X2_unitsAt_0 d S F G Q a1 a2) : Go d MX2_unitsAt 0 [some (vR 2), some (vI a1), some (vI a2)] [] S F G Q := by
  unfold V_X2_unitsAt_0 at h
  refine go_iload_n (show decode cX2_unitsAt 0 = .ok (.iload_n 1, 1) by decide +kernel) (by rfl) ?_
  refine go_iconst (show decode cX2_unitsAt 1 = .ok (.iconst (-1), 1) by decide +kernel) (by decide) ?_
  obtain ⟨ht, hf⟩ := h
  refine go_icmpne (tgt := 34) (show decode cX2_unitsAt 2 = .ok (.if_icmp .ne 32, 3) by decide +kernel) (by decide) (fun hc => ?_) (fun hc => ?_)
  · have h := ht hc
    refine go_aload_n (show decode cX2_unitsAt 34 = .ok (.aload_n 0, 1) by decide +kernel) (by rfl) ?_
    refine go_getRc (show decode cX2_unitsAt 35 = .ok (.getfield 28, 3) by decide +kernel) fl_X2_28 rfl (shc_k hsh 2 (by decide) (by decide)) (v := 18) (shc_r hsh 2 3 (by decide) (by decide) (by decide)) ?_
    refine go_iload_n (show decode cX2_unitsAt 38 = .ok (.iload_n 1, 1) by decide +kernel) (by rfl) ?_
    refine go_sipush (show decode cX2_unitsAt 39 = .ok (.sipush 2304, 3) by decide +kernel) (by decide) ?_
    obtain ⟨q1, h⟩ := h
    refine go_imul (show decode cX2_unitsAt 42 = .ok (.imul, 1) by decide +kernel) q1 ?_
    refine go_iload_n (show decode cX2_unitsAt 43 = .ok (.iload_n 2, 1) by decide +kernel) (by rfl) ?_
    obtain ⟨q2, h⟩ := h
    refine go_iadd (show decode cX2_unitsAt 44 = .ok (.iadd, 1) by decide +kernel) q2 ?_
    obtain ⟨q3, h⟩ := h
    obtain ⟨q4, h⟩ := h
    refine go_laload (show decode cX2_unitsAt 45 = .ok (.laload, 1) by decide +kernel) (shc_k hsh 18 (by decide) (by decide)) q3 (lt_n (m := 6912) q4 (shc_n hsh 18 (by decide) (by decide))) ?_
    exact go_lret (show decode cX2_unitsAt 46 = .ok (.lreturn, 1) by decide +kernel) rfl h
  · have h := hf hc
    refine go_aload_n (show decode cX2_unitsAt 5 = .ok (.aload_n 0, 1) by decide +kernel) (by rfl) ?_
    refine go_getRc (show decode cX2_unitsAt 6 = .ok (.getfield 28, 3) by decide +kernel) fl_X2_28 rfl (shc_k hsh 2 (by decide) (by decide)) (v := 18) (shc_r hsh 2 3 (by decide) (by decide) (by decide)) ?_
    refine go_iload_n (show decode cX2_unitsAt 9 = .ok (.iload_n 2, 1) by decide +kernel) (by rfl) ?_
    obtain ⟨q5, h⟩ := h
    obtain ⟨q6, h⟩ := h
    refine go_laload (show decode cX2_unitsAt 10 = .ok (.laload, 1) by decide +kernel) (shc_k hsh 18 (by decide) (by decide)) q5 (lt_n (m := 6912) q6 (shc_n hsh 18 (by decide) (by decide))) ?_
    refine go_aload_n (show decode cX2_unitsAt 11 = .ok (.aload_n 0, 1) by decide +kernel) (by rfl) ?_
    refine go_getRc (show decode cX2_unitsAt 12 = .ok (.getfield 28, 3) by decide +kernel) fl_X2_28 rfl (shc_k hsh 2 (by decide) (by decide)) (v := 18) (shc_r hsh 2 3 (by decide) (by decide) (by decide)) ?_
    refine go_sipush (show decode cX2_unitsAt 15 = .ok (.sipush 2304, 3) by decide +kernel) (by decide) ?_
    refine go_iload_n (show decode cX2_unitsAt 18 = .ok (.iload_n 2, 1) by decide +kernel) (by rfl) ?_
    obtain ⟨q7, h⟩ := h
    refine go_iadd (show decode cX2_unitsAt 19 = .ok (.iadd, 1) by decide +kernel) q7 ?_
    obtain ⟨q8, h⟩ := h
    obtain ⟨q9, h⟩ := h
    refine go_laload (show decode cX2_unitsAt 20 = .ok (.laload, 1) by decide +kernel) (shc_k hsh 18 (by decide) (by decide)) q8 (lt_n (m := 6912) q9 (shc_n hsh 18 (by decide) (by decide))) ?_
    obtain ⟨q10, h⟩ := h
    refine go_ladd (show decode cX2_unitsAt 21 = .ok (.ladd, 1) by decide +kernel) q10 ?_
    refine go_aload_n (show decode cX2_unitsAt 22 = .ok (.aload_n 0, 1) by decide +kernel) (by rfl) ?_
    refine go_getRc (show decode cX2_unitsAt 23 = .ok (.getfield 28, 3) by decide +kernel) fl_X2_28 rfl (shc_k hsh 2 (by decide) (by decide)) (v := 18) (shc_r hsh 2 3 (by decide) (by decide) (by decide)) ?_
    refine go_sipush (show decode cX2_unitsAt 26 = .ok (.sipush 4608, 3) by decide +kernel) (by decide) ?_
    refine go_iload_n (show decode cX2_unitsAt 29 = .ok (.iload_n 2, 1) by decide +kernel) (by rfl) ?_
    obtain ⟨q11, h⟩ := h
    refine go_iadd (show decode cX2_unitsAt 30 = .ok (.iadd, 1) by decide +kernel) q11 ?_
    obtain ⟨q12, h⟩ := h
    obtain ⟨q13, h⟩ := h
    refine go_laload (show decode cX2_unitsAt 31 = .ok (.laload, 1) by decide +kernel) (shc_k hsh 18 (by decide) (by decide)) q12 (lt_n (m := 6912) q13 (shc_n hsh 18 (by decide) (by decide))) ?_
    obtain ⟨q14, h⟩ := h
    refine go_ladd (show decode cX2_unitsAt 32 = .ok (.ladd, 1) by decide +kernel) q14 ?_
    exact go_lret (show decode cX2_unitsAt 33 = .ok (.lreturn, 1) by decide +kernel) rfl h
def V_X2_mostIn_73 (d : Nat) (S : AS) (F : AF) (G : AG) (Q : AQ) (a1 : Int) (a2 : Nat) (a3 : Int) (a5 : Int) (a6 : Int) (a7 : Int) (a8 : Int) : Prop :=
  ((a5 < a8) →
    (r32 (a7 + 1)) ∧
    Go d MX2_mostIn 50 [some (vR 2), some (vI a1), some (vR a2), some (vJ a3), none, some (vI a5), some (vI a6), some (vI (a7 + 1)), none] [] S F G Q) ∧
  ((¬ a5 < a8) →
    (r32 (48 * a7)) ∧
    (r32 ((48 * a7) + a8)) ∧
    (1 ≤ d) ∧
    ∃ z9 : Int, Pu (d - 1) MX2_unitsAt [vR 2, vI a1, vI ((48 * a7) + a8)] S F G (some (vJ z9)) ∧
    ∀ x11 : Int, x11 = max a3 z9 →
    (r32 (a8 + 1)) ∧
    Go d MX2_mostIn 73 [some (vR 2), some (vI a1), some (vR a2), some (vJ x11), none, some (vI a5), some (vI a6), some (vI a7), some (vI (a8 + 1))] [] S F G Q)
theorem R_X2_mostIn_73 {d : Nat} {S : AS} {F : AF} {G : AG} {Q : AQ} {a1 : Int} {a2 : Nat} {a3 : Int} {a5 : Int} {a6 : Int} {a7 : Int} {a8 : Int} (hsh : ShC S) (hk2 : AtRect S a2) (h : V_X2_mostIn_73 d S F G Q a1 a2 a3 a5 a6 a7 a8) : Go d MX2_mostIn 73 [some (vR 2), some (vI a1), some (vR a2), some (vJ a3), none, some (vI a5), some (vI a6), some (vI a7), some (vI a8)] [] S F G Q := by
  unfold V_X2_mostIn_73 at h
  refine go_iload (show decode cX2_mostIn 73 = .ok (.iload 8, 2) by decide +kernel) (by rfl) ?_
  refine go_iload (show decode cX2_mostIn 75 = .ok (.iload 5, 2) by decide +kernel) (by rfl) ?_
  obtain ⟨ht, hf⟩ := h
  refine go_icmpgt (tgt := 104) (show decode cX2_mostIn 77 = .ok (.if_icmp .gt 27, 3) by decide +kernel) (by decide) (fun hc => ?_) (fun hc => ?_)
  · have h := ht hc
    obtain ⟨q1, h⟩ := h
    refine go_iinc (show decode cX2_mostIn 104 = .ok (.iinc 7 1, 3) by decide +kernel) (by rfl) q1 (by decide) ?_
    show Go d MX2_mostIn 107 [some (vR 2), some (vI a1), some (vR a2), some (vJ a3), none, some (vI a5), some (vI a6), some (vI (a7 + 1)), some (vI a8)] [] S F G Q
    refine go_goto (tgt := 50) (show decode cX2_mostIn 107 = .ok (.goto (-57), 3) by decide +kernel) (by decide) ?_
    refine go_clr 8 ?_
    exact h
  · have h := hf hc
    refine go_lload_n (show decode cX2_mostIn 80 = .ok (.lload_n 3, 1) by decide +kernel) (by rfl) ?_
    refine go_aload_n (show decode cX2_mostIn 81 = .ok (.aload_n 0, 1) by decide +kernel) (by rfl) ?_
    refine go_iload_n (show decode cX2_mostIn 82 = .ok (.iload_n 1, 1) by decide +kernel) (by rfl) ?_
    refine go_bipush (show decode cX2_mostIn 83 = .ok (.bipush 48, 2) by decide +kernel) (by decide) ?_
    refine go_iload (show decode cX2_mostIn 85 = .ok (.iload 7, 2) by decide +kernel) (by rfl) ?_
    obtain ⟨q2, h⟩ := h
    refine go_imul (show decode cX2_mostIn 87 = .ok (.imul, 1) by decide +kernel) q2 ?_
    refine go_iload (show decode cX2_mostIn 88 = .ok (.iload 8, 2) by decide +kernel) (by rfl) ?_
    obtain ⟨q3, h⟩ := h
    refine go_iadd (show decode cX2_mostIn 90 = .ok (.iadd, 1) by decide +kernel) q3 ?_
    obtain ⟨q4, h⟩ := h
    obtain ⟨z9, p10, h⟩ := h
    refine go_callV (d2 := d - 1) (M2 := MX2_unitsAt) (n := 2) (ci := 2) (av := [vI a1, vI ((48 * a7) + a8)]) (st := [vJ a3]) (show decode cX2_mostIn 91 = .ok (.invokevirtual 111, 3) by decide +kernel) ml_X2_111 mt_X2_unitsAt min_X2_unitsAt mse_X2_unitsAt (by decide) (shc_k hsh 2 (by decide) (by decide)) rfl (Nat.le_of_ble_eq_true rfl) (by omega) (ok_mono p10 (fun w5 S6 F7 G8 e9 => ?_))
    obtain ⟨e1, e2, e3, e4⟩ := e9
    subst e1
    replace e2 := e2.symm; subst e2
    replace e3 := e3.symm; subst e3
    replace e4 := e4.symm; subst e4
    show Go d MX2_mostIn 94 [some (vR 2), some (vI a1), some (vR a2), some (vJ a3), none, some (vI a5), some (vI a6), some (vI a7), some (vI a8)] [vJ z9, vJ a3] S F G Q
    refine go_maxJm (show decode cX2_mostIn 94 = .ok (.invokestatic 121, 3) by decide +kernel) ml_X2_121 mh_maxJ_s mh_i mh_maxJ_c (Nat.le_of_ble_eq_true rfl) q4 ?_
    obtain ⟨x11, x11e⟩ : ∃ x11 : Int, x11 = max a3 z9 := ⟨_, rfl⟩
    have h := h x11 x11e
    rw [← x11e]
    refine go_lstore_n (show decode cX2_mostIn 97 = .ok (.lstore_n 3, 1) by decide +kernel) (by decide) ?_
    show Go d MX2_mostIn 98 [some (vR 2), some (vI a1), some (vR a2), some (vJ x11), none, some (vI a5), some (vI a6), some (vI a7), some (vI a8)] [] S F G Q
    obtain ⟨q12, h⟩ := h
    refine go_iinc (show decode cX2_mostIn 98 = .ok (.iinc 8 1, 3) by decide +kernel) (by rfl) q12 (by decide) ?_
    show Go d MX2_mostIn 101 [some (vR 2), some (vI a1), some (vR a2), some (vJ x11), none, some (vI a5), some (vI a6), some (vI a7), some (vI (a8 + 1))] [] S F G Q
    refine go_goto (tgt := 73) (show decode cX2_mostIn 101 = .ok (.goto (-28), 3) by decide +kernel) (by decide) ?_
    exact h
def V_X2_mostIn_50 (d : Nat) (S : AS) (F : AF) (G : AG) (Q : AQ) (a1 : Int) (a2 : Nat) (a3 : Int) (a5 : Int) (a6 : Int) (a7 : Int) : Prop :=
  ((a6 < a7) →
    Q (some (vJ a3)) S F G) ∧
  ((¬ a6 < a7) →
    (1 ≤ d) ∧
    ∃ z6 : Int, Pu (d - 1) MX1_bandOf [vR 4, vI (F a2 0)] S F G (some (vI z6)) ∧
    Go d MX2_mostIn 73 [some (vR 2), some (vI a1), some (vR a2), some (vJ a3), none, some (vI a5), some (vI a6), some (vI a7), some (vI z6)] [] S F G Q)
theorem R_X2_mostIn_50 {d : Nat} {S : AS} {F : AF} {G : AG} {Q : AQ} {a1 : Int} {a2 : Nat} {a3 : Int} {a5 : Int} {a6 : Int} {a7 : Int} (hsh : ShC S) (hk2 : AtRect S a2) (h : V_X2_mostIn_50 d S F G Q a1 a2 a3 a5 a6 a7) : Go d MX2_mostIn 50 [some (vR 2), some (vI a1), some (vR a2), some (vJ a3), none, some (vI a5), some (vI a6), some (vI a7), none] [] S F G Q := by
  unfold V_X2_mostIn_50 at h
  refine go_iload (show decode cX2_mostIn 50 = .ok (.iload 7, 2) by decide +kernel) (by rfl) ?_
  refine go_iload (show decode cX2_mostIn 52 = .ok (.iload 6, 2) by decide +kernel) (by rfl) ?_
  obtain ⟨ht, hf⟩ := h
  refine go_icmpgt (tgt := 110) (show decode cX2_mostIn 54 = .ok (.if_icmp .gt 56, 3) by decide +kernel) (by decide) (fun hc => ?_) (fun hc => ?_)
  · have h := ht hc
    refine go_lload_n (show decode cX2_mostIn 110 = .ok (.lload_n 3, 1) by decide +kernel) (by rfl) ?_
    exact go_lret (show decode cX2_mostIn 111 = .ok (.lreturn, 1) by decide +kernel) rfl h
  · have h := hf hc
    refine go_aload_n (show decode cX2_mostIn 57 = .ok (.aload_n 0, 1) by decide +kernel) (by rfl) ?_
    refine go_getRc (show decode cX2_mostIn 58 = .ok (.getfield 12, 3) by decide +kernel) fl_X2_12 rfl (shc_k hsh 2 (by decide) (by decide)) (v := 3) (shc_r hsh 2 0 (by decide) (by decide) (by decide)) ?_
    refine go_getRc (show decode cX2_mostIn 61 = .ok (.getfield 90, 3) by decide +kernel) fl_X2_90 rfl (shc_k hsh 3 (by decide) (by decide)) (v := 4) (shc_r hsh 3 0 (by decide) (by decide) (by decide)) ?_
    refine go_aload_n (show decode cX2_mostIn 64 = .ok (.aload_n 2, 1) by decide +kernel) (by rfl) ?_
    refine go_getI (show decode cX2_mostIn 65 = .ok (.getfield 74, 3) by decide +kernel) fl_X2_74 (Or.inl rfl) hk2 ?_
    obtain ⟨q1, h⟩ := h
    obtain ⟨z6, p7, h⟩ := h
    refine go_callV (d2 := d - 1) (M2 := MX1_bandOf) (n := 1) (ci := 1) (av := [vI (F a2 0)]) (st := []) (show decode cX2_mostIn 68 = .ok (.invokevirtual 99, 3) by decide +kernel) ml_X2_99 mt_X1_bandOf min_X1_bandOf mse_X1_bandOf (by decide) (shc_k hsh 4 (by decide) (by decide)) rfl (Nat.le_of_ble_eq_true rfl) (by omega) (ok_mono p7 (fun w2 S3 F4 G5 e9 => ?_))
    obtain ⟨e1, e2, e3, e4⟩ := e9
    subst e1
    replace e2 := e2.symm; subst e2
    replace e3 := e3.symm; subst e3
    replace e4 := e4.symm; subst e4
    show Go d MX2_mostIn 71 [some (vR 2), some (vI a1), some (vR a2), some (vJ a3), none, some (vI a5), some (vI a6), some (vI a7), none] [vI z6] S F G Q
    refine go_istore (show decode cX2_mostIn 71 = .ok (.istore 8, 2) by decide +kernel) (by decide) ?_
    show Go d MX2_mostIn 73 [some (vR 2), some (vI a1), some (vR a2), some (vJ a3), none, some (vI a5), some (vI a6), some (vI a7), some (vI z6)] [] S F G Q
    exact h
def V_X2_mostIn_0 (d : Nat) (S : AS) (F : AF) (G : AG) (Q : AQ) (a1 : Int) (a2 : Nat) : Prop :=
  (1 ≤ d) ∧
  ∃ z6 : Int, Pu (d - 1) MX1_bandOf [vR 4, vI (F a2 2)] S F G (some (vI z6)) ∧
  ∃ z12 : Int, Pu (d - 1) MX1_bandOf [vR 11, vI (F a2 3)] S F G (some (vI z12)) ∧
  ∃ z18 : Int, Pu (d - 1) MX1_bandOf [vR 11, vI (F a2 1)] S F G (some (vI z18)) ∧
  Go d MX2_mostIn 50 [some (vR 2), some (vI a1), some (vR a2), some (vJ 0), none, some (vI z6), some (vI z12), some (vI z18), none] [] S F G Q
theorem R_X2_mostIn_0 {d : Nat} {S : AS} {F : AF} {G : AG} {Q : AQ} {a1 : Int} {a2 : Nat} (hsh : ShC S) (hk2 : AtRect S a2) (h : V_X2_mostIn_0 d S F G Q a1 a2) : Go d MX2_mostIn 0 [some (vR 2), some (vI a1), some (vR a2), none, none, none, none, none, none] [] S F G Q := by
  unfold V_X2_mostIn_0 at h
  refine go_lconst (n := 0) (show decode cX2_mostIn 0 = .ok (.lconst 0, 1) by decide +kernel) ?_
  show Go d MX2_mostIn 1 [some (vR 2), some (vI a1), some (vR a2), none, none, none, none, none, none] [vJ 0] S F G Q
  refine go_lstore_n (show decode cX2_mostIn 1 = .ok (.lstore_n 3, 1) by decide +kernel) (by decide) ?_
  show Go d MX2_mostIn 2 [some (vR 2), some (vI a1), some (vR a2), some (vJ 0), none, none, none, none, none] [] S F G Q
  refine go_aload_n (show decode cX2_mostIn 2 = .ok (.aload_n 0, 1) by decide +kernel) (by rfl) ?_
  refine go_getRc (show decode cX2_mostIn 3 = .ok (.getfield 12, 3) by decide +kernel) fl_X2_12 rfl (shc_k hsh 2 (by decide) (by decide)) (v := 3) (shc_r hsh 2 0 (by decide) (by decide) (by decide)) ?_
  refine go_getRc (show decode cX2_mostIn 6 = .ok (.getfield 90, 3) by decide +kernel) fl_X2_90 rfl (shc_k hsh 3 (by decide) (by decide)) (v := 4) (shc_r hsh 3 0 (by decide) (by decide) (by decide)) ?_
  refine go_aload_n (show decode cX2_mostIn 9 = .ok (.aload_n 2, 1) by decide +kernel) (by rfl) ?_
  refine go_getI (show decode cX2_mostIn 10 = .ok (.getfield 77, 3) by decide +kernel) fl_X2_77 (Or.inl rfl) hk2 ?_
  obtain ⟨q1, h⟩ := h
  obtain ⟨z6, p7, h⟩ := h
  refine go_callV (d2 := d - 1) (M2 := MX1_bandOf) (n := 1) (ci := 1) (av := [vI (F a2 2)]) (st := []) (show decode cX2_mostIn 13 = .ok (.invokevirtual 99, 3) by decide +kernel) ml_X2_99 mt_X1_bandOf min_X1_bandOf mse_X1_bandOf (by decide) (shc_k hsh 4 (by decide) (by decide)) rfl (Nat.le_of_ble_eq_true rfl) (by omega) (ok_mono p7 (fun w2 S3 F4 G5 e9 => ?_))
  obtain ⟨e1, e2, e3, e4⟩ := e9
  subst e1
  replace e2 := e2.symm; subst e2
  replace e3 := e3.symm; subst e3
  replace e4 := e4.symm; subst e4
  show Go d MX2_mostIn 16 [some (vR 2), some (vI a1), some (vR a2), some (vJ 0), none, none, none, none, none] [vI z6] S F G Q
  refine go_istore (show decode cX2_mostIn 16 = .ok (.istore 5, 2) by decide +kernel) (by decide) ?_
  show Go d MX2_mostIn 18 [some (vR 2), some (vI a1), some (vR a2), some (vJ 0), none, some (vI z6), none, none, none] [] S F G Q
  refine go_aload_n (show decode cX2_mostIn 18 = .ok (.aload_n 0, 1) by decide +kernel) (by rfl) ?_
  refine go_getRc (show decode cX2_mostIn 19 = .ok (.getfield 18, 3) by decide +kernel) fl_X2_18 rfl (shc_k hsh 2 (by decide) (by decide)) (v := 10) (shc_r hsh 2 1 (by decide) (by decide) (by decide)) ?_
  refine go_getRc (show decode cX2_mostIn 22 = .ok (.getfield 90, 3) by decide +kernel) fl_X2_90 rfl (shc_k hsh 10 (by decide) (by decide)) (v := 11) (shc_r hsh 10 0 (by decide) (by decide) (by decide)) ?_
  refine go_aload_n (show decode cX2_mostIn 25 = .ok (.aload_n 2, 1) by decide +kernel) (by rfl) ?_
  refine go_getI (show decode cX2_mostIn 26 = .ok (.getfield 83, 3) by decide +kernel) fl_X2_83 (Or.inl rfl) hk2 ?_
  obtain ⟨z12, p13, h⟩ := h
  refine go_callV (d2 := d - 1) (M2 := MX1_bandOf) (n := 1) (ci := 1) (av := [vI (F a2 3)]) (st := []) (show decode cX2_mostIn 29 = .ok (.invokevirtual 99, 3) by decide +kernel) ml_X2_99 mt_X1_bandOf min_X1_bandOf mse_X1_bandOf (by decide) (shc_k hsh 11 (by decide) (by decide)) rfl (Nat.le_of_ble_eq_true rfl) (by omega) (ok_mono p13 (fun w8 S9 F10 G11 e9 => ?_))
  obtain ⟨e1, e2, e3, e4⟩ := e9
  subst e1
  replace e2 := e2.symm; subst e2
  replace e3 := e3.symm; subst e3
  replace e4 := e4.symm; subst e4
  show Go d MX2_mostIn 32 [some (vR 2), some (vI a1), some (vR a2), some (vJ 0), none, some (vI z6), none, none, none] [vI z12] S F G Q
  refine go_istore (show decode cX2_mostIn 32 = .ok (.istore 6, 2) by decide +kernel) (by decide) ?_
  show Go d MX2_mostIn 34 [some (vR 2), some (vI a1), some (vR a2), some (vJ 0), none, some (vI z6), some (vI z12), none, none] [] S F G Q
  refine go_aload_n (show decode cX2_mostIn 34 = .ok (.aload_n 0, 1) by decide +kernel) (by rfl) ?_
  refine go_getRc (show decode cX2_mostIn 35 = .ok (.getfield 18, 3) by decide +kernel) fl_X2_18 rfl (shc_k hsh 2 (by decide) (by decide)) (v := 10) (shc_r hsh 2 1 (by decide) (by decide) (by decide)) ?_
  refine go_getRc (show decode cX2_mostIn 38 = .ok (.getfield 90, 3) by decide +kernel) fl_X2_90 rfl (shc_k hsh 10 (by decide) (by decide)) (v := 11) (shc_r hsh 10 0 (by decide) (by decide) (by decide)) ?_
  refine go_aload_n (show decode cX2_mostIn 41 = .ok (.aload_n 2, 1) by decide +kernel) (by rfl) ?_
  refine go_getI (show decode cX2_mostIn 42 = .ok (.getfield 80, 3) by decide +kernel) fl_X2_80 (Or.inl rfl) hk2 ?_
  obtain ⟨z18, p19, h⟩ := h
  refine go_callV (d2 := d - 1) (M2 := MX1_bandOf) (n := 1) (ci := 1) (av := [vI (F a2 1)]) (st := []) (show decode cX2_mostIn 45 = .ok (.invokevirtual 99, 3) by decide +kernel) ml_X2_99 mt_X1_bandOf min_X1_bandOf mse_X1_bandOf (by decide) (shc_k hsh 11 (by decide) (by decide)) rfl (Nat.le_of_ble_eq_true rfl) (by omega) (ok_mono p19 (fun w14 S15 F16 G17 e9 => ?_))
  obtain ⟨e1, e2, e3, e4⟩ := e9
  subst e1
  replace e2 := e2.symm; subst e2
  replace e3 := e3.symm; subst e3
  replace e4 := e4.symm; subst e4
  show Go d MX2_mostIn 48 [some (vR 2), some (vI a1), some (vR a2), some (vJ 0), none, some (vI z6), some (vI z12), none, none] [vI z18] S F G Q
  refine go_istore (show decode cX2_mostIn 48 = .ok (.istore 7, 2) by decide +kernel) (by decide) ?_
  show Go d MX2_mostIn 50 [some (vR 2), some (vI a1), some (vR a2), some (vJ 0), none, some (vI z6), some (vI z12), some (vI z18), none] [] S F G Q
  exact h
def V_X2_commonCells_0 (d : Nat) (S : AS) (F : AF) (G : AG) (Q : AQ) (a0 : Nat) (a1 : Nat) : Prop :=
  (1 ≤ d) ∧
  (r32 ((min (F a0 2) (F a1 2)) - (max (F a0 0) (F a1 0)))) ∧
  (r32 (((min (F a0 2) (F a1 2)) - (max (F a0 0) (F a1 0))) + 1)) ∧
  ∀ x4 : Int, x4 = ((min (F a0 2) (F a1 2)) - (max (F a0 0) (F a1 0))) + 1 →
  (r32 ((min (F a0 3) (F a1 3)) - (max (F a0 1) (F a1 1)))) ∧
  (r32 (((min (F a0 3) (F a1 3)) - (max (F a0 1) (F a1 1))) + 1)) ∧
  ∀ x7 : Int, x7 = ((min (F a0 3) (F a1 3)) - (max (F a0 1) (F a1 1))) + 1 →
  (r64 ((max 0 x4) * (max 0 x7))) ∧
  Q (some (vJ ((max 0 x4) * (max 0 x7)))) S F G
theorem R_X2_commonCells_0 {d : Nat} {S : AS} {F : AF} {G : AG} {Q : AQ} {a0 : Nat} {a1 : Nat} (hsh : ShC S) (hk0 : AtRect S a0) (hk1 : AtRect S a1) (h : V_X2_commonCells_0 d S F G Q a0 a1) : Go d MX2_commonCells 0 [some (vR a0), some (vR a1), none, none, none, none] [] S F G Q := by
  unfold V_X2_commonCells_0 at h
  refine go_aload_n (show decode cX2_commonCells 0 = .ok (.aload_n 0, 1) by decide +kernel) (by rfl) ?_
  refine go_getI (show decode cX2_commonCells 1 = .ok (.getfield 77, 3) by decide +kernel) fl_X2_77 (Or.inl rfl) hk0 ?_
  refine go_aload_n (show decode cX2_commonCells 4 = .ok (.aload_n 1, 1) by decide +kernel) (by rfl) ?_
  refine go_getI (show decode cX2_commonCells 5 = .ok (.getfield 77, 3) by decide +kernel) fl_X2_77 (Or.inl rfl) hk1 ?_
  obtain ⟨q1, h⟩ := h
  refine go_minIm (show decode cX2_commonCells 8 = .ok (.invokestatic 189, 3) by decide +kernel) ml_X2_189 mh_min_s mh_i mh_min_c (Nat.le_of_ble_eq_true rfl) q1 ?_
  refine go_aload_n (show decode cX2_commonCells 11 = .ok (.aload_n 0, 1) by decide +kernel) (by rfl) ?_
  refine go_getI (show decode cX2_commonCells 12 = .ok (.getfield 74, 3) by decide +kernel) fl_X2_74 (Or.inl rfl) hk0 ?_
  refine go_aload_n (show decode cX2_commonCells 15 = .ok (.aload_n 1, 1) by decide +kernel) (by rfl) ?_
  refine go_getI (show decode cX2_commonCells 16 = .ok (.getfield 74, 3) by decide +kernel) fl_X2_74 (Or.inl rfl) hk1 ?_
  refine go_maxIm (show decode cX2_commonCells 19 = .ok (.invokestatic 192, 3) by decide +kernel) ml_X2_192 mh_max_s mh_i mh_max_c (Nat.le_of_ble_eq_true rfl) q1 ?_
  obtain ⟨q2, h⟩ := h
  refine go_isub (show decode cX2_commonCells 22 = .ok (.isub, 1) by decide +kernel) q2 ?_
  refine go_iconst (show decode cX2_commonCells 23 = .ok (.iconst 1, 1) by decide +kernel) (by decide) ?_
  obtain ⟨q3, h⟩ := h
  refine go_iadd (show decode cX2_commonCells 24 = .ok (.iadd, 1) by decide +kernel) q3 ?_
  refine go_i2l (show decode cX2_commonCells 25 = .ok (.i2l, 1) by decide +kernel) ?_
  obtain ⟨x4, x4e⟩ : ∃ x4 : Int, x4 = ((min (F a0 2) (F a1 2)) - (max (F a0 0) (F a1 0))) + 1 := ⟨_, rfl⟩
  have h := h x4 x4e
  rw [← x4e]
  refine go_lstore_n (show decode cX2_commonCells 26 = .ok (.lstore_n 2, 1) by decide +kernel) (by decide) ?_
  show Go d MX2_commonCells 27 [some (vR a0), some (vR a1), some (vJ x4), none, none, none] [] S F G Q
  refine go_aload_n (show decode cX2_commonCells 27 = .ok (.aload_n 0, 1) by decide +kernel) (by rfl) ?_
  refine go_getI (show decode cX2_commonCells 28 = .ok (.getfield 83, 3) by decide +kernel) fl_X2_83 (Or.inl rfl) hk0 ?_
  refine go_aload_n (show decode cX2_commonCells 31 = .ok (.aload_n 1, 1) by decide +kernel) (by rfl) ?_
  refine go_getI (show decode cX2_commonCells 32 = .ok (.getfield 83, 3) by decide +kernel) fl_X2_83 (Or.inl rfl) hk1 ?_
  refine go_minIm (show decode cX2_commonCells 35 = .ok (.invokestatic 189, 3) by decide +kernel) ml_X2_189 mh_min_s mh_i mh_min_c (Nat.le_of_ble_eq_true rfl) q1 ?_
  refine go_aload_n (show decode cX2_commonCells 38 = .ok (.aload_n 0, 1) by decide +kernel) (by rfl) ?_
  refine go_getI (show decode cX2_commonCells 39 = .ok (.getfield 80, 3) by decide +kernel) fl_X2_80 (Or.inl rfl) hk0 ?_
  refine go_aload_n (show decode cX2_commonCells 42 = .ok (.aload_n 1, 1) by decide +kernel) (by rfl) ?_
  refine go_getI (show decode cX2_commonCells 43 = .ok (.getfield 80, 3) by decide +kernel) fl_X2_80 (Or.inl rfl) hk1 ?_
  refine go_maxIm (show decode cX2_commonCells 46 = .ok (.invokestatic 192, 3) by decide +kernel) ml_X2_192 mh_max_s mh_i mh_max_c (Nat.le_of_ble_eq_true rfl) q1 ?_
  obtain ⟨q5, h⟩ := h
  refine go_isub (show decode cX2_commonCells 49 = .ok (.isub, 1) by decide +kernel) q5 ?_
  refine go_iconst (show decode cX2_commonCells 50 = .ok (.iconst 1, 1) by decide +kernel) (by decide) ?_
  obtain ⟨q6, h⟩ := h
  refine go_iadd (show decode cX2_commonCells 51 = .ok (.iadd, 1) by decide +kernel) q6 ?_
  refine go_i2l (show decode cX2_commonCells 52 = .ok (.i2l, 1) by decide +kernel) ?_
  obtain ⟨x7, x7e⟩ : ∃ x7 : Int, x7 = ((min (F a0 3) (F a1 3)) - (max (F a0 1) (F a1 1))) + 1 := ⟨_, rfl⟩
  have h := h x7 x7e
  rw [← x7e]
  refine go_lstore (show decode cX2_commonCells 53 = .ok (.lstore 4, 2) by decide +kernel) (by decide) ?_
  show Go d MX2_commonCells 55 [some (vR a0), some (vR a1), some (vJ x4), none, some (vJ x7), none] [] S F G Q
  refine go_lconst (n := 0) (show decode cX2_commonCells 55 = .ok (.lconst 0, 1) by decide +kernel) ?_
  show Go d MX2_commonCells 56 [some (vR a0), some (vR a1), some (vJ x4), none, some (vJ x7), none] [vJ 0] S F G Q
  refine go_lload_n (show decode cX2_commonCells 56 = .ok (.lload_n 2, 1) by decide +kernel) (by rfl) ?_
  refine go_maxJm (show decode cX2_commonCells 57 = .ok (.invokestatic 121, 3) by decide +kernel) ml_X2_121 mh_maxJ_s mh_i mh_maxJ_c (Nat.le_of_ble_eq_true rfl) q1 ?_
  refine go_lconst (n := 0) (show decode cX2_commonCells 60 = .ok (.lconst 0, 1) by decide +kernel) ?_
  show Go d MX2_commonCells 61 [some (vR a0), some (vR a1), some (vJ x4), none, some (vJ x7), none] [vJ 0, vJ (max 0 x4)] S F G Q
  refine go_lload (show decode cX2_commonCells 61 = .ok (.lload 4, 2) by decide +kernel) (by rfl) ?_
  refine go_maxJm (show decode cX2_commonCells 63 = .ok (.invokestatic 121, 3) by decide +kernel) ml_X2_121 mh_maxJ_s mh_i mh_maxJ_c (Nat.le_of_ble_eq_true rfl) q1 ?_
  obtain ⟨q8, h⟩ := h
  refine go_lmul (show decode cX2_commonCells 66 = .ok (.lmul, 1) by decide +kernel) q8 ?_
  exact go_lret (show decode cX2_commonCells 67 = .ok (.lreturn, 1) by decide +kernel) rfl h
def V_X2_sumOf_39 (d : Nat) (S : AS) (F : AF) (G : AG) (Q : AQ) (a1 : Int) (a2 : Nat) (a3 : Int) (a5 : Int) : Prop :=
  ((3 ≤ a5) →
    Q (some (vJ a3)) S F G) ∧
  ((¬ 3 ≤ a5) →
    (r32 (a5 * 2304)) ∧
    (1 ≤ d) ∧
    ∃ z7 : Int, Pu (d - 1) MX2_sumBy [vR 2, vR 4, vR 11, vR 18, vI (a5 * 2304), vR a2] S F G (some (vJ z7)) ∧
    (r64 (a3 + z7)) ∧
    ∀ x10 : Int, x10 = a3 + z7 →
    (r32 (a5 + 1)) ∧
    Go d MX2_sumOf 39 [some (vR 2), some (vI a1), some (vR a2), some (vJ x10), none, some (vI (a5 + 1))] [] S F G Q)
theorem R_X2_sumOf_39 {d : Nat} {S : AS} {F : AF} {G : AG} {Q : AQ} {a1 : Int} {a2 : Nat} {a3 : Int} {a5 : Int} (hsh : ShC S) (hk2 : AtRect S a2) (h : V_X2_sumOf_39 d S F G Q a1 a2 a3 a5) : Go d MX2_sumOf 39 [some (vR 2), some (vI a1), some (vR a2), some (vJ a3), none, some (vI a5)] [] S F G Q := by
  unfold V_X2_sumOf_39 at h
  refine go_iload (show decode cX2_sumOf 39 = .ok (.iload 5, 2) by decide +kernel) (by rfl) ?_
  refine go_iconst (show decode cX2_sumOf 41 = .ok (.iconst 3, 1) by decide +kernel) (by decide) ?_
  obtain ⟨ht, hf⟩ := h
  refine go_icmpge (tgt := 83) (show decode cX2_sumOf 42 = .ok (.if_icmp .ge 41, 3) by decide +kernel) (by decide) (fun hc => ?_) (fun hc => ?_)
  · have h := ht hc
    refine go_lload_n (show decode cX2_sumOf 83 = .ok (.lload_n 3, 1) by decide +kernel) (by rfl) ?_
    exact go_lret (show decode cX2_sumOf 84 = .ok (.lreturn, 1) by decide +kernel) rfl h
  · have h := hf hc
    refine go_lload_n (show decode cX2_sumOf 45 = .ok (.lload_n 3, 1) by decide +kernel) (by rfl) ?_
    refine go_aload_n (show decode cX2_sumOf 46 = .ok (.aload_n 0, 1) by decide +kernel) (by rfl) ?_
    refine go_aload_n (show decode cX2_sumOf 47 = .ok (.aload_n 0, 1) by decide +kernel) (by rfl) ?_
    refine go_getRc (show decode cX2_sumOf 48 = .ok (.getfield 12, 3) by decide +kernel) fl_X2_12 rfl (shc_k hsh 2 (by decide) (by decide)) (v := 3) (shc_r hsh 2 0 (by decide) (by decide) (by decide)) ?_
    refine go_getRc (show decode cX2_sumOf 51 = .ok (.getfield 90, 3) by decide +kernel) fl_X2_90 rfl (shc_k hsh 3 (by decide) (by decide)) (v := 4) (shc_r hsh 3 0 (by decide) (by decide) (by decide)) ?_
    refine go_aload_n (show decode cX2_sumOf 54 = .ok (.aload_n 0, 1) by decide +kernel) (by rfl) ?_
    refine go_getRc (show decode cX2_sumOf 55 = .ok (.getfield 18, 3) by decide +kernel) fl_X2_18 rfl (shc_k hsh 2 (by decide) (by decide)) (v := 10) (shc_r hsh 2 1 (by decide) (by decide) (by decide)) ?_
    refine go_getRc (show decode cX2_sumOf 58 = .ok (.getfield 90, 3) by decide +kernel) fl_X2_90 rfl (shc_k hsh 10 (by decide) (by decide)) (v := 11) (shc_r hsh 10 0 (by decide) (by decide) (by decide)) ?_
    refine go_aload_n (show decode cX2_sumOf 61 = .ok (.aload_n 0, 1) by decide +kernel) (by rfl) ?_
    refine go_getRc (show decode cX2_sumOf 62 = .ok (.getfield 28, 3) by decide +kernel) fl_X2_28 rfl (shc_k hsh 2 (by decide) (by decide)) (v := 18) (shc_r hsh 2 3 (by decide) (by decide) (by decide)) ?_
    refine go_iload (show decode cX2_sumOf 65 = .ok (.iload 5, 2) by decide +kernel) (by rfl) ?_
    refine go_sipush (show decode cX2_sumOf 67 = .ok (.sipush 2304, 3) by decide +kernel) (by decide) ?_
    obtain ⟨q1, h⟩ := h
    refine go_imul (show decode cX2_sumOf 70 = .ok (.imul, 1) by decide +kernel) q1 ?_
    refine go_aload_n (show decode cX2_sumOf 71 = .ok (.aload_n 2, 1) by decide +kernel) (by rfl) ?_
    obtain ⟨q2, h⟩ := h
    obtain ⟨z7, p8, h⟩ := h
    refine go_callV (d2 := d - 1) (M2 := MX2_sumBy) (n := 5) (ci := 2) (av := [vR 4, vR 11, vR 18, vI (a5 * 2304), vR a2]) (st := [vJ a3]) (show decode cX2_sumOf 72 = .ok (.invokevirtual 94, 3) by decide +kernel) ml_X2_94 mt_X2_sumBy min_X2_sumBy mse_X2_sumBy (by decide) (shc_k hsh 2 (by decide) (by decide)) rfl (Nat.le_of_ble_eq_true rfl) (by omega) (ok_mono p8 (fun w3 S4 F5 G6 e9 => ?_))
    obtain ⟨e1, e2, e3, e4⟩ := e9
    subst e1
    replace e2 := e2.symm; subst e2
    replace e3 := e3.symm; subst e3
    replace e4 := e4.symm; subst e4
    show Go d MX2_sumOf 75 [some (vR 2), some (vI a1), some (vR a2), some (vJ a3), none, some (vI a5)] [vJ z7, vJ a3] S F G Q
    obtain ⟨q9, h⟩ := h
    refine go_ladd (show decode cX2_sumOf 75 = .ok (.ladd, 1) by decide +kernel) q9 ?_
    obtain ⟨x10, x10e⟩ : ∃ x10 : Int, x10 = a3 + z7 := ⟨_, rfl⟩
    have h := h x10 x10e
    rw [← x10e]
    refine go_lstore_n (show decode cX2_sumOf 76 = .ok (.lstore_n 3, 1) by decide +kernel) (by decide) ?_
    show Go d MX2_sumOf 77 [some (vR 2), some (vI a1), some (vR a2), some (vJ x10), none, some (vI a5)] [] S F G Q
    obtain ⟨q11, h⟩ := h
    refine go_iinc (show decode cX2_sumOf 77 = .ok (.iinc 5 1, 3) by decide +kernel) (by rfl) q11 (by decide) ?_
    show Go d MX2_sumOf 80 [some (vR 2), some (vI a1), some (vR a2), some (vJ x10), none, some (vI (a5 + 1))] [] S F G Q
    refine go_goto (tgt := 39) (show decode cX2_sumOf 80 = .ok (.goto (-41), 3) by decide +kernel) (by decide) ?_
    exact h
def V_X2_sumOf_0 (d : Nat) (S : AS) (F : AF) (G : AG) (Q : AQ) (a1 : Int) (a2 : Nat) : Prop :=
  ((a1 = -1) →
    Go d MX2_sumOf 39 [some (vR 2), some (vI a1), some (vR a2), some (vJ 0), none, some (vI 0)] [] S F G Q) ∧
  ((¬ a1 = -1) →
    (r32 (a1 * 2304)) ∧
    (1 ≤ d) ∧
    ∃ z7 : Int, Pu (d - 1) MX2_sumBy [vR 2, vR 4, vR 11, vR 18, vI (a1 * 2304), vR a2] S F G (some (vJ z7)) ∧
    Q (some (vJ z7)) S F G)
theorem R_X2_sumOf_0 {d : Nat} {S : AS} {F : AF} {G : AG} {Q : AQ} {a1 : Int} {a2 : Nat} (hsh : ShC S) (hk2 : AtRect S a2) (h : V_X2_sumOf_0 d S F G Q a1 a2) : Go d MX2_sumOf 0 [some (vR 2), some (vI a1), some (vR a2), none, none, none] [] S F G Q := by
  unfold V_X2_sumOf_0 at h
  refine go_iload_n (show decode cX2_sumOf 0 = .ok (.iload_n 1, 1) by decide +kernel) (by rfl) ?_
  refine go_iconst (show decode cX2_sumOf 1 = .ok (.iconst (-1), 1) by decide +kernel) (by decide) ?_
  obtain ⟨ht, hf⟩ := h
  refine go_icmpeq (tgt := 34) (show decode cX2_sumOf 2 = .ok (.if_icmp .eq 32, 3) by decide +kernel) (by decide) (fun hc => ?_) (fun hc => ?_)
  · have h := ht hc
    refine go_lconst (n := 0) (show decode cX2_sumOf 34 = .ok (.lconst 0, 1) by decide +kernel) ?_
    show Go d MX2_sumOf 35 [some (vR 2), some (vI a1), some (vR a2), none, none, none] [vJ 0] S F G Q
    refine go_lstore_n (show decode cX2_sumOf 35 = .ok (.lstore_n 3, 1) by decide +kernel) (by decide) ?_
    show Go d MX2_sumOf 36 [some (vR 2), some (vI a1), some (vR a2), some (vJ 0), none, none] [] S F G Q
    refine go_iconst (show decode cX2_sumOf 36 = .ok (.iconst 0, 1) by decide +kernel) (by decide) ?_
    refine go_istore (show decode cX2_sumOf 37 = .ok (.istore 5, 2) by decide +kernel) (by decide) ?_
    show Go d MX2_sumOf 39 [some (vR 2), some (vI a1), some (vR a2), some (vJ 0), none, some (vI 0)] [] S F G Q
    exact h
  · have h := hf hc
    refine go_aload_n (show decode cX2_sumOf 5 = .ok (.aload_n 0, 1) by decide +kernel) (by rfl) ?_
    refine go_aload_n (show decode cX2_sumOf 6 = .ok (.aload_n 0, 1) by decide +kernel) (by rfl) ?_
    refine go_getRc (show decode cX2_sumOf 7 = .ok (.getfield 12, 3) by decide +kernel) fl_X2_12 rfl (shc_k hsh 2 (by decide) (by decide)) (v := 3) (shc_r hsh 2 0 (by decide) (by decide) (by decide)) ?_
    refine go_getRc (show decode cX2_sumOf 10 = .ok (.getfield 90, 3) by decide +kernel) fl_X2_90 rfl (shc_k hsh 3 (by decide) (by decide)) (v := 4) (shc_r hsh 3 0 (by decide) (by decide) (by decide)) ?_
    refine go_aload_n (show decode cX2_sumOf 13 = .ok (.aload_n 0, 1) by decide +kernel) (by rfl) ?_
    refine go_getRc (show decode cX2_sumOf 14 = .ok (.getfield 18, 3) by decide +kernel) fl_X2_18 rfl (shc_k hsh 2 (by decide) (by decide)) (v := 10) (shc_r hsh 2 1 (by decide) (by decide) (by decide)) ?_
    refine go_getRc (show decode cX2_sumOf 17 = .ok (.getfield 90, 3) by decide +kernel) fl_X2_90 rfl (shc_k hsh 10 (by decide) (by decide)) (v := 11) (shc_r hsh 10 0 (by decide) (by decide) (by decide)) ?_
    refine go_aload_n (show decode cX2_sumOf 20 = .ok (.aload_n 0, 1) by decide +kernel) (by rfl) ?_
    refine go_getRc (show decode cX2_sumOf 21 = .ok (.getfield 28, 3) by decide +kernel) fl_X2_28 rfl (shc_k hsh 2 (by decide) (by decide)) (v := 18) (shc_r hsh 2 3 (by decide) (by decide) (by decide)) ?_
    refine go_iload_n (show decode cX2_sumOf 24 = .ok (.iload_n 1, 1) by decide +kernel) (by rfl) ?_
    refine go_sipush (show decode cX2_sumOf 25 = .ok (.sipush 2304, 3) by decide +kernel) (by decide) ?_
    obtain ⟨q1, h⟩ := h
    refine go_imul (show decode cX2_sumOf 28 = .ok (.imul, 1) by decide +kernel) q1 ?_
    refine go_aload_n (show decode cX2_sumOf 29 = .ok (.aload_n 2, 1) by decide +kernel) (by rfl) ?_
    obtain ⟨q2, h⟩ := h
    obtain ⟨z7, p8, h⟩ := h
    refine go_callV (d2 := d - 1) (M2 := MX2_sumBy) (n := 5) (ci := 2) (av := [vR 4, vR 11, vR 18, vI (a1 * 2304), vR a2]) (st := []) (show decode cX2_sumOf 30 = .ok (.invokevirtual 94, 3) by decide +kernel) ml_X2_94 mt_X2_sumBy min_X2_sumBy mse_X2_sumBy (by decide) (shc_k hsh 2 (by decide) (by decide)) rfl (Nat.le_of_ble_eq_true rfl) (by omega) (ok_mono p8 (fun w3 S4 F5 G6 e9 => ?_))
    obtain ⟨e1, e2, e3, e4⟩ := e9
    subst e1
    replace e2 := e2.symm; subst e2
    replace e3 := e3.symm; subst e3
    replace e4 := e4.symm; subst e4
    show Go d MX2_sumOf 33 [some (vR 2), some (vI a1), some (vR a2), none, none, none] [vJ z7] S F G Q
    exact go_lret (show decode cX2_sumOf 33 = .ok (.lreturn, 1) by decide +kernel) rfl h
def V_X2_sumBy_99 (d : Nat) (S : AS) (F : AF) (G : AG) (Q : AQ) (a1 : Nat) (a2 : Nat) (a3 : Nat) (a4 : Int) (a5 : Nat) (a6 : Int) (a8 : Int) (a9 : Int) (a10 : Int) (a11 : Int) (a12 : Int) (a13 : Int) (a15 : Int) : Prop :=
  ((a9 < a15) →
    (1 ≤ d) ∧
    ∃ z6 : Int, Pu (d - 1) MX1_overlap [vR a2, vI a11, vI (F a5 1), vI (F a5 3)] S F G (some (vI z6)) ∧
    (r64 (a13 * z6)) ∧
    (r64 (a6 + (a13 * z6))) ∧
    ∀ x10 : Int, x10 = a6 + (a13 * z6) →
    (r32 (a11 + 1)) ∧
    Go d MX2_sumBy 75 [some (vR 2), some (vR a1), some (vR a2), some (vR a3), some (vI a4), some (vR a5), some (vJ x10), none, some (vI a8), some (vI a9), some (vI a10), some (vI (a11 + 1)), none, none, none, none] [] S F G Q) ∧
  ((¬ a9 < a15) →
    (r32 (a12 + a15)) ∧
    ((0 : Int) ≤ a12 + a15) ∧
    ((a12 + a15 : Int) < (sN S a3 : Int)) ∧
    (1 ≤ d) ∧
    ∃ z20 : Int, Pu (d - 1) MX1_overlap [vR a1, vI a15, vI (F a5 0), vI (F a5 2)] S F G (some (vI z20)) ∧
    (r64 ((G a3 (a12 + a15)) * z20)) ∧
    (r64 (a13 + ((G a3 (a12 + a15)) * z20))) ∧
    ∀ x24 : Int, x24 = a13 + ((G a3 (a12 + a15)) * z20) →
    (r32 (a15 + 1)) ∧
    Go d MX2_sumBy 99 [some (vR 2), some (vR a1), some (vR a2), some (vR a3), some (vI a4), some (vR a5), some (vJ a6), none, some (vI a8), some (vI a9), some (vI a10), some (vI a11), some (vI a12), some (vJ x24), none, some (vI (a15 + 1))] [] S F G Q)
theorem R_X2_sumBy_99 {d : Nat} {S : AS} {F : AF} {G : AG} {Q : AQ} {a1 : Nat} {a2 : Nat} {a3 : Nat} {a4 : Int} {a5 : Nat} {a6 : Int} {a8 : Int} {a9 : Int} {a10 : Int} {a11 : Int} {a12 : Int} {a13 : Int} {a15 : Int} (hsh : ShC S) (hk1 : AtCuts S a1) (hk2 : AtCuts S a2) (hk3 : AtJ S a3) (hk5 : AtRect S a5) (h : V_X2_sumBy_99 d S F G Q a1 a2 a3 a4 a5 a6 a8 a9 a10 a11 a12 a13 a15) : Go d MX2_sumBy 99 [some (vR 2), some (vR a1), some (vR a2), some (vR a3), some (vI a4), some (vR a5), some (vJ a6), none, some (vI a8), some (vI a9), some (vI a10), some (vI a11), some (vI a12), some (vJ a13), none, some (vI a15)] [] S F G Q := by
  unfold V_X2_sumBy_99 at h
  refine go_iload (show decode cX2_sumBy 99 = .ok (.iload 15, 2) by decide +kernel) (by rfl) ?_
  refine go_iload (show decode cX2_sumBy 101 = .ok (.iload 9, 2) by decide +kernel) (by rfl) ?_
  obtain ⟨ht, hf⟩ := h
  refine go_icmpgt (tgt := 142) (show decode cX2_sumBy 103 = .ok (.if_icmp .gt 39, 3) by decide +kernel) (by decide) (fun hc => ?_) (fun hc => ?_)
  · have h := ht hc
    refine go_lload (show decode cX2_sumBy 142 = .ok (.lload 6, 2) by decide +kernel) (by rfl) ?_
    refine go_lload (show decode cX2_sumBy 144 = .ok (.lload 13, 2) by decide +kernel) (by rfl) ?_
    refine go_aload_n (show decode cX2_sumBy 146 = .ok (.aload_n 2, 1) by decide +kernel) (by rfl) ?_
    refine go_iload (show decode cX2_sumBy 147 = .ok (.iload 11, 2) by decide +kernel) (by rfl) ?_
    refine go_aload (show decode cX2_sumBy 149 = .ok (.aload 5, 2) by decide +kernel) (by rfl) ?_
    refine go_getI (show decode cX2_sumBy 151 = .ok (.getfield 80, 3) by decide +kernel) fl_X2_80 (Or.inl rfl) hk5 ?_
    refine go_aload (show decode cX2_sumBy 154 = .ok (.aload 5, 2) by decide +kernel) (by rfl) ?_
    refine go_getI (show decode cX2_sumBy 156 = .ok (.getfield 83, 3) by decide +kernel) fl_X2_83 (Or.inl rfl) hk5 ?_
    obtain ⟨q1, h⟩ := h
    obtain ⟨z6, p7, h⟩ := h
    refine go_callV (d2 := d - 1) (M2 := MX1_overlap) (n := 3) (ci := 1) (av := [vI a11, vI (F a5 1), vI (F a5 3)]) (st := [vJ a13, vJ a6]) (show decode cX2_sumBy 159 = .ok (.invokevirtual 105, 3) by decide +kernel) ml_X2_105 mt_X1_overlap min_X1_overlap mse_X1_overlap (by decide) hk2.1 rfl (Nat.le_of_ble_eq_true rfl) (by omega) (ok_mono p7 (fun w2 S3 F4 G5 e9 => ?_))
    obtain ⟨e1, e2, e3, e4⟩ := e9
    subst e1
    replace e2 := e2.symm; subst e2
    replace e3 := e3.symm; subst e3
    replace e4 := e4.symm; subst e4
    show Go d MX2_sumBy 162 [some (vR 2), some (vR a1), some (vR a2), some (vR a3), some (vI a4), some (vR a5), some (vJ a6), none, some (vI a8), some (vI a9), some (vI a10), some (vI a11), some (vI a12), some (vJ a13), none, some (vI a15)] [vI z6, vJ a13, vJ a6] S F G Q
    refine go_i2l (show decode cX2_sumBy 162 = .ok (.i2l, 1) by decide +kernel) ?_
    obtain ⟨q8, h⟩ := h
    refine go_lmul (show decode cX2_sumBy 163 = .ok (.lmul, 1) by decide +kernel) q8 ?_
    obtain ⟨q9, h⟩ := h
    refine go_ladd (show decode cX2_sumBy 164 = .ok (.ladd, 1) by decide +kernel) q9 ?_
    obtain ⟨x10, x10e⟩ : ∃ x10 : Int, x10 = a6 + (a13 * z6) := ⟨_, rfl⟩
    have h := h x10 x10e
    rw [← x10e]
    refine go_lstore (show decode cX2_sumBy 165 = .ok (.lstore 6, 2) by decide +kernel) (by decide) ?_
    show Go d MX2_sumBy 167 [some (vR 2), some (vR a1), some (vR a2), some (vR a3), some (vI a4), some (vR a5), some (vJ x10), none, some (vI a8), some (vI a9), some (vI a10), some (vI a11), some (vI a12), some (vJ a13), none, some (vI a15)] [] S F G Q
    obtain ⟨q11, h⟩ := h
    refine go_iinc (show decode cX2_sumBy 167 = .ok (.iinc 11 1, 3) by decide +kernel) (by rfl) q11 (by decide) ?_
    show Go d MX2_sumBy 170 [some (vR 2), some (vR a1), some (vR a2), some (vR a3), some (vI a4), some (vR a5), some (vJ x10), none, some (vI a8), some (vI a9), some (vI a10), some (vI (a11 + 1)), some (vI a12), some (vJ a13), none, some (vI a15)] [] S F G Q
    refine go_goto (tgt := 75) (show decode cX2_sumBy 170 = .ok (.goto (-95), 3) by decide +kernel) (by decide) ?_
    refine go_clr 12 ?_
    refine go_clr 13 ?_
    refine go_clr 15 ?_
    exact h
  · have h := hf hc
    refine go_lload (show decode cX2_sumBy 106 = .ok (.lload 13, 2) by decide +kernel) (by rfl) ?_
    refine go_aload_n (show decode cX2_sumBy 108 = .ok (.aload_n 3, 1) by decide +kernel) (by rfl) ?_
    refine go_iload (show decode cX2_sumBy 109 = .ok (.iload 12, 2) by decide +kernel) (by rfl) ?_
    refine go_iload (show decode cX2_sumBy 111 = .ok (.iload 15, 2) by decide +kernel) (by rfl) ?_
    obtain ⟨q12, h⟩ := h
    refine go_iadd (show decode cX2_sumBy 113 = .ok (.iadd, 1) by decide +kernel) q12 ?_
    obtain ⟨q13, h⟩ := h
    obtain ⟨q14, h⟩ := h
    refine go_laload (show decode cX2_sumBy 114 = .ok (.laload, 1) by decide +kernel) hk3 q13 q14 ?_
    refine go_aload_n (show decode cX2_sumBy 115 = .ok (.aload_n 1, 1) by decide +kernel) (by rfl) ?_
    refine go_iload (show decode cX2_sumBy 116 = .ok (.iload 15, 2) by decide +kernel) (by rfl) ?_
    refine go_aload (show decode cX2_sumBy 118 = .ok (.aload 5, 2) by decide +kernel) (by rfl) ?_
    refine go_getI (show decode cX2_sumBy 120 = .ok (.getfield 74, 3) by decide +kernel) fl_X2_74 (Or.inl rfl) hk5 ?_
    refine go_aload (show decode cX2_sumBy 123 = .ok (.aload 5, 2) by decide +kernel) (by rfl) ?_
    refine go_getI (show decode cX2_sumBy 125 = .ok (.getfield 77, 3) by decide +kernel) fl_X2_77 (Or.inl rfl) hk5 ?_
    obtain ⟨q15, h⟩ := h
    obtain ⟨z20, p21, h⟩ := h
    refine go_callV (d2 := d - 1) (M2 := MX1_overlap) (n := 3) (ci := 1) (av := [vI a15, vI (F a5 0), vI (F a5 2)]) (st := [vJ (G a3 (a12 + a15)), vJ a13]) (show decode cX2_sumBy 128 = .ok (.invokevirtual 105, 3) by decide +kernel) ml_X2_105 mt_X1_overlap min_X1_overlap mse_X1_overlap (by decide) hk1.1 rfl (Nat.le_of_ble_eq_true rfl) (by omega) (ok_mono p21 (fun w16 S17 F18 G19 e9 => ?_))
    obtain ⟨e1, e2, e3, e4⟩ := e9
    subst e1
    replace e2 := e2.symm; subst e2
    replace e3 := e3.symm; subst e3
    replace e4 := e4.symm; subst e4
    show Go d MX2_sumBy 131 [some (vR 2), some (vR a1), some (vR a2), some (vR a3), some (vI a4), some (vR a5), some (vJ a6), none, some (vI a8), some (vI a9), some (vI a10), some (vI a11), some (vI a12), some (vJ a13), none, some (vI a15)] [vI z20, vJ (G a3 (a12 + a15)), vJ a13] S F G Q
    refine go_i2l (show decode cX2_sumBy 131 = .ok (.i2l, 1) by decide +kernel) ?_
    obtain ⟨q22, h⟩ := h
    refine go_lmul (show decode cX2_sumBy 132 = .ok (.lmul, 1) by decide +kernel) q22 ?_
    obtain ⟨q23, h⟩ := h
    refine go_ladd (show decode cX2_sumBy 133 = .ok (.ladd, 1) by decide +kernel) q23 ?_
    obtain ⟨x24, x24e⟩ : ∃ x24 : Int, x24 = a13 + ((G a3 (a12 + a15)) * z20) := ⟨_, rfl⟩
    have h := h x24 x24e
    rw [← x24e]
    refine go_lstore (show decode cX2_sumBy 134 = .ok (.lstore 13, 2) by decide +kernel) (by decide) ?_
    show Go d MX2_sumBy 136 [some (vR 2), some (vR a1), some (vR a2), some (vR a3), some (vI a4), some (vR a5), some (vJ a6), none, some (vI a8), some (vI a9), some (vI a10), some (vI a11), some (vI a12), some (vJ x24), none, some (vI a15)] [] S F G Q
    obtain ⟨q25, h⟩ := h
    refine go_iinc (show decode cX2_sumBy 136 = .ok (.iinc 15 1, 3) by decide +kernel) (by rfl) q25 (by decide) ?_
    show Go d MX2_sumBy 139 [some (vR 2), some (vR a1), some (vR a2), some (vR a3), some (vI a4), some (vR a5), some (vJ a6), none, some (vI a8), some (vI a9), some (vI a10), some (vI a11), some (vI a12), some (vJ x24), none, some (vI (a15 + 1))] [] S F G Q
    refine go_goto (tgt := 99) (show decode cX2_sumBy 139 = .ok (.goto (-40), 3) by decide +kernel) (by decide) ?_
    exact h
def V_X2_sumBy_75 (d : Nat) (S : AS) (F : AF) (G : AG) (Q : AQ) (a1 : Nat) (a2 : Nat) (a3 : Nat) (a4 : Int) (a5 : Nat) (a6 : Int) (a8 : Int) (a9 : Int) (a10 : Int) (a11 : Int) : Prop :=
  ((a10 < a11) →
    Q (some (vJ a6)) S F G) ∧
  ((¬ a10 < a11) →
    (r32 (48 * a11)) ∧
    (r32 (a4 + (48 * a11))) ∧
    ∀ x3 : Int, x3 = a4 + (48 * a11) →
    Go d MX2_sumBy 99 [some (vR 2), some (vR a1), some (vR a2), some (vR a3), some (vI a4), some (vR a5), some (vJ a6), none, some (vI a8), some (vI a9), some (vI a10), some (vI a11), some (vI x3), some (vJ 0), none, some (vI a8)] [] S F G Q)
theorem R_X2_sumBy_75 {d : Nat} {S : AS} {F : AF} {G : AG} {Q : AQ} {a1 : Nat} {a2 : Nat} {a3 : Nat} {a4 : Int} {a5 : Nat} {a6 : Int} {a8 : Int} {a9 : Int} {a10 : Int} {a11 : Int} (hsh : ShC S) (hk1 : AtCuts S a1) (hk2 : AtCuts S a2) (hk3 : AtJ S a3) (hk5 : AtRect S a5) (h : V_X2_sumBy_75 d S F G Q a1 a2 a3 a4 a5 a6 a8 a9 a10 a11) : Go d MX2_sumBy 75 [some (vR 2), some (vR a1), some (vR a2), some (vR a3), some (vI a4), some (vR a5), some (vJ a6), none, some (vI a8), some (vI a9), some (vI a10), some (vI a11), none, none, none, none] [] S F G Q := by
  unfold V_X2_sumBy_75 at h
  refine go_iload (show decode cX2_sumBy 75 = .ok (.iload 11, 2) by decide +kernel) (by rfl) ?_
  refine go_iload (show decode cX2_sumBy 77 = .ok (.iload 10, 2) by decide +kernel) (by rfl) ?_
  obtain ⟨ht, hf⟩ := h
  refine go_icmpgt (tgt := 173) (show decode cX2_sumBy 79 = .ok (.if_icmp .gt 94, 3) by decide +kernel) (by decide) (fun hc => ?_) (fun hc => ?_)
  · have h := ht hc
    refine go_lload (show decode cX2_sumBy 173 = .ok (.lload 6, 2) by decide +kernel) (by rfl) ?_
    exact go_lret (show decode cX2_sumBy 175 = .ok (.lreturn, 1) by decide +kernel) rfl h
  · have h := hf hc
    refine go_iload (show decode cX2_sumBy 82 = .ok (.iload 4, 2) by decide +kernel) (by rfl) ?_
    refine go_bipush (show decode cX2_sumBy 84 = .ok (.bipush 48, 2) by decide +kernel) (by decide) ?_
    refine go_iload (show decode cX2_sumBy 86 = .ok (.iload 11, 2) by decide +kernel) (by rfl) ?_
    obtain ⟨q1, h⟩ := h
    refine go_imul (show decode cX2_sumBy 88 = .ok (.imul, 1) by decide +kernel) q1 ?_
    obtain ⟨q2, h⟩ := h
    refine go_iadd (show decode cX2_sumBy 89 = .ok (.iadd, 1) by decide +kernel) q2 ?_
    obtain ⟨x3, x3e⟩ : ∃ x3 : Int, x3 = a4 + (48 * a11) := ⟨_, rfl⟩
    have h := h x3 x3e
    rw [← x3e]
    refine go_istore (show decode cX2_sumBy 90 = .ok (.istore 12, 2) by decide +kernel) (by decide) ?_
    show Go d MX2_sumBy 92 [some (vR 2), some (vR a1), some (vR a2), some (vR a3), some (vI a4), some (vR a5), some (vJ a6), none, some (vI a8), some (vI a9), some (vI a10), some (vI a11), some (vI x3), none, none, none] [] S F G Q
    refine go_lconst (n := 0) (show decode cX2_sumBy 92 = .ok (.lconst 0, 1) by decide +kernel) ?_
    show Go d MX2_sumBy 93 [some (vR 2), some (vR a1), some (vR a2), some (vR a3), some (vI a4), some (vR a5), some (vJ a6), none, some (vI a8), some (vI a9), some (vI a10), some (vI a11), some (vI x3), none, none, none] [vJ 0] S F G Q
    refine go_lstore (show decode cX2_sumBy 93 = .ok (.lstore 13, 2) by decide +kernel) (by decide) ?_
    show Go d MX2_sumBy 95 [some (vR 2), some (vR a1), some (vR a2), some (vR a3), some (vI a4), some (vR a5), some (vJ a6), none, some (vI a8), some (vI a9), some (vI a10), some (vI a11), some (vI x3), some (vJ 0), none, none] [] S F G Q
    refine go_iload (show decode cX2_sumBy 95 = .ok (.iload 8, 2) by decide +kernel) (by rfl) ?_
    refine go_istore (show decode cX2_sumBy 97 = .ok (.istore 15, 2) by decide +kernel) (by decide) ?_
    show Go d MX2_sumBy 99 [some (vR 2), some (vR a1), some (vR a2), some (vR a3), some (vI a4), some (vR a5), some (vJ a6), none, some (vI a8), some (vI a9), some (vI a10), some (vI a11), some (vI x3), some (vJ 0), none, some (vI a8)] [] S F G Q
    exact h
def V_X2_sumBy_0 (d : Nat) (S : AS) (F : AF) (G : AG) (Q : AQ) (a1 : Nat) (a2 : Nat) (a3 : Nat) (a4 : Int) (a5 : Nat) : Prop :=
  ((F a5 2 < F a5 0) →
    Q (some (vJ 0)) S F G) ∧
  ((¬ F a5 2 < F a5 0) →
    ((F a5 1 ≤ F a5 3) →
      (1 ≤ d) ∧
      ∃ z6 : Int, Pu (d - 1) MX1_bandOf [vR a1, vI (F a5 0)] S F G (some (vI z6)) ∧
      ∃ z12 : Int, Pu (d - 1) MX1_bandOf [vR a1, vI (F a5 2)] S F G (some (vI z12)) ∧
      ∃ z18 : Int, Pu (d - 1) MX1_bandOf [vR a2, vI (F a5 3)] S F G (some (vI z18)) ∧
      ∃ z24 : Int, Pu (d - 1) MX1_bandOf [vR a2, vI (F a5 1)] S F G (some (vI z24)) ∧
      Go d MX2_sumBy 75 [some (vR 2), some (vR a1), some (vR a2), some (vR a3), some (vI a4), some (vR a5), some (vJ 0), none, some (vI z6), some (vI z12), some (vI z18), some (vI z24), none, none, none, none] [] S F G Q) ∧
    ((¬ F a5 1 ≤ F a5 3) →
      Q (some (vJ 0)) S F G))
theorem R_X2_sumBy_0 {d : Nat} {S : AS} {F : AF} {G : AG} {Q : AQ} {a1 : Nat} {a2 : Nat} {a3 : Nat} {a4 : Int} {a5 : Nat} (hsh : ShC S) (hk1 : AtCuts S a1) (hk2 : AtCuts S a2) (hk3 : AtJ S a3) (hk5 : AtRect S a5) (h : V_X2_sumBy_0 d S F G Q a1 a2 a3 a4 a5) : Go d MX2_sumBy 0 [some (vR 2), some (vR a1), some (vR a2), some (vR a3), some (vI a4), some (vR a5), none, none, none, none, none, none, none, none, none, none] [] S F G Q := by
  unfold V_X2_sumBy_0 at h
  refine go_aload (show decode cX2_sumBy 0 = .ok (.aload 5, 2) by decide +kernel) (by rfl) ?_
  refine go_getI (show decode cX2_sumBy 2 = .ok (.getfield 74, 3) by decide +kernel) fl_X2_74 (Or.inl rfl) hk5 ?_
  refine go_aload (show decode cX2_sumBy 5 = .ok (.aload 5, 2) by decide +kernel) (by rfl) ?_
  refine go_getI (show decode cX2_sumBy 7 = .ok (.getfield 77, 3) by decide +kernel) fl_X2_77 (Or.inl rfl) hk5 ?_
  obtain ⟨ht, hf⟩ := h
  refine go_icmpgt (tgt := 26) (show decode cX2_sumBy 10 = .ok (.if_icmp .gt 16, 3) by decide +kernel) (by decide) (fun hc => ?_) (fun hc => ?_)
  · have h := ht hc
    refine go_lconst (n := 0) (show decode cX2_sumBy 26 = .ok (.lconst 0, 1) by decide +kernel) ?_
    show Go d MX2_sumBy 27 [some (vR 2), some (vR a1), some (vR a2), some (vR a3), some (vI a4), some (vR a5), none, none, none, none, none, none, none, none, none, none] [vJ 0] S F G Q
    exact go_lret (show decode cX2_sumBy 27 = .ok (.lreturn, 1) by decide +kernel) rfl h
  · have h := hf hc
    refine go_aload (show decode cX2_sumBy 13 = .ok (.aload 5, 2) by decide +kernel) (by rfl) ?_
    refine go_getI (show decode cX2_sumBy 15 = .ok (.getfield 80, 3) by decide +kernel) fl_X2_80 (Or.inl rfl) hk5 ?_
    refine go_aload (show decode cX2_sumBy 18 = .ok (.aload 5, 2) by decide +kernel) (by rfl) ?_
    refine go_getI (show decode cX2_sumBy 20 = .ok (.getfield 83, 3) by decide +kernel) fl_X2_83 (Or.inl rfl) hk5 ?_
    obtain ⟨ht, hf⟩ := h
    refine go_icmple (tgt := 28) (show decode cX2_sumBy 23 = .ok (.if_icmp .le 5, 3) by decide +kernel) (by decide) (fun hc => ?_) (fun hc => ?_)
    · have h := ht hc
      refine go_lconst (n := 0) (show decode cX2_sumBy 28 = .ok (.lconst 0, 1) by decide +kernel) ?_
      show Go d MX2_sumBy 29 [some (vR 2), some (vR a1), some (vR a2), some (vR a3), some (vI a4), some (vR a5), none, none, none, none, none, none, none, none, none, none] [vJ 0] S F G Q
      refine go_lstore (show decode cX2_sumBy 29 = .ok (.lstore 6, 2) by decide +kernel) (by decide) ?_
      show Go d MX2_sumBy 31 [some (vR 2), some (vR a1), some (vR a2), some (vR a3), some (vI a4), some (vR a5), some (vJ 0), none, none, none, none, none, none, none, none, none] [] S F G Q
      refine go_aload_n (show decode cX2_sumBy 31 = .ok (.aload_n 1, 1) by decide +kernel) (by rfl) ?_
      refine go_aload (show decode cX2_sumBy 32 = .ok (.aload 5, 2) by decide +kernel) (by rfl) ?_
      refine go_getI (show decode cX2_sumBy 34 = .ok (.getfield 74, 3) by decide +kernel) fl_X2_74 (Or.inl rfl) hk5 ?_
      obtain ⟨q1, h⟩ := h
      obtain ⟨z6, p7, h⟩ := h
      refine go_callV (d2 := d - 1) (M2 := MX1_bandOf) (n := 1) (ci := 1) (av := [vI (F a5 0)]) (st := []) (show decode cX2_sumBy 37 = .ok (.invokevirtual 99, 3) by decide +kernel) ml_X2_99 mt_X1_bandOf min_X1_bandOf mse_X1_bandOf (by decide) hk1.1 rfl (Nat.le_of_ble_eq_true rfl) (by omega) (ok_mono p7 (fun w2 S3 F4 G5 e9 => ?_))
      obtain ⟨e1, e2, e3, e4⟩ := e9
      subst e1
      replace e2 := e2.symm; subst e2
      replace e3 := e3.symm; subst e3
      replace e4 := e4.symm; subst e4
      show Go d MX2_sumBy 40 [some (vR 2), some (vR a1), some (vR a2), some (vR a3), some (vI a4), some (vR a5), some (vJ 0), none, none, none, none, none, none, none, none, none] [vI z6] S F G Q
      refine go_istore (show decode cX2_sumBy 40 = .ok (.istore 8, 2) by decide +kernel) (by decide) ?_
      show Go d MX2_sumBy 42 [some (vR 2), some (vR a1), some (vR a2), some (vR a3), some (vI a4), some (vR a5), some (vJ 0), none, some (vI z6), none, none, none, none, none, none, none] [] S F G Q
      refine go_aload_n (show decode cX2_sumBy 42 = .ok (.aload_n 1, 1) by decide +kernel) (by rfl) ?_
      refine go_aload (show decode cX2_sumBy 43 = .ok (.aload 5, 2) by decide +kernel) (by rfl) ?_
      refine go_getI (show decode cX2_sumBy 45 = .ok (.getfield 77, 3) by decide +kernel) fl_X2_77 (Or.inl rfl) hk5 ?_
      obtain ⟨z12, p13, h⟩ := h
      refine go_callV (d2 := d - 1) (M2 := MX1_bandOf) (n := 1) (ci := 1) (av := [vI (F a5 2)]) (st := []) (show decode cX2_sumBy 48 = .ok (.invokevirtual 99, 3) by decide +kernel) ml_X2_99 mt_X1_bandOf min_X1_bandOf mse_X1_bandOf (by decide) hk1.1 rfl (Nat.le_of_ble_eq_true rfl) (by omega) (ok_mono p13 (fun w8 S9 F10 G11 e9 => ?_))
      obtain ⟨e1, e2, e3, e4⟩ := e9
      subst e1
      replace e2 := e2.symm; subst e2
      replace e3 := e3.symm; subst e3
      replace e4 := e4.symm; subst e4
      show Go d MX2_sumBy 51 [some (vR 2), some (vR a1), some (vR a2), some (vR a3), some (vI a4), some (vR a5), some (vJ 0), none, some (vI z6), none, none, none, none, none, none, none] [vI z12] S F G Q
      refine go_istore (show decode cX2_sumBy 51 = .ok (.istore 9, 2) by decide +kernel) (by decide) ?_
      show Go d MX2_sumBy 53 [some (vR 2), some (vR a1), some (vR a2), some (vR a3), some (vI a4), some (vR a5), some (vJ 0), none, some (vI z6), some (vI z12), none, none, none, none, none, none] [] S F G Q
      refine go_aload_n (show decode cX2_sumBy 53 = .ok (.aload_n 2, 1) by decide +kernel) (by rfl) ?_
      refine go_aload (show decode cX2_sumBy 54 = .ok (.aload 5, 2) by decide +kernel) (by rfl) ?_
      refine go_getI (show decode cX2_sumBy 56 = .ok (.getfield 83, 3) by decide +kernel) fl_X2_83 (Or.inl rfl) hk5 ?_
      obtain ⟨z18, p19, h⟩ := h
      refine go_callV (d2 := d - 1) (M2 := MX1_bandOf) (n := 1) (ci := 1) (av := [vI (F a5 3)]) (st := []) (show decode cX2_sumBy 59 = .ok (.invokevirtual 99, 3) by decide +kernel) ml_X2_99 mt_X1_bandOf min_X1_bandOf mse_X1_bandOf (by decide) hk2.1 rfl (Nat.le_of_ble_eq_true rfl) (by omega) (ok_mono p19 (fun w14 S15 F16 G17 e9 => ?_))
      obtain ⟨e1, e2, e3, e4⟩ := e9
      subst e1
      replace e2 := e2.symm; subst e2
      replace e3 := e3.symm; subst e3
      replace e4 := e4.symm; subst e4
      show Go d MX2_sumBy 62 [some (vR 2), some (vR a1), some (vR a2), some (vR a3), some (vI a4), some (vR a5), some (vJ 0), none, some (vI z6), some (vI z12), none, none, none, none, none, none] [vI z18] S F G Q
      refine go_istore (show decode cX2_sumBy 62 = .ok (.istore 10, 2) by decide +kernel) (by decide) ?_
      show Go d MX2_sumBy 64 [some (vR 2), some (vR a1), some (vR a2), some (vR a3), some (vI a4), some (vR a5), some (vJ 0), none, some (vI z6), some (vI z12), some (vI z18), none, none, none, none, none] [] S F G Q
      refine go_aload_n (show decode cX2_sumBy 64 = .ok (.aload_n 2, 1) by decide +kernel) (by rfl) ?_
      refine go_aload (show decode cX2_sumBy 65 = .ok (.aload 5, 2) by decide +kernel) (by rfl) ?_
      refine go_getI (show decode cX2_sumBy 67 = .ok (.getfield 80, 3) by decide +kernel) fl_X2_80 (Or.inl rfl) hk5 ?_
      obtain ⟨z24, p25, h⟩ := h
      refine go_callV (d2 := d - 1) (M2 := MX1_bandOf) (n := 1) (ci := 1) (av := [vI (F a5 1)]) (st := []) (show decode cX2_sumBy 70 = .ok (.invokevirtual 99, 3) by decide +kernel) ml_X2_99 mt_X1_bandOf min_X1_bandOf mse_X1_bandOf (by decide) hk2.1 rfl (Nat.le_of_ble_eq_true rfl) (by omega) (ok_mono p25 (fun w20 S21 F22 G23 e9 => ?_))
      obtain ⟨e1, e2, e3, e4⟩ := e9
      subst e1
      replace e2 := e2.symm; subst e2
      replace e3 := e3.symm; subst e3
      replace e4 := e4.symm; subst e4
      show Go d MX2_sumBy 73 [some (vR 2), some (vR a1), some (vR a2), some (vR a3), some (vI a4), some (vR a5), some (vJ 0), none, some (vI z6), some (vI z12), some (vI z18), none, none, none, none, none] [vI z24] S F G Q
      refine go_istore (show decode cX2_sumBy 73 = .ok (.istore 11, 2) by decide +kernel) (by decide) ?_
      show Go d MX2_sumBy 75 [some (vR 2), some (vR a1), some (vR a2), some (vR a3), some (vI a4), some (vR a5), some (vJ 0), none, some (vI z6), some (vI z12), some (vI z18), some (vI z24), none, none, none, none] [] S F G Q
      exact h
    · have h := hf hc
      refine go_lconst (n := 0) (show decode cX2_sumBy 26 = .ok (.lconst 0, 1) by decide +kernel) ?_
      show Go d MX2_sumBy 27 [some (vR 2), some (vR a1), some (vR a2), some (vR a3), some (vI a4), some (vR a5), none, none, none, none, none, none, none, none, none, none] [vJ 0] S F G Q
      exact go_lret (show decode cX2_sumBy 27 = .ok (.lreturn, 1) by decide +kernel) rfl h
def V_X2_plan_0 (d : Nat) (S : AS) (F : AF) (G : AG) (Q : AQ) (a1 : Nat) : Prop :=
  (1 ≤ d) ∧
  Ok (d - 1) MX1_copy [vR 6, vR 4] S F G (fun w2 S3 F4 G5 =>
  S3 = S ∧
  w2 = none ∧
  Ok (d - 1) MX1_copy [vR 13, vR 11] S F4 G5 (fun w6 S7 F8 G9 =>
  S7 = S ∧
  w6 = none ∧
  Ok (d - 1) MX2_planMore [vR 2, vR a1] S F8 G9 (fun w10 S11 F12 G13 =>
  S11 = S ∧
  w10 = none ∧
  Q none S F12 G13)))
theorem R_X2_plan_0 {d : Nat} {S : AS} {F : AF} {G : AG} {Q : AQ} {a1 : Nat} (hsh : ShC S) (hk1 : AtRect S a1) (h : V_X2_plan_0 d S F G Q a1) : Go d MX2_plan 0 [some (vR 2), some (vR a1)] [] S F G Q := by
  unfold V_X2_plan_0 at h
  refine go_aload_n (show decode cX2_plan 0 = .ok (.aload_n 0, 1) by decide +kernel) (by rfl) ?_
  refine go_getRc (show decode cX2_plan 1 = .ok (.getfield 12, 3) by decide +kernel) fl_X2_12 rfl (shc_k hsh 2 (by decide) (by decide)) (v := 3) (shc_r hsh 2 0 (by decide) (by decide) (by decide)) ?_
  refine go_getRc (show decode cX2_plan 4 = .ok (.getfield 155, 3) by decide +kernel) fl_X2_155 rfl (shc_k hsh 3 (by decide) (by decide)) (v := 6) (shc_r hsh 3 1 (by decide) (by decide) (by decide)) ?_
  refine go_aload_n (show decode cX2_plan 7 = .ok (.aload_n 0, 1) by decide +kernel) (by rfl) ?_
  refine go_getRc (show decode cX2_plan 8 = .ok (.getfield 12, 3) by decide +kernel) fl_X2_12 rfl (shc_k hsh 2 (by decide) (by decide)) (v := 3) (shc_r hsh 2 0 (by decide) (by decide) (by decide)) ?_
  refine go_getRc (show decode cX2_plan 11 = .ok (.getfield 90, 3) by decide +kernel) fl_X2_90 rfl (shc_k hsh 3 (by decide) (by decide)) (v := 4) (shc_r hsh 3 0 (by decide) (by decide) (by decide)) ?_
  obtain ⟨q1, h⟩ := h
  refine go_callV (d2 := d - 1) (M2 := MX1_copy) (n := 1) (ci := 1) (av := [vR 4]) (st := []) (show decode cX2_plan 14 = .ok (.invokevirtual 158, 3) by decide +kernel) ml_X2_158 mt_X1_copy min_X1_copy mse_X1_copy (by decide) (shc_k hsh 6 (by decide) (by decide)) rfl (Nat.le_of_ble_eq_true rfl) (by omega) (ok_mono h (fun w2 S3 F4 G5 h => ?_))
  obtain ⟨e8, h⟩ := h
  replace e8 := e8.symm; subst e8
  obtain ⟨e9, h⟩ := h
  subst e9
  show Go d MX2_plan 17 [some (vR 2), some (vR a1)] [] S F4 G5 Q
  refine go_aload_n (show decode cX2_plan 17 = .ok (.aload_n 0, 1) by decide +kernel) (by rfl) ?_
  refine go_getRc (show decode cX2_plan 18 = .ok (.getfield 18, 3) by decide +kernel) fl_X2_18 rfl (shc_k hsh 2 (by decide) (by decide)) (v := 10) (shc_r hsh 2 1 (by decide) (by decide) (by decide)) ?_
  refine go_getRc (show decode cX2_plan 21 = .ok (.getfield 155, 3) by decide +kernel) fl_X2_155 rfl (shc_k hsh 10 (by decide) (by decide)) (v := 13) (shc_r hsh 10 1 (by decide) (by decide) (by decide)) ?_
  refine go_aload_n (show decode cX2_plan 24 = .ok (.aload_n 0, 1) by decide +kernel) (by rfl) ?_
  refine go_getRc (show decode cX2_plan 25 = .ok (.getfield 18, 3) by decide +kernel) fl_X2_18 rfl (shc_k hsh 2 (by decide) (by decide)) (v := 10) (shc_r hsh 2 1 (by decide) (by decide) (by decide)) ?_
  refine go_getRc (show decode cX2_plan 28 = .ok (.getfield 90, 3) by decide +kernel) fl_X2_90 rfl (shc_k hsh 10 (by decide) (by decide)) (v := 11) (shc_r hsh 10 0 (by decide) (by decide) (by decide)) ?_
  refine go_callV (d2 := d - 1) (M2 := MX1_copy) (n := 1) (ci := 1) (av := [vR 11]) (st := []) (show decode cX2_plan 31 = .ok (.invokevirtual 158, 3) by decide +kernel) ml_X2_158 mt_X1_copy min_X1_copy mse_X1_copy (by decide) (shc_k hsh 13 (by decide) (by decide)) rfl (Nat.le_of_ble_eq_true rfl) (by omega) (ok_mono h (fun w6 S7 F8 G9 h => ?_))
  obtain ⟨e8, h⟩ := h
  replace e8 := e8.symm; subst e8
  obtain ⟨e9, h⟩ := h
  subst e9
  show Go d MX2_plan 34 [some (vR 2), some (vR a1)] [] S F8 G9 Q
  refine go_aload_n (show decode cX2_plan 34 = .ok (.aload_n 0, 1) by decide +kernel) (by rfl) ?_
  refine go_aload_n (show decode cX2_plan 35 = .ok (.aload_n 1, 1) by decide +kernel) (by rfl) ?_
  refine go_callV (d2 := d - 1) (M2 := MX2_planMore) (n := 1) (ci := 2) (av := [vR a1]) (st := []) (show decode cX2_plan 36 = .ok (.invokevirtual 162, 3) by decide +kernel) ml_X2_162 mt_X2_planMore min_X2_planMore mse_X2_planMore (by decide) (shc_k hsh 2 (by decide) (by decide)) rfl (Nat.le_of_ble_eq_true rfl) (by omega) (ok_mono h (fun w10 S11 F12 G13 h => ?_))
  obtain ⟨e8, h⟩ := h
  replace e8 := e8.symm; subst e8
  obtain ⟨e9, h⟩ := h
  subst e9
  show Go d MX2_plan 39 [some (vR 2), some (vR a1)] [] S F12 G13 Q
  exact go_vret (show decode cX2_plan 39 = .ok (.return_, 1) by decide +kernel) rfl h
def V_X2_planMore_0 (d : Nat) (S : AS) (F : AF) (G : AG) (Q : AQ) (a1 : Nat) : Prop :=
  (1 ≤ d) ∧
  Ok (d - 1) MX0_planSpan [vR 3, vI (F a1 0), vI (F a1 2)] S F G (fun w2 S3 F4 G5 =>
  S3 = S ∧
  w2 = none ∧
  Ok (d - 1) MX0_planSpan [vR 10, vI (F4 a1 1), vI (F4 a1 3)] S F4 G5 (fun w6 S7 F8 G9 =>
  S7 = S ∧
  w6 = none ∧
  Q none S F8 G9))
theorem R_X2_planMore_0 {d : Nat} {S : AS} {F : AF} {G : AG} {Q : AQ} {a1 : Nat} (hsh : ShC S) (hk1 : AtRect S a1) (h : V_X2_planMore_0 d S F G Q a1) : Go d MX2_planMore 0 [some (vR 2), some (vR a1)] [] S F G Q := by
  unfold V_X2_planMore_0 at h
  refine go_aload_n (show decode cX2_planMore 0 = .ok (.aload_n 0, 1) by decide +kernel) (by rfl) ?_
  refine go_getRc (show decode cX2_planMore 1 = .ok (.getfield 12, 3) by decide +kernel) fl_X2_12 rfl (shc_k hsh 2 (by decide) (by decide)) (v := 3) (shc_r hsh 2 0 (by decide) (by decide) (by decide)) ?_
  refine go_aload_n (show decode cX2_planMore 4 = .ok (.aload_n 1, 1) by decide +kernel) (by rfl) ?_
  refine go_getI (show decode cX2_planMore 5 = .ok (.getfield 74, 3) by decide +kernel) fl_X2_74 (Or.inl rfl) hk1 ?_
  refine go_aload_n (show decode cX2_planMore 8 = .ok (.aload_n 1, 1) by decide +kernel) (by rfl) ?_
  refine go_getI (show decode cX2_planMore 9 = .ok (.getfield 77, 3) by decide +kernel) fl_X2_77 (Or.inl rfl) hk1 ?_
  obtain ⟨q1, h⟩ := h
  refine go_callV (d2 := d - 1) (M2 := MX0_planSpan) (n := 2) (ci := 0) (av := [vI (F a1 0), vI (F a1 2)]) (st := []) (show decode cX2_planMore 12 = .ok (.invokevirtual 166, 3) by decide +kernel) ml_X2_166 mt_X0_planSpan min_X0_planSpan mse_X0_planSpan (by decide) (shc_k hsh 3 (by decide) (by decide)) rfl (Nat.le_of_ble_eq_true rfl) (by omega) (ok_mono h (fun w2 S3 F4 G5 h => ?_))
  obtain ⟨e8, h⟩ := h
  replace e8 := e8.symm; subst e8
  obtain ⟨e9, h⟩ := h
  subst e9
  show Go d MX2_planMore 15 [some (vR 2), some (vR a1)] [] S F4 G5 Q
  refine go_aload_n (show decode cX2_planMore 15 = .ok (.aload_n 0, 1) by decide +kernel) (by rfl) ?_
  refine go_getRc (show decode cX2_planMore 16 = .ok (.getfield 18, 3) by decide +kernel) fl_X2_18 rfl (shc_k hsh 2 (by decide) (by decide)) (v := 10) (shc_r hsh 2 1 (by decide) (by decide) (by decide)) ?_
  refine go_aload_n (show decode cX2_planMore 19 = .ok (.aload_n 1, 1) by decide +kernel) (by rfl) ?_
  refine go_getI (show decode cX2_planMore 20 = .ok (.getfield 80, 3) by decide +kernel) fl_X2_80 (Or.inl rfl) hk1 ?_
  refine go_aload_n (show decode cX2_planMore 23 = .ok (.aload_n 1, 1) by decide +kernel) (by rfl) ?_
  refine go_getI (show decode cX2_planMore 24 = .ok (.getfield 83, 3) by decide +kernel) fl_X2_83 (Or.inl rfl) hk1 ?_
  refine go_callV (d2 := d - 1) (M2 := MX0_planSpan) (n := 2) (ci := 0) (av := [vI (F4 a1 1), vI (F4 a1 3)]) (st := []) (show decode cX2_planMore 27 = .ok (.invokevirtual 166, 3) by decide +kernel) ml_X2_166 mt_X0_planSpan min_X0_planSpan mse_X0_planSpan (by decide) (shc_k hsh 10 (by decide) (by decide)) rfl (Nat.le_of_ble_eq_true rfl) (by omega) (ok_mono h (fun w6 S7 F8 G9 h => ?_))
  obtain ⟨e8, h⟩ := h
  replace e8 := e8.symm; subst e8
  obtain ⟨e9, h⟩ := h
  subst e9
  show Go d MX2_planMore 30 [some (vR 2), some (vR a1)] [] S F8 G9 Q
  exact go_vret (show decode cX2_planMore 30 = .ok (.return_, 1) by decide +kernel) rfl h
def V_X2_plansTooMany_0 (d : Nat) (S : AS) (F : AF) (G : AG) (Q : AQ)  : Prop :=
  (1 ≤ d) ∧
  ∃ z6 : Int, Pu (d - 1) MX0_plansTooMany [vR 3] S F G (some (vI z6)) ∧
  ((¬ z6 = 0) →
    Q (some (vI 1)) S F G) ∧
  ((z6 = 0) →
    ∃ z12 : Int, Pu (d - 1) MX0_plansTooMany [vR 10] S F G (some (vI z12)) ∧
    ((z12 = 0) →
      Q (some (vI 0)) S F G) ∧
    ((¬ z12 = 0) →
      Q (some (vI 1)) S F G))
theorem R_X2_plansTooMany_0 {d : Nat} {S : AS} {F : AF} {G : AG} {Q : AQ}  (hsh : ShC S) (h : V_X2_plansTooMany_0 d S F G Q ) : Go d MX2_plansTooMany 0 [some (vR 2)] [] S F G Q := by
  unfold V_X2_plansTooMany_0 at h
  refine go_aload_n (show decode cX2_plansTooMany 0 = .ok (.aload_n 0, 1) by decide +kernel) (by rfl) ?_
  refine go_getRc (show decode cX2_plansTooMany 1 = .ok (.getfield 12, 3) by decide +kernel) fl_X2_12 rfl (shc_k hsh 2 (by decide) (by decide)) (v := 3) (shc_r hsh 2 0 (by decide) (by decide) (by decide)) ?_
  obtain ⟨q1, h⟩ := h
  obtain ⟨z6, p7, h⟩ := h
  refine go_callV (d2 := d - 1) (M2 := MX0_plansTooMany) (n := 0) (ci := 0) (av := []) (st := []) (show decode cX2_plansTooMany 4 = .ok (.invokevirtual 170, 3) by decide +kernel) ml_X2_170 mt_X0_plansTooMany min_X0_plansTooMany mse_X0_plansTooMany (by decide) (shc_k hsh 3 (by decide) (by decide)) rfl (Nat.le_of_ble_eq_true rfl) (by omega) (ok_mono p7 (fun w2 S3 F4 G5 e9 => ?_))
  obtain ⟨e1, e2, e3, e4⟩ := e9
  subst e1
  replace e2 := e2.symm; subst e2
  replace e3 := e3.symm; subst e3
  replace e4 := e4.symm; subst e4
  show Go d MX2_plansTooMany 7 [some (vR 2)] [vI z6] S F G Q
  obtain ⟨ht, hf⟩ := h
  refine go_ifne (tgt := 20) (show decode cX2_plansTooMany 7 = .ok (.ifCond .ne 13, 3) by decide +kernel) (by decide) (fun hc => ?_) (fun hc => ?_)
  · have h := ht hc
    refine go_iconst (show decode cX2_plansTooMany 20 = .ok (.iconst 1, 1) by decide +kernel) (by decide) ?_
    refine go_goto (tgt := 25) (show decode cX2_plansTooMany 21 = .ok (.goto 4, 3) by decide +kernel) (by decide) ?_
    exact go_zret (show decode cX2_plansTooMany 25 = .ok (.ireturn, 1) by decide +kernel) rfl (by decide) h
  · have h := hf hc
    refine go_aload_n (show decode cX2_plansTooMany 10 = .ok (.aload_n 0, 1) by decide +kernel) (by rfl) ?_
    refine go_getRc (show decode cX2_plansTooMany 11 = .ok (.getfield 18, 3) by decide +kernel) fl_X2_18 rfl (shc_k hsh 2 (by decide) (by decide)) (v := 10) (shc_r hsh 2 1 (by decide) (by decide) (by decide)) ?_
    obtain ⟨z12, p13, h⟩ := h
    refine go_callV (d2 := d - 1) (M2 := MX0_plansTooMany) (n := 0) (ci := 0) (av := []) (st := []) (show decode cX2_plansTooMany 14 = .ok (.invokevirtual 170, 3) by decide +kernel) ml_X2_170 mt_X0_plansTooMany min_X0_plansTooMany mse_X0_plansTooMany (by decide) (shc_k hsh 10 (by decide) (by decide)) rfl (Nat.le_of_ble_eq_true rfl) (by omega) (ok_mono p13 (fun w8 S9 F10 G11 e9 => ?_))
    obtain ⟨e1, e2, e3, e4⟩ := e9
    subst e1
    replace e2 := e2.symm; subst e2
    replace e3 := e3.symm; subst e3
    replace e4 := e4.symm; subst e4
    show Go d MX2_plansTooMany 17 [some (vR 2)] [vI z12] S F G Q
    obtain ⟨ht, hf⟩ := h
    refine go_ifeq (tgt := 24) (show decode cX2_plansTooMany 17 = .ok (.ifCond .eq 7, 3) by decide +kernel) (by decide) (fun hc => ?_) (fun hc => ?_)
    · have h := ht hc
      refine go_iconst (show decode cX2_plansTooMany 24 = .ok (.iconst 0, 1) by decide +kernel) (by decide) ?_
      exact go_zret (show decode cX2_plansTooMany 25 = .ok (.ireturn, 1) by decide +kernel) rfl (by decide) h
    · have h := hf hc
      refine go_iconst (show decode cX2_plansTooMany 20 = .ok (.iconst 1, 1) by decide +kernel) (by decide) ?_
      refine go_goto (tgt := 25) (show decode cX2_plansTooMany 21 = .ok (.goto 4, 3) by decide +kernel) (by decide) ?_
      exact go_zret (show decode cX2_plansTooMany 25 = .ok (.ireturn, 1) by decide +kernel) rfl (by decide) h
def V_X2_startTrial_52 (d : Nat) (S : AS) (F : AF) (G : AG) (Q : AQ) (a1 : Int) (a2 : Int) (a3 : Int) (a4 : Int) : Prop :=
  ((F 6 1 ≤ a4) →
    (r32 (a2 + 1)) ∧
    Go d MX2_startTrial 16 [some (vR 2), some (vI a1), some (vI (a2 + 1)), none, none] [] S F G Q) ∧
  ((¬ F 6 1 ≤ a4) →
    (r32 (48 * a2)) ∧
    (r32 ((48 * a2) + a4)) ∧
    ((0 : Int) ≤ a4) ∧
    ((a4 : Int) < 48) ∧
    (r32 (a3 + (G 8 a4))) ∧
    ((0 : Int) ≤ a3 + (G 8 a4)) ∧
    ((a3 + (G 8 a4) : Int) < 6912) ∧
    ((0 : Int) ≤ (48 * a2) + a4) ∧
    (((48 * a2) + a4 : Int) < 2304) ∧
    ∀ G11 : AG, G11 = gu G 19 ((48 * a2) + a4) (G 18 (a3 + (G 8 a4))) →
    (r32 (a4 + 1)) ∧
    Go d MX2_startTrial 52 [some (vR 2), some (vI a1), some (vI a2), some (vI a3), some (vI (a4 + 1))] [] S F G11 Q)
theorem R_X2_startTrial_52 {d : Nat} {S : AS} {F : AF} {G : AG} {Q : AQ} {a1 : Int} {a2 : Int} {a3 : Int} {a4 : Int} (hsh : ShC S) (h : V_X2_startTrial_52 d S F G Q a1 a2 a3 a4) : Go d MX2_startTrial 52 [some (vR 2), some (vI a1), some (vI a2), some (vI a3), some (vI a4)] [] S F G Q := by
  unfold V_X2_startTrial_52 at h
  refine go_iload (show decode cX2_startTrial 52 = .ok (.iload 4, 2) by decide +kernel) (by rfl) ?_
  refine go_aload_n (show decode cX2_startTrial 54 = .ok (.aload_n 0, 1) by decide +kernel) (by rfl) ?_
  refine go_getRc (show decode cX2_startTrial 55 = .ok (.getfield 12, 3) by decide +kernel) fl_X2_12 rfl (shc_k hsh 2 (by decide) (by decide)) (v := 3) (shc_r hsh 2 0 (by decide) (by decide) (by decide)) ?_
  refine go_getRc (show decode cX2_startTrial 58 = .ok (.getfield 155, 3) by decide +kernel) fl_X2_155 rfl (shc_k hsh 3 (by decide) (by decide)) (v := 6) (shc_r hsh 3 1 (by decide) (by decide) (by decide)) ?_
  refine go_getI (show decode cX2_startTrial 61 = .ok (.getfield 197, 3) by decide +kernel) fl_X2_197 (Or.inl rfl) (shc_k hsh 6 (by decide) (by decide)) ?_
  obtain ⟨ht, hf⟩ := h
  refine go_icmpge (tgt := 102) (show decode cX2_startTrial 64 = .ok (.if_icmp .ge 38, 3) by decide +kernel) (by decide) (fun hc => ?_) (fun hc => ?_)
  · have h := ht hc
    obtain ⟨q1, h⟩ := h
    refine go_iinc (show decode cX2_startTrial 102 = .ok (.iinc 2 1, 3) by decide +kernel) (by rfl) q1 (by decide) ?_
    show Go d MX2_startTrial 105 [some (vR 2), some (vI a1), some (vI (a2 + 1)), some (vI a3), some (vI a4)] [] S F G Q
    refine go_goto (tgt := 16) (show decode cX2_startTrial 105 = .ok (.goto (-89), 3) by decide +kernel) (by decide) ?_
    refine go_clr 3 ?_
    refine go_clr 4 ?_
    exact h
  · have h := hf hc
    refine go_aload_n (show decode cX2_startTrial 67 = .ok (.aload_n 0, 1) by decide +kernel) (by rfl) ?_
    refine go_getRc (show decode cX2_startTrial 68 = .ok (.getfield 32, 3) by decide +kernel) fl_X2_32 rfl (shc_k hsh 2 (by decide) (by decide)) (v := 19) (shc_r hsh 2 4 (by decide) (by decide) (by decide)) ?_
    refine go_bipush (show decode cX2_startTrial 71 = .ok (.bipush 48, 2) by decide +kernel) (by decide) ?_
    refine go_iload_n (show decode cX2_startTrial 73 = .ok (.iload_n 2, 1) by decide +kernel) (by rfl) ?_
    obtain ⟨q2, h⟩ := h
    refine go_imul (show decode cX2_startTrial 74 = .ok (.imul, 1) by decide +kernel) q2 ?_
    refine go_iload (show decode cX2_startTrial 75 = .ok (.iload 4, 2) by decide +kernel) (by rfl) ?_
    obtain ⟨q3, h⟩ := h
    refine go_iadd (show decode cX2_startTrial 77 = .ok (.iadd, 1) by decide +kernel) q3 ?_
    refine go_aload_n (show decode cX2_startTrial 78 = .ok (.aload_n 0, 1) by decide +kernel) (by rfl) ?_
    refine go_getRc (show decode cX2_startTrial 79 = .ok (.getfield 28, 3) by decide +kernel) fl_X2_28 rfl (shc_k hsh 2 (by decide) (by decide)) (v := 18) (shc_r hsh 2 3 (by decide) (by decide) (by decide)) ?_
    refine go_iload_n (show decode cX2_startTrial 82 = .ok (.iload_n 3, 1) by decide +kernel) (by rfl) ?_
    refine go_aload_n (show decode cX2_startTrial 83 = .ok (.aload_n 0, 1) by decide +kernel) (by rfl) ?_
    refine go_getRc (show decode cX2_startTrial 84 = .ok (.getfield 12, 3) by decide +kernel) fl_X2_12 rfl (shc_k hsh 2 (by decide) (by decide)) (v := 3) (shc_r hsh 2 0 (by decide) (by decide) (by decide)) ?_
    refine go_getRc (show decode cX2_startTrial 87 = .ok (.getfield 200, 3) by decide +kernel) fl_X2_200 rfl (shc_k hsh 3 (by decide) (by decide)) (v := 8) (shc_r hsh 3 2 (by decide) (by decide) (by decide)) ?_
    refine go_iload (show decode cX2_startTrial 90 = .ok (.iload 4, 2) by decide +kernel) (by rfl) ?_
    obtain ⟨q4, h⟩ := h
    obtain ⟨q5, h⟩ := h
    refine go_iaload (show decode cX2_startTrial 92 = .ok (.iaload, 1) by decide +kernel) (shc_k hsh 8 (by decide) (by decide)) q4 (lt_n (m := 48) q5 (shc_n hsh 8 (by decide) (by decide))) ?_
    obtain ⟨q6, h⟩ := h
    refine go_iadd (show decode cX2_startTrial 93 = .ok (.iadd, 1) by decide +kernel) q6 ?_
    obtain ⟨q7, h⟩ := h
    obtain ⟨q8, h⟩ := h
    refine go_laload (show decode cX2_startTrial 94 = .ok (.laload, 1) by decide +kernel) (shc_k hsh 18 (by decide) (by decide)) q7 (lt_n (m := 6912) q8 (shc_n hsh 18 (by decide) (by decide))) ?_
    obtain ⟨q9, h⟩ := h
    obtain ⟨q10, h⟩ := h
    refine go_lastore (show decode cX2_startTrial 95 = .ok (.lastore, 1) by decide +kernel) (shc_k hsh 19 (by decide) (by decide)) q9 (lt_n (m := 2304) q10 (shc_n hsh 19 (by decide) (by decide)))  ?_
    obtain ⟨G11, G11e⟩ : ∃ G11 : AG, G11 = gu G 19 ((48 * a2) + a4) (G 18 (a3 + (G 8 a4))) := ⟨_, rfl⟩
    have h := h G11 G11e
    rw [← G11e]
    obtain ⟨q12, h⟩ := h
    refine go_iinc (show decode cX2_startTrial 96 = .ok (.iinc 4 1, 3) by decide +kernel) (by rfl) q12 (by decide) ?_
    show Go d MX2_startTrial 99 [some (vR 2), some (vI a1), some (vI a2), some (vI a3), some (vI (a4 + 1))] [] S F G11 Q
    refine go_goto (tgt := 52) (show decode cX2_startTrial 99 = .ok (.goto (-47), 3) by decide +kernel) (by decide) ?_
    exact h
def V_X2_startTrial_16 (d : Nat) (S : AS) (F : AF) (G : AG) (Q : AQ) (a1 : Int) (a2 : Int) : Prop :=
  ((F 13 1 ≤ a2) →
    Q none S F G) ∧
  ((¬ F 13 1 ≤ a2) →
    (r32 (a1 * 2304)) ∧
    ((0 : Int) ≤ a2) ∧
    ((a2 : Int) < 48) ∧
    (r32 (48 * (G 15 a2))) ∧
    (r32 ((a1 * 2304) + (48 * (G 15 a2)))) ∧
    ∀ x6 : Int, x6 = (a1 * 2304) + (48 * (G 15 a2)) →
    Go d MX2_startTrial 52 [some (vR 2), some (vI a1), some (vI a2), some (vI x6), some (vI 0)] [] S F G Q)
theorem R_X2_startTrial_16 {d : Nat} {S : AS} {F : AF} {G : AG} {Q : AQ} {a1 : Int} {a2 : Int} (hsh : ShC S) (h : V_X2_startTrial_16 d S F G Q a1 a2) : Go d MX2_startTrial 16 [some (vR 2), some (vI a1), some (vI a2), none, none] [] S F G Q := by
  unfold V_X2_startTrial_16 at h
  refine go_iload_n (show decode cX2_startTrial 16 = .ok (.iload_n 2, 1) by decide +kernel) (by rfl) ?_
  refine go_aload_n (show decode cX2_startTrial 17 = .ok (.aload_n 0, 1) by decide +kernel) (by rfl) ?_
  refine go_getRc (show decode cX2_startTrial 18 = .ok (.getfield 18, 3) by decide +kernel) fl_X2_18 rfl (shc_k hsh 2 (by decide) (by decide)) (v := 10) (shc_r hsh 2 1 (by decide) (by decide) (by decide)) ?_
  refine go_getRc (show decode cX2_startTrial 21 = .ok (.getfield 155, 3) by decide +kernel) fl_X2_155 rfl (shc_k hsh 10 (by decide) (by decide)) (v := 13) (shc_r hsh 10 1 (by decide) (by decide) (by decide)) ?_
  refine go_getI (show decode cX2_startTrial 24 = .ok (.getfield 197, 3) by decide +kernel) fl_X2_197 (Or.inl rfl) (shc_k hsh 13 (by decide) (by decide)) ?_
  obtain ⟨ht, hf⟩ := h
  refine go_icmpge (tgt := 108) (show decode cX2_startTrial 27 = .ok (.if_icmp .ge 81, 3) by decide +kernel) (by decide) (fun hc => ?_) (fun hc => ?_)
  · have h := ht hc
    exact go_vret (show decode cX2_startTrial 108 = .ok (.return_, 1) by decide +kernel) rfl h
  · have h := hf hc
    refine go_iload_n (show decode cX2_startTrial 30 = .ok (.iload_n 1, 1) by decide +kernel) (by rfl) ?_
    refine go_sipush (show decode cX2_startTrial 31 = .ok (.sipush 2304, 3) by decide +kernel) (by decide) ?_
    obtain ⟨q1, h⟩ := h
    refine go_imul (show decode cX2_startTrial 34 = .ok (.imul, 1) by decide +kernel) q1 ?_
    refine go_bipush (show decode cX2_startTrial 35 = .ok (.bipush 48, 2) by decide +kernel) (by decide) ?_
    refine go_aload_n (show decode cX2_startTrial 37 = .ok (.aload_n 0, 1) by decide +kernel) (by rfl) ?_
    refine go_getRc (show decode cX2_startTrial 38 = .ok (.getfield 18, 3) by decide +kernel) fl_X2_18 rfl (shc_k hsh 2 (by decide) (by decide)) (v := 10) (shc_r hsh 2 1 (by decide) (by decide) (by decide)) ?_
    refine go_getRc (show decode cX2_startTrial 41 = .ok (.getfield 200, 3) by decide +kernel) fl_X2_200 rfl (shc_k hsh 10 (by decide) (by decide)) (v := 15) (shc_r hsh 10 2 (by decide) (by decide) (by decide)) ?_
    refine go_iload_n (show decode cX2_startTrial 44 = .ok (.iload_n 2, 1) by decide +kernel) (by rfl) ?_
    obtain ⟨q2, h⟩ := h
    obtain ⟨q3, h⟩ := h
    refine go_iaload (show decode cX2_startTrial 45 = .ok (.iaload, 1) by decide +kernel) (shc_k hsh 15 (by decide) (by decide)) q2 (lt_n (m := 48) q3 (shc_n hsh 15 (by decide) (by decide))) ?_
    obtain ⟨q4, h⟩ := h
    refine go_imul (show decode cX2_startTrial 46 = .ok (.imul, 1) by decide +kernel) q4 ?_
    obtain ⟨q5, h⟩ := h
    refine go_iadd (show decode cX2_startTrial 47 = .ok (.iadd, 1) by decide +kernel) q5 ?_
    obtain ⟨x6, x6e⟩ : ∃ x6 : Int, x6 = (a1 * 2304) + (48 * (G 15 a2)) := ⟨_, rfl⟩
    have h := h x6 x6e
    rw [← x6e]
    refine go_istore_n (show decode cX2_startTrial 48 = .ok (.istore_n 3, 1) by decide +kernel) (by decide) ?_
    show Go d MX2_startTrial 49 [some (vR 2), some (vI a1), some (vI a2), some (vI x6), none] [] S F G Q
    refine go_iconst (show decode cX2_startTrial 49 = .ok (.iconst 0, 1) by decide +kernel) (by decide) ?_
    refine go_istore (show decode cX2_startTrial 50 = .ok (.istore 4, 2) by decide +kernel) (by decide) ?_
    show Go d MX2_startTrial 52 [some (vR 2), some (vI a1), some (vI a2), some (vI x6), some (vI 0)] [] S F G Q
    exact h
def V_X2_startTrial_0 (d : Nat) (S : AS) (F : AF) (G : AG) (Q : AQ) (a1 : Int) : Prop :=
  (1 ≤ d) ∧
  Ok (d - 1) MX0_traceOrigins [vR 3] S F G (fun w2 S3 F4 G5 =>
  S3 = S ∧
  w2 = none ∧
  Ok (d - 1) MX0_traceOrigins [vR 10] S F4 G5 (fun w6 S7 F8 G9 =>
  S7 = S ∧
  w6 = none ∧
  Go d MX2_startTrial 16 [some (vR 2), some (vI a1), some (vI 0), none, none] [] S F8 G9 Q))
theorem R_X2_startTrial_0 {d : Nat} {S : AS} {F : AF} {G : AG} {Q : AQ} {a1 : Int} (hsh : ShC S) (h : V_X2_startTrial_0 d S F G Q a1) : Go d MX2_startTrial 0 [some (vR 2), some (vI a1), none, none, none] [] S F G Q := by
  unfold V_X2_startTrial_0 at h
  refine go_aload_n (show decode cX2_startTrial 0 = .ok (.aload_n 0, 1) by decide +kernel) (by rfl) ?_
  refine go_getRc (show decode cX2_startTrial 1 = .ok (.getfield 12, 3) by decide +kernel) fl_X2_12 rfl (shc_k hsh 2 (by decide) (by decide)) (v := 3) (shc_r hsh 2 0 (by decide) (by decide) (by decide)) ?_
  obtain ⟨q1, h⟩ := h
  refine go_callV (d2 := d - 1) (M2 := MX0_traceOrigins) (n := 0) (ci := 0) (av := []) (st := []) (show decode cX2_startTrial 4 = .ok (.invokevirtual 194, 3) by decide +kernel) ml_X2_194 mt_X0_traceOrigins min_X0_traceOrigins mse_X0_traceOrigins (by decide) (shc_k hsh 3 (by decide) (by decide)) rfl (Nat.le_of_ble_eq_true rfl) (by omega) (ok_mono h (fun w2 S3 F4 G5 h => ?_))
  obtain ⟨e8, h⟩ := h
  replace e8 := e8.symm; subst e8
  obtain ⟨e9, h⟩ := h
  subst e9
  show Go d MX2_startTrial 7 [some (vR 2), some (vI a1), none, none, none] [] S F4 G5 Q
  refine go_aload_n (show decode cX2_startTrial 7 = .ok (.aload_n 0, 1) by decide +kernel) (by rfl) ?_
  refine go_getRc (show decode cX2_startTrial 8 = .ok (.getfield 18, 3) by decide +kernel) fl_X2_18 rfl (shc_k hsh 2 (by decide) (by decide)) (v := 10) (shc_r hsh 2 1 (by decide) (by decide) (by decide)) ?_
  refine go_callV (d2 := d - 1) (M2 := MX0_traceOrigins) (n := 0) (ci := 0) (av := []) (st := []) (show decode cX2_startTrial 11 = .ok (.invokevirtual 194, 3) by decide +kernel) ml_X2_194 mt_X0_traceOrigins min_X0_traceOrigins mse_X0_traceOrigins (by decide) (shc_k hsh 10 (by decide) (by decide)) rfl (Nat.le_of_ble_eq_true rfl) (by omega) (ok_mono h (fun w6 S7 F8 G9 h => ?_))
  obtain ⟨e8, h⟩ := h
  replace e8 := e8.symm; subst e8
  obtain ⟨e9, h⟩ := h
  subst e9
  show Go d MX2_startTrial 14 [some (vR 2), some (vI a1), none, none, none] [] S F8 G9 Q
  refine go_iconst (show decode cX2_startTrial 14 = .ok (.iconst 0, 1) by decide +kernel) (by decide) ?_
  refine go_istore_n (show decode cX2_startTrial 15 = .ok (.istore_n 2, 1) by decide +kernel) (by decide) ?_
  show Go d MX2_startTrial 16 [some (vR 2), some (vI a1), some (vI 0), none, none] [] S F8 G9 Q
  exact h
def V_X2_raise_71 (d : Nat) (S : AS) (F : AF) (G : AG) (Q : AQ) (a1 : Nat) (a2 : Int) (a4 : Int) (a5 : Int) (a6 : Int) (a7 : Int) : Prop :=
  ((a4 < a7) →
    (r32 (a6 + 1)) ∧
    Go d MX2_raise 48 [some (vR 2), some (vR a1), some (vJ a2), none, some (vI a4), some (vI a5), some (vI (a6 + 1)), none] [] S F G Q) ∧
  ((¬ a4 < a7) →
    (r32 (48 * a6)) ∧
    (r32 ((48 * a6) + a7)) ∧
    ((0 : Int) ≤ (48 * a6) + a7) ∧
    (((48 * a6) + a7 : Int) < 2304) ∧
    (r64 ((G 19 ((48 * a6) + a7)) + a2)) ∧
    ∀ G7 : AG, G7 = gu G 19 ((48 * a6) + a7) ((G 19 ((48 * a6) + a7)) + a2) →
    (r32 (a7 + 1)) ∧
    Go d MX2_raise 71 [some (vR 2), some (vR a1), some (vJ a2), none, some (vI a4), some (vI a5), some (vI a6), some (vI (a7 + 1))] [] S F G7 Q)
theorem R_X2_raise_71 {d : Nat} {S : AS} {F : AF} {G : AG} {Q : AQ} {a1 : Nat} {a2 : Int} {a4 : Int} {a5 : Int} {a6 : Int} {a7 : Int} (hsh : ShC S) (hk1 : AtRect S a1) (h : V_X2_raise_71 d S F G Q a1 a2 a4 a5 a6 a7) : Go d MX2_raise 71 [some (vR 2), some (vR a1), some (vJ a2), none, some (vI a4), some (vI a5), some (vI a6), some (vI a7)] [] S F G Q := by
  unfold V_X2_raise_71 at h
  refine go_iload (show decode cX2_raise 71 = .ok (.iload 7, 2) by decide +kernel) (by rfl) ?_
  refine go_iload (show decode cX2_raise 73 = .ok (.iload 4, 2) by decide +kernel) (by rfl) ?_
  obtain ⟨ht, hf⟩ := h
  refine go_icmpgt (tgt := 101) (show decode cX2_raise 75 = .ok (.if_icmp .gt 26, 3) by decide +kernel) (by decide) (fun hc => ?_) (fun hc => ?_)
  · have h := ht hc
    obtain ⟨q1, h⟩ := h
    refine go_iinc (show decode cX2_raise 101 = .ok (.iinc 6 1, 3) by decide +kernel) (by rfl) q1 (by decide) ?_
    show Go d MX2_raise 104 [some (vR 2), some (vR a1), some (vJ a2), none, some (vI a4), some (vI a5), some (vI (a6 + 1)), some (vI a7)] [] S F G Q
    refine go_goto (tgt := 48) (show decode cX2_raise 104 = .ok (.goto (-56), 3) by decide +kernel) (by decide) ?_
    refine go_clr 7 ?_
    exact h
  · have h := hf hc
    refine go_aload_n (show decode cX2_raise 78 = .ok (.aload_n 0, 1) by decide +kernel) (by rfl) ?_
    refine go_getRc (show decode cX2_raise 79 = .ok (.getfield 32, 3) by decide +kernel) fl_X2_32 rfl (shc_k hsh 2 (by decide) (by decide)) (v := 19) (shc_r hsh 2 4 (by decide) (by decide) (by decide)) ?_
    refine go_bipush (show decode cX2_raise 82 = .ok (.bipush 48, 2) by decide +kernel) (by decide) ?_
    refine go_iload (show decode cX2_raise 84 = .ok (.iload 6, 2) by decide +kernel) (by rfl) ?_
    obtain ⟨q2, h⟩ := h
    refine go_imul (show decode cX2_raise 86 = .ok (.imul, 1) by decide +kernel) q2 ?_
    refine go_iload (show decode cX2_raise 87 = .ok (.iload 7, 2) by decide +kernel) (by rfl) ?_
    obtain ⟨q3, h⟩ := h
    refine go_iadd (show decode cX2_raise 89 = .ok (.iadd, 1) by decide +kernel) q3 ?_
    refine go_dup2 (show decode cX2_raise 90 = .ok (.dup2, 1) by decide +kernel) ?_
    obtain ⟨q4, h⟩ := h
    obtain ⟨q5, h⟩ := h
    refine go_laload (show decode cX2_raise 91 = .ok (.laload, 1) by decide +kernel) (shc_k hsh 19 (by decide) (by decide)) q4 (lt_n (m := 2304) q5 (shc_n hsh 19 (by decide) (by decide))) ?_
    refine go_lload_n (show decode cX2_raise 92 = .ok (.lload_n 2, 1) by decide +kernel) (by rfl) ?_
    obtain ⟨q6, h⟩ := h
    refine go_ladd (show decode cX2_raise 93 = .ok (.ladd, 1) by decide +kernel) q6 ?_
    refine go_lastore (show decode cX2_raise 94 = .ok (.lastore, 1) by decide +kernel) (shc_k hsh 19 (by decide) (by decide)) q4 (lt_n (m := 2304) q5 (shc_n hsh 19 (by decide) (by decide)))  ?_
    obtain ⟨G7, G7e⟩ : ∃ G7 : AG, G7 = gu G 19 ((48 * a6) + a7) ((G 19 ((48 * a6) + a7)) + a2) := ⟨_, rfl⟩
    have h := h G7 G7e
    rw [← G7e]
    obtain ⟨q8, h⟩ := h
    refine go_iinc (show decode cX2_raise 95 = .ok (.iinc 7 1, 3) by decide +kernel) (by rfl) q8 (by decide) ?_
    show Go d MX2_raise 98 [some (vR 2), some (vR a1), some (vJ a2), none, some (vI a4), some (vI a5), some (vI a6), some (vI (a7 + 1))] [] S F G7 Q
    refine go_goto (tgt := 71) (show decode cX2_raise 98 = .ok (.goto (-27), 3) by decide +kernel) (by decide) ?_
    exact h
def V_X2_raise_48 (d : Nat) (S : AS) (F : AF) (G : AG) (Q : AQ) (a1 : Nat) (a2 : Int) (a4 : Int) (a5 : Int) (a6 : Int) : Prop :=
  ((a5 < a6) →
    Q none S F G) ∧
  ((¬ a5 < a6) →
    (1 ≤ d) ∧
    ∃ z6 : Int, Pu (d - 1) MX1_bandOf [vR 6, vI (F a1 0)] S F G (some (vI z6)) ∧
    Go d MX2_raise 71 [some (vR 2), some (vR a1), some (vJ a2), none, some (vI a4), some (vI a5), some (vI a6), some (vI z6)] [] S F G Q)
theorem R_X2_raise_48 {d : Nat} {S : AS} {F : AF} {G : AG} {Q : AQ} {a1 : Nat} {a2 : Int} {a4 : Int} {a5 : Int} {a6 : Int} (hsh : ShC S) (hk1 : AtRect S a1) (h : V_X2_raise_48 d S F G Q a1 a2 a4 a5 a6) : Go d MX2_raise 48 [some (vR 2), some (vR a1), some (vJ a2), none, some (vI a4), some (vI a5), some (vI a6), none] [] S F G Q := by
  unfold V_X2_raise_48 at h
  refine go_iload (show decode cX2_raise 48 = .ok (.iload 6, 2) by decide +kernel) (by rfl) ?_
  refine go_iload (show decode cX2_raise 50 = .ok (.iload 5, 2) by decide +kernel) (by rfl) ?_
  obtain ⟨ht, hf⟩ := h
  refine go_icmpgt (tgt := 107) (show decode cX2_raise 52 = .ok (.if_icmp .gt 55, 3) by decide +kernel) (by decide) (fun hc => ?_) (fun hc => ?_)
  · have h := ht hc
    exact go_vret (show decode cX2_raise 107 = .ok (.return_, 1) by decide +kernel) rfl h
  · have h := hf hc
    refine go_aload_n (show decode cX2_raise 55 = .ok (.aload_n 0, 1) by decide +kernel) (by rfl) ?_
    refine go_getRc (show decode cX2_raise 56 = .ok (.getfield 12, 3) by decide +kernel) fl_X2_12 rfl (shc_k hsh 2 (by decide) (by decide)) (v := 3) (shc_r hsh 2 0 (by decide) (by decide) (by decide)) ?_
    refine go_getRc (show decode cX2_raise 59 = .ok (.getfield 155, 3) by decide +kernel) fl_X2_155 rfl (shc_k hsh 3 (by decide) (by decide)) (v := 6) (shc_r hsh 3 1 (by decide) (by decide) (by decide)) ?_
    refine go_aload_n (show decode cX2_raise 62 = .ok (.aload_n 1, 1) by decide +kernel) (by rfl) ?_
    refine go_getI (show decode cX2_raise 63 = .ok (.getfield 74, 3) by decide +kernel) fl_X2_74 (Or.inl rfl) hk1 ?_
    obtain ⟨q1, h⟩ := h
    obtain ⟨z6, p7, h⟩ := h
    refine go_callV (d2 := d - 1) (M2 := MX1_bandOf) (n := 1) (ci := 1) (av := [vI (F a1 0)]) (st := []) (show decode cX2_raise 66 = .ok (.invokevirtual 99, 3) by decide +kernel) ml_X2_99 mt_X1_bandOf min_X1_bandOf mse_X1_bandOf (by decide) (shc_k hsh 6 (by decide) (by decide)) rfl (Nat.le_of_ble_eq_true rfl) (by omega) (ok_mono p7 (fun w2 S3 F4 G5 e9 => ?_))
    obtain ⟨e1, e2, e3, e4⟩ := e9
    subst e1
    replace e2 := e2.symm; subst e2
    replace e3 := e3.symm; subst e3
    replace e4 := e4.symm; subst e4
    show Go d MX2_raise 69 [some (vR 2), some (vR a1), some (vJ a2), none, some (vI a4), some (vI a5), some (vI a6), none] [vI z6] S F G Q
    refine go_istore (show decode cX2_raise 69 = .ok (.istore 7, 2) by decide +kernel) (by decide) ?_
    show Go d MX2_raise 71 [some (vR 2), some (vR a1), some (vJ a2), none, some (vI a4), some (vI a5), some (vI a6), some (vI z6)] [] S F G Q
    exact h
def V_X2_raise_0 (d : Nat) (S : AS) (F : AF) (G : AG) (Q : AQ) (a1 : Nat) (a2 : Int) : Prop :=
  (1 ≤ d) ∧
  ∃ z6 : Int, Pu (d - 1) MX1_bandOf [vR 6, vI (F a1 2)] S F G (some (vI z6)) ∧
  ∃ z12 : Int, Pu (d - 1) MX1_bandOf [vR 13, vI (F a1 3)] S F G (some (vI z12)) ∧
  ∃ z18 : Int, Pu (d - 1) MX1_bandOf [vR 13, vI (F a1 1)] S F G (some (vI z18)) ∧
  Go d MX2_raise 48 [some (vR 2), some (vR a1), some (vJ a2), none, some (vI z6), some (vI z12), some (vI z18), none] [] S F G Q
theorem R_X2_raise_0 {d : Nat} {S : AS} {F : AF} {G : AG} {Q : AQ} {a1 : Nat} {a2 : Int} (hsh : ShC S) (hk1 : AtRect S a1) (h : V_X2_raise_0 d S F G Q a1 a2) : Go d MX2_raise 0 [some (vR 2), some (vR a1), some (vJ a2), none, none, none, none, none] [] S F G Q := by
  unfold V_X2_raise_0 at h
  refine go_aload_n (show decode cX2_raise 0 = .ok (.aload_n 0, 1) by decide +kernel) (by rfl) ?_
  refine go_getRc (show decode cX2_raise 1 = .ok (.getfield 12, 3) by decide +kernel) fl_X2_12 rfl (shc_k hsh 2 (by decide) (by decide)) (v := 3) (shc_r hsh 2 0 (by decide) (by decide) (by decide)) ?_
  refine go_getRc (show decode cX2_raise 4 = .ok (.getfield 155, 3) by decide +kernel) fl_X2_155 rfl (shc_k hsh 3 (by decide) (by decide)) (v := 6) (shc_r hsh 3 1 (by decide) (by decide) (by decide)) ?_
  refine go_aload_n (show decode cX2_raise 7 = .ok (.aload_n 1, 1) by decide +kernel) (by rfl) ?_
  refine go_getI (show decode cX2_raise 8 = .ok (.getfield 77, 3) by decide +kernel) fl_X2_77 (Or.inl rfl) hk1 ?_
  obtain ⟨q1, h⟩ := h
  obtain ⟨z6, p7, h⟩ := h
  refine go_callV (d2 := d - 1) (M2 := MX1_bandOf) (n := 1) (ci := 1) (av := [vI (F a1 2)]) (st := []) (show decode cX2_raise 11 = .ok (.invokevirtual 99, 3) by decide +kernel) ml_X2_99 mt_X1_bandOf min_X1_bandOf mse_X1_bandOf (by decide) (shc_k hsh 6 (by decide) (by decide)) rfl (Nat.le_of_ble_eq_true rfl) (by omega) (ok_mono p7 (fun w2 S3 F4 G5 e9 => ?_))
  obtain ⟨e1, e2, e3, e4⟩ := e9
  subst e1
  replace e2 := e2.symm; subst e2
  replace e3 := e3.symm; subst e3
  replace e4 := e4.symm; subst e4
  show Go d MX2_raise 14 [some (vR 2), some (vR a1), some (vJ a2), none, none, none, none, none] [vI z6] S F G Q
  refine go_istore (show decode cX2_raise 14 = .ok (.istore 4, 2) by decide +kernel) (by decide) ?_
  show Go d MX2_raise 16 [some (vR 2), some (vR a1), some (vJ a2), none, some (vI z6), none, none, none] [] S F G Q
  refine go_aload_n (show decode cX2_raise 16 = .ok (.aload_n 0, 1) by decide +kernel) (by rfl) ?_
  refine go_getRc (show decode cX2_raise 17 = .ok (.getfield 18, 3) by decide +kernel) fl_X2_18 rfl (shc_k hsh 2 (by decide) (by decide)) (v := 10) (shc_r hsh 2 1 (by decide) (by decide) (by decide)) ?_
  refine go_getRc (show decode cX2_raise 20 = .ok (.getfield 155, 3) by decide +kernel) fl_X2_155 rfl (shc_k hsh 10 (by decide) (by decide)) (v := 13) (shc_r hsh 10 1 (by decide) (by decide) (by decide)) ?_
  refine go_aload_n (show decode cX2_raise 23 = .ok (.aload_n 1, 1) by decide +kernel) (by rfl) ?_
  refine go_getI (show decode cX2_raise 24 = .ok (.getfield 83, 3) by decide +kernel) fl_X2_83 (Or.inl rfl) hk1 ?_
  obtain ⟨z12, p13, h⟩ := h
  refine go_callV (d2 := d - 1) (M2 := MX1_bandOf) (n := 1) (ci := 1) (av := [vI (F a1 3)]) (st := []) (show decode cX2_raise 27 = .ok (.invokevirtual 99, 3) by decide +kernel) ml_X2_99 mt_X1_bandOf min_X1_bandOf mse_X1_bandOf (by decide) (shc_k hsh 13 (by decide) (by decide)) rfl (Nat.le_of_ble_eq_true rfl) (by omega) (ok_mono p13 (fun w8 S9 F10 G11 e9 => ?_))
  obtain ⟨e1, e2, e3, e4⟩ := e9
  subst e1
  replace e2 := e2.symm; subst e2
  replace e3 := e3.symm; subst e3
  replace e4 := e4.symm; subst e4
  show Go d MX2_raise 30 [some (vR 2), some (vR a1), some (vJ a2), none, some (vI z6), none, none, none] [vI z12] S F G Q
  refine go_istore (show decode cX2_raise 30 = .ok (.istore 5, 2) by decide +kernel) (by decide) ?_
  show Go d MX2_raise 32 [some (vR 2), some (vR a1), some (vJ a2), none, some (vI z6), some (vI z12), none, none] [] S F G Q
  refine go_aload_n (show decode cX2_raise 32 = .ok (.aload_n 0, 1) by decide +kernel) (by rfl) ?_
  refine go_getRc (show decode cX2_raise 33 = .ok (.getfield 18, 3) by decide +kernel) fl_X2_18 rfl (shc_k hsh 2 (by decide) (by decide)) (v := 10) (shc_r hsh 2 1 (by decide) (by decide) (by decide)) ?_
  refine go_getRc (show decode cX2_raise 36 = .ok (.getfield 155, 3) by decide +kernel) fl_X2_155 rfl (shc_k hsh 10 (by decide) (by decide)) (v := 13) (shc_r hsh 10 1 (by decide) (by decide) (by decide)) ?_
  refine go_aload_n (show decode cX2_raise 39 = .ok (.aload_n 1, 1) by decide +kernel) (by rfl) ?_
  refine go_getI (show decode cX2_raise 40 = .ok (.getfield 80, 3) by decide +kernel) fl_X2_80 (Or.inl rfl) hk1 ?_
  obtain ⟨z18, p19, h⟩ := h
  refine go_callV (d2 := d - 1) (M2 := MX1_bandOf) (n := 1) (ci := 1) (av := [vI (F a1 1)]) (st := []) (show decode cX2_raise 43 = .ok (.invokevirtual 99, 3) by decide +kernel) ml_X2_99 mt_X1_bandOf min_X1_bandOf mse_X1_bandOf (by decide) (shc_k hsh 13 (by decide) (by decide)) rfl (Nat.le_of_ble_eq_true rfl) (by omega) (ok_mono p19 (fun w14 S15 F16 G17 e9 => ?_))
  obtain ⟨e1, e2, e3, e4⟩ := e9
  subst e1
  replace e2 := e2.symm; subst e2
  replace e3 := e3.symm; subst e3
  replace e4 := e4.symm; subst e4
  show Go d MX2_raise 46 [some (vR 2), some (vR a1), some (vJ a2), none, some (vI z6), some (vI z12), none, none] [vI z18] S F G Q
  refine go_istore (show decode cX2_raise 46 = .ok (.istore 6, 2) by decide +kernel) (by decide) ?_
  show Go d MX2_raise 48 [some (vR 2), some (vR a1), some (vJ a2), none, some (vI z6), some (vI z12), some (vI z18), none] [] S F G Q
  exact h
def V_X2_adopt_62 (d : Nat) (S : AS) (F : AF) (G : AG) (Q : AQ) (a1 : Int) : Prop :=
  (1 ≤ d) ∧
  Ok (d - 1) MX0_adopt [vR 3] S F G (fun w2 S3 F4 G5 =>
  S3 = S ∧
  w2 = none ∧
  Ok (d - 1) MX0_adopt [vR 10] S F4 G5 (fun w6 S7 F8 G9 =>
  S7 = S ∧
  w6 = none ∧
  (r32 (a1 * 2304)) ∧
  ((0 : Int) ≤ a1 * 2304) ∧
  ((0 + 2304 : Int) ≤ 2304) ∧
  (((a1 * 2304) + 2304 : Int) ≤ 6912) ∧
  ∀ G14 : AG, G14 = gcp G9 19 18 0 (a1 * 2304) 2304 →
  (r32 ((F8 2 8) - 1)) ∧
  ∃ z20 : Nat, Pu (d - 1) MX2_savedAt [vR 2, vI ((F8 2 8) - 1)] S F8 G14 (some (vR z20)) ∧
  ((z20 = 0) →
    Q none S F8 G14) ∧
  ((¬ z20 = 0) →
    (AtSaved S z20) ∧
    (r32 ((F8 z20 1) + 1)) ∧
    ∀ F24 : AF, F24 = fu F8 z20 1 ((F8 z20 1) + 1) →
    Q none S F24 G14)))
theorem R_X2_adopt_62 {d : Nat} {S : AS} {F : AF} {G : AG} {Q : AQ} {a1 : Int} (hsh : ShC S) (h : V_X2_adopt_62 d S F G Q a1) : Go d MX2_adopt 62 [some (vR 2), some (vI a1), none, none] [] S F G Q := by
  unfold V_X2_adopt_62 at h
  refine go_aload_n (show decode cX2_adopt 62 = .ok (.aload_n 0, 1) by decide +kernel) (by rfl) ?_
  refine go_getRc (show decode cX2_adopt 63 = .ok (.getfield 12, 3) by decide +kernel) fl_X2_12 rfl (shc_k hsh 2 (by decide) (by decide)) (v := 3) (shc_r hsh 2 0 (by decide) (by decide) (by decide)) ?_
  obtain ⟨q1, h⟩ := h
  refine go_callV (d2 := d - 1) (M2 := MX0_adopt) (n := 0) (ci := 0) (av := []) (st := []) (show decode cX2_adopt 66 = .ok (.invokevirtual 221, 3) by decide +kernel) ml_X2_221 mt_X0_adopt min_X0_adopt mse_X0_adopt (by decide) (shc_k hsh 3 (by decide) (by decide)) rfl (Nat.le_of_ble_eq_true rfl) (by omega) (ok_mono h (fun w2 S3 F4 G5 h => ?_))
  obtain ⟨e8, h⟩ := h
  replace e8 := e8.symm; subst e8
  obtain ⟨e9, h⟩ := h
  subst e9
  show Go d MX2_adopt 69 [some (vR 2), some (vI a1), none, none] [] S F4 G5 Q
  refine go_aload_n (show decode cX2_adopt 69 = .ok (.aload_n 0, 1) by decide +kernel) (by rfl) ?_
  refine go_getRc (show decode cX2_adopt 70 = .ok (.getfield 18, 3) by decide +kernel) fl_X2_18 rfl (shc_k hsh 2 (by decide) (by decide)) (v := 10) (shc_r hsh 2 1 (by decide) (by decide) (by decide)) ?_
  refine go_callV (d2 := d - 1) (M2 := MX0_adopt) (n := 0) (ci := 0) (av := []) (st := []) (show decode cX2_adopt 73 = .ok (.invokevirtual 221, 3) by decide +kernel) ml_X2_221 mt_X0_adopt min_X0_adopt mse_X0_adopt (by decide) (shc_k hsh 10 (by decide) (by decide)) rfl (Nat.le_of_ble_eq_true rfl) (by omega) (ok_mono h (fun w6 S7 F8 G9 h => ?_))
  obtain ⟨e8, h⟩ := h
  replace e8 := e8.symm; subst e8
  obtain ⟨e9, h⟩ := h
  subst e9
  show Go d MX2_adopt 76 [some (vR 2), some (vI a1), none, none] [] S F8 G9 Q
  refine go_aload_n (show decode cX2_adopt 76 = .ok (.aload_n 0, 1) by decide +kernel) (by rfl) ?_
  refine go_getRc (show decode cX2_adopt 77 = .ok (.getfield 32, 3) by decide +kernel) fl_X2_32 rfl (shc_k hsh 2 (by decide) (by decide)) (v := 19) (shc_r hsh 2 4 (by decide) (by decide) (by decide)) ?_
  refine go_iconst (show decode cX2_adopt 80 = .ok (.iconst 0, 1) by decide +kernel) (by decide) ?_
  refine go_aload_n (show decode cX2_adopt 81 = .ok (.aload_n 0, 1) by decide +kernel) (by rfl) ?_
  refine go_getRc (show decode cX2_adopt 82 = .ok (.getfield 28, 3) by decide +kernel) fl_X2_28 rfl (shc_k hsh 2 (by decide) (by decide)) (v := 18) (shc_r hsh 2 3 (by decide) (by decide) (by decide)) ?_
  refine go_iload_n (show decode cX2_adopt 85 = .ok (.iload_n 1, 1) by decide +kernel) (by rfl) ?_
  refine go_sipush (show decode cX2_adopt 86 = .ok (.sipush 2304, 3) by decide +kernel) (by decide) ?_
  obtain ⟨q10, h⟩ := h
  refine go_imul (show decode cX2_adopt 89 = .ok (.imul, 1) by decide +kernel) q10 ?_
  refine go_sipush (show decode cX2_adopt 90 = .ok (.sipush 2304, 3) by decide +kernel) (by decide) ?_
  obtain ⟨q11, h⟩ := h
  obtain ⟨q12, h⟩ := h
  obtain ⟨q13, h⟩ := h
  refine go_copyJ (show decode cX2_adopt 93 = .ok (.invokestatic 142, 3) by decide +kernel) ml_X2_142 ac_n ac_s ac_i (shc_k hsh 19 (by decide) (by decide)) (shc_k hsh 18 (by decide) (by decide)) (by decide) q11 (by decide) (le_n (m := 2304) q12 (shc_n hsh 19 (by decide) (by decide))) (le_n (m := 6912) q13 (shc_n hsh 18 (by decide) (by decide))) (Nat.le_of_ble_eq_true rfl) q1 ?_
  obtain ⟨G14, G14e⟩ : ∃ G14 : AG, G14 = gcp G9 19 18 0 (a1 * 2304) 2304 := ⟨_, rfl⟩
  have h := h G14 G14e
  rw [← G14e]
  refine go_aload_n (show decode cX2_adopt 96 = .ok (.aload_n 0, 1) by decide +kernel) (by rfl) ?_
  refine go_aload_n (show decode cX2_adopt 97 = .ok (.aload_n 0, 1) by decide +kernel) (by rfl) ?_
  refine go_getI (show decode cX2_adopt 98 = .ok (.getfield 60, 3) by decide +kernel) fl_X2_60 (Or.inl rfl) (shc_k hsh 2 (by decide) (by decide)) ?_
  refine go_iconst (show decode cX2_adopt 101 = .ok (.iconst 1, 1) by decide +kernel) (by decide) ?_
  obtain ⟨q15, h⟩ := h
  refine go_isub (show decode cX2_adopt 102 = .ok (.isub, 1) by decide +kernel) q15 ?_
  obtain ⟨z20, p21, h⟩ := h
  refine go_callV (d2 := d - 1) (M2 := MX2_savedAt) (n := 1) (ci := 2) (av := [vI ((F8 2 8) - 1)]) (st := []) (show decode cX2_adopt 103 = .ok (.invokevirtual 151, 3) by decide +kernel) ml_X2_151 mt_X2_savedAt min_X2_savedAt mse_X2_savedAt (by decide) (shc_k hsh 2 (by decide) (by decide)) rfl (Nat.le_of_ble_eq_true rfl) (by omega) (ok_mono p21 (fun w16 S17 F18 G19 e9 => ?_))
  obtain ⟨e1, e2, e3, e4⟩ := e9
  subst e1
  replace e2 := e2.symm; subst e2
  replace e3 := e3.symm; subst e3
  replace e4 := e4.symm; subst e4
  show Go d MX2_adopt 106 [some (vR 2), some (vI a1), none, none] [vR z20] S F8 G14 Q
  refine go_astore_n (show decode cX2_adopt 106 = .ok (.astore_n 2, 1) by decide +kernel) (by decide) ?_
  show Go d MX2_adopt 107 [some (vR 2), some (vI a1), some (vR z20), none] [] S F8 G14 Q
  refine go_aload_n (show decode cX2_adopt 107 = .ok (.aload_n 2, 1) by decide +kernel) (by rfl) ?_
  obtain ⟨ht, hf⟩ := h
  refine go_ifnull (tgt := 121) (show decode cX2_adopt 108 = .ok (.ifnull 13, 3) by decide +kernel) (by decide) (fun hc => ?_) (fun hc => ?_)
  · have h := ht hc
    exact go_vret (show decode cX2_adopt 121 = .ok (.return_, 1) by decide +kernel) rfl h
  · have h := hf hc
    refine go_aload_n (show decode cX2_adopt 111 = .ok (.aload_n 2, 1) by decide +kernel) (by rfl) ?_
    refine go_dup (show decode cX2_adopt 112 = .ok (.dup, 1) by decide +kernel) ?_
    obtain ⟨q22, h⟩ := h
    refine go_getI (show decode cX2_adopt 113 = .ok (.getfield 148, 3) by decide +kernel) fl_X2_148 (Or.inl rfl) q22.1 ?_
    refine go_iconst (show decode cX2_adopt 116 = .ok (.iconst 1, 1) by decide +kernel) (by decide) ?_
    obtain ⟨q23, h⟩ := h
    refine go_iadd (show decode cX2_adopt 117 = .ok (.iadd, 1) by decide +kernel) q23 ?_
    refine go_putI (show decode cX2_adopt 118 = .ok (.putfield 148, 3) by decide +kernel) fl_X2_148 rfl (Or.inl rfl) q22.1 ?_
    obtain ⟨F24, F24e⟩ : ∃ F24 : AF, F24 = fu F8 z20 1 ((F8 z20 1) + 1) := ⟨_, rfl⟩
    have h := h F24 F24e
    rw [← F24e]
    exact go_vret (show decode cX2_adopt 121 = .ok (.return_, 1) by decide +kernel) rfl h
def V_X2_adopt_56 (d : Nat) (S : AS) (F : AF) (G : AG) (Q : AQ) (a1 : Int) (a2 : Int) (a3 : Nat) : Prop :=
  (r32 (a2 + 1)) ∧
  Go d MX2_adopt 30 [some (vR 2), some (vI a1), some (vI (a2 + 1)), none] [] S F G Q
theorem R_X2_adopt_56 {d : Nat} {S : AS} {F : AF} {G : AG} {Q : AQ} {a1 : Int} {a2 : Int} {a3 : Nat} (hsh : ShC S) (h : V_X2_adopt_56 d S F G Q a1 a2 a3) : Go d MX2_adopt 56 [some (vR 2), some (vI a1), some (vI a2), some (vR a3)] [] S F G Q := by
  unfold V_X2_adopt_56 at h
  obtain ⟨q1, h⟩ := h
  refine go_iinc (show decode cX2_adopt 56 = .ok (.iinc 2 1, 3) by decide +kernel) (by rfl) q1 (by decide) ?_
  show Go d MX2_adopt 59 [some (vR 2), some (vI a1), some (vI (a2 + 1)), some (vR a3)] [] S F G Q
  refine go_goto (tgt := 30) (show decode cX2_adopt 59 = .ok (.goto (-29), 3) by decide +kernel) (by decide) ?_
  refine go_clr 3 ?_
  exact h
def V_X2_adopt_30 (d : Nat) (S : AS) (F : AF) (G : AG) (Q : AQ) (a1 : Int) (a2 : Int) : Prop :=
  ((F 2 8 ≤ a2) →
    V_X2_adopt_62 d S F G Q a1) ∧
  ((¬ F 2 8 ≤ a2) →
    (1 ≤ d) ∧
    ∃ z6 : Nat, Pu (d - 1) MX2_savedAt [vR 2, vI a2] S F G (some (vR z6)) ∧
    ((z6 = 0) →
      V_X2_adopt_56 d S F G Q a1 a2 z6) ∧
    ((¬ z6 = 0) →
      (AtSaved S z6) ∧
      Ok (d - 1) MX2_refine [vR 2, vR (z6 + 1)] S F G (fun w9 S10 F11 G12 =>
      S10 = S ∧
      w9 = none ∧
      V_X2_adopt_56 d S F11 G12 Q a1 a2 z6)))
theorem R_X2_adopt_30 {d : Nat} {S : AS} {F : AF} {G : AG} {Q : AQ} {a1 : Int} {a2 : Int} (hsh : ShC S) (h : V_X2_adopt_30 d S F G Q a1 a2) : Go d MX2_adopt 30 [some (vR 2), some (vI a1), some (vI a2), none] [] S F G Q := by
  unfold V_X2_adopt_30 at h
  refine go_iload_n (show decode cX2_adopt 30 = .ok (.iload_n 2, 1) by decide +kernel) (by rfl) ?_
  refine go_aload_n (show decode cX2_adopt 31 = .ok (.aload_n 0, 1) by decide +kernel) (by rfl) ?_
  refine go_getI (show decode cX2_adopt 32 = .ok (.getfield 60, 3) by decide +kernel) fl_X2_60 (Or.inl rfl) (shc_k hsh 2 (by decide) (by decide)) ?_
  obtain ⟨ht, hf⟩ := h
  refine go_icmpge (tgt := 62) (show decode cX2_adopt 35 = .ok (.if_icmp .ge 27, 3) by decide +kernel) (by decide) (fun hc => ?_) (fun hc => ?_)
  · have h := ht hc
    refine go_clr 2 ?_
    exact R_X2_adopt_62 hsh h
  · have h := hf hc
    refine go_aload_n (show decode cX2_adopt 38 = .ok (.aload_n 0, 1) by decide +kernel) (by rfl) ?_
    refine go_iload_n (show decode cX2_adopt 39 = .ok (.iload_n 2, 1) by decide +kernel) (by rfl) ?_
    obtain ⟨q1, h⟩ := h
    obtain ⟨z6, p7, h⟩ := h
    refine go_callV (d2 := d - 1) (M2 := MX2_savedAt) (n := 1) (ci := 2) (av := [vI a2]) (st := []) (show decode cX2_adopt 40 = .ok (.invokevirtual 151, 3) by decide +kernel) ml_X2_151 mt_X2_savedAt min_X2_savedAt mse_X2_savedAt (by decide) (shc_k hsh 2 (by decide) (by decide)) rfl (Nat.le_of_ble_eq_true rfl) (by omega) (ok_mono p7 (fun w2 S3 F4 G5 e9 => ?_))
    obtain ⟨e1, e2, e3, e4⟩ := e9
    subst e1
    replace e2 := e2.symm; subst e2
    replace e3 := e3.symm; subst e3
    replace e4 := e4.symm; subst e4
    show Go d MX2_adopt 43 [some (vR 2), some (vI a1), some (vI a2), none] [vR z6] S F G Q
    refine go_astore_n (show decode cX2_adopt 43 = .ok (.astore_n 3, 1) by decide +kernel) (by decide) ?_
    show Go d MX2_adopt 44 [some (vR 2), some (vI a1), some (vI a2), some (vR z6)] [] S F G Q
    refine go_aload_n (show decode cX2_adopt 44 = .ok (.aload_n 3, 1) by decide +kernel) (by rfl) ?_
    obtain ⟨ht, hf⟩ := h
    refine go_ifnull (tgt := 56) (show decode cX2_adopt 45 = .ok (.ifnull 11, 3) by decide +kernel) (by decide) (fun hc => ?_) (fun hc => ?_)
    · have h := ht hc
      exact R_X2_adopt_56 hsh h
    · have h := hf hc
      refine go_aload_n (show decode cX2_adopt 48 = .ok (.aload_n 0, 1) by decide +kernel) (by rfl) ?_
      refine go_aload_n (show decode cX2_adopt 49 = .ok (.aload_n 3, 1) by decide +kernel) (by rfl) ?_
      obtain ⟨q8, h⟩ := h
      refine go_getRc (show decode cX2_adopt 50 = .ok (.getfield 98, 3) by decide +kernel) fl_X2_98 rfl q8.1 (v := (z6 + 1)) q8.2.1 ?_
      refine go_callV (d2 := d - 1) (M2 := MX2_refine) (n := 1) (ci := 2) (av := [vR (z6 + 1)]) (st := []) (show decode cX2_adopt 53 = .ok (.invokevirtual 217, 3) by decide +kernel) ml_X2_217 mt_X2_refine min_X2_refine mse_X2_refine (by decide) (shc_k hsh 2 (by decide) (by decide)) rfl (Nat.le_of_ble_eq_true rfl) (by omega) (ok_mono h (fun w9 S10 F11 G12 h => ?_))
      obtain ⟨e8, h⟩ := h
      replace e8 := e8.symm; subst e8
      obtain ⟨e9, h⟩ := h
      subst e9
      show Go d MX2_adopt 56 [some (vR 2), some (vI a1), some (vI a2), some (vR z6)] [] S F11 G12 Q
      exact R_X2_adopt_56 hsh h
def V_X2_adopt_20 (d : Nat) (S : AS) (F : AF) (G : AG) (Q : AQ) (a1 : Int) : Prop :=
  (1 ≤ d) ∧
  Ok (d - 1) MX2_refine [vR 2, vR 18] S F G (fun w2 S3 F4 G5 =>
  S3 = S ∧
  w2 = none ∧
  Go d MX2_adopt 30 [some (vR 2), some (vI a1), some (vI 0), none] [] S F4 G5 Q)
theorem R_X2_adopt_20 {d : Nat} {S : AS} {F : AF} {G : AG} {Q : AQ} {a1 : Int} (hsh : ShC S) (h : V_X2_adopt_20 d S F G Q a1) : Go d MX2_adopt 20 [some (vR 2), some (vI a1), none, none] [] S F G Q := by
  unfold V_X2_adopt_20 at h
  refine go_aload_n (show decode cX2_adopt 20 = .ok (.aload_n 0, 1) by decide +kernel) (by rfl) ?_
  refine go_aload_n (show decode cX2_adopt 21 = .ok (.aload_n 0, 1) by decide +kernel) (by rfl) ?_
  refine go_getRc (show decode cX2_adopt 22 = .ok (.getfield 28, 3) by decide +kernel) fl_X2_28 rfl (shc_k hsh 2 (by decide) (by decide)) (v := 18) (shc_r hsh 2 3 (by decide) (by decide) (by decide)) ?_
  obtain ⟨q1, h⟩ := h
  refine go_callV (d2 := d - 1) (M2 := MX2_refine) (n := 1) (ci := 2) (av := [vR 18]) (st := []) (show decode cX2_adopt 25 = .ok (.invokevirtual 217, 3) by decide +kernel) ml_X2_217 mt_X2_refine min_X2_refine mse_X2_refine (by decide) (shc_k hsh 2 (by decide) (by decide)) rfl (Nat.le_of_ble_eq_true rfl) (by omega) (ok_mono h (fun w2 S3 F4 G5 h => ?_))
  obtain ⟨e8, h⟩ := h
  replace e8 := e8.symm; subst e8
  obtain ⟨e9, h⟩ := h
  subst e9
  show Go d MX2_adopt 28 [some (vR 2), some (vI a1), none, none] [] S F4 G5 Q
  refine go_iconst (show decode cX2_adopt 28 = .ok (.iconst 0, 1) by decide +kernel) (by decide) ?_
  refine go_istore_n (show decode cX2_adopt 29 = .ok (.istore_n 2, 1) by decide +kernel) (by decide) ?_
  show Go d MX2_adopt 30 [some (vR 2), some (vI a1), some (vI 0), none] [] S F4 G5 Q
  exact h
def V_X2_adopt_0 (d : Nat) (S : AS) (F : AF) (G : AG) (Q : AQ) (a1 : Int) : Prop :=
  (1 ≤ d) ∧
  ∃ z6 : Int, Pu (d - 1) MX0_grows [vR 3] S F G (some (vI z6)) ∧
  ((¬ z6 = 0) →
    V_X2_adopt_20 d S F G Q a1) ∧
  ((z6 = 0) →
    ∃ z12 : Int, Pu (d - 1) MX0_grows [vR 10] S F G (some (vI z12)) ∧
    ((z12 = 0) →
      V_X2_adopt_62 d S F G Q a1) ∧
    ((¬ z12 = 0) →
      V_X2_adopt_20 d S F G Q a1))
theorem R_X2_adopt_0 {d : Nat} {S : AS} {F : AF} {G : AG} {Q : AQ} {a1 : Int} (hsh : ShC S) (h : V_X2_adopt_0 d S F G Q a1) : Go d MX2_adopt 0 [some (vR 2), some (vI a1), none, none] [] S F G Q := by
  unfold V_X2_adopt_0 at h
  refine go_aload_n (show decode cX2_adopt 0 = .ok (.aload_n 0, 1) by decide +kernel) (by rfl) ?_
  refine go_getRc (show decode cX2_adopt 1 = .ok (.getfield 12, 3) by decide +kernel) fl_X2_12 rfl (shc_k hsh 2 (by decide) (by decide)) (v := 3) (shc_r hsh 2 0 (by decide) (by decide) (by decide)) ?_
  obtain ⟨q1, h⟩ := h
  obtain ⟨z6, p7, h⟩ := h
  refine go_callV (d2 := d - 1) (M2 := MX0_grows) (n := 0) (ci := 0) (av := []) (st := []) (show decode cX2_adopt 4 = .ok (.invokevirtual 214, 3) by decide +kernel) ml_X2_214 mt_X0_grows min_X0_grows mse_X0_grows (by decide) (shc_k hsh 3 (by decide) (by decide)) rfl (Nat.le_of_ble_eq_true rfl) (by omega) (ok_mono p7 (fun w2 S3 F4 G5 e9 => ?_))
  obtain ⟨e1, e2, e3, e4⟩ := e9
  subst e1
  replace e2 := e2.symm; subst e2
  replace e3 := e3.symm; subst e3
  replace e4 := e4.symm; subst e4
  show Go d MX2_adopt 7 [some (vR 2), some (vI a1), none, none] [vI z6] S F G Q
  obtain ⟨ht, hf⟩ := h
  refine go_ifne (tgt := 20) (show decode cX2_adopt 7 = .ok (.ifCond .ne 13, 3) by decide +kernel) (by decide) (fun hc => ?_) (fun hc => ?_)
  · have h := ht hc
    exact R_X2_adopt_20 hsh h
  · have h := hf hc
    refine go_aload_n (show decode cX2_adopt 10 = .ok (.aload_n 0, 1) by decide +kernel) (by rfl) ?_
    refine go_getRc (show decode cX2_adopt 11 = .ok (.getfield 18, 3) by decide +kernel) fl_X2_18 rfl (shc_k hsh 2 (by decide) (by decide)) (v := 10) (shc_r hsh 2 1 (by decide) (by decide) (by decide)) ?_
    obtain ⟨z12, p13, h⟩ := h
    refine go_callV (d2 := d - 1) (M2 := MX0_grows) (n := 0) (ci := 0) (av := []) (st := []) (show decode cX2_adopt 14 = .ok (.invokevirtual 214, 3) by decide +kernel) ml_X2_214 mt_X0_grows min_X0_grows mse_X0_grows (by decide) (shc_k hsh 10 (by decide) (by decide)) rfl (Nat.le_of_ble_eq_true rfl) (by omega) (ok_mono p13 (fun w8 S9 F10 G11 e9 => ?_))
    obtain ⟨e1, e2, e3, e4⟩ := e9
    subst e1
    replace e2 := e2.symm; subst e2
    replace e3 := e3.symm; subst e3
    replace e4 := e4.symm; subst e4
    show Go d MX2_adopt 17 [some (vR 2), some (vI a1), none, none] [vI z12] S F G Q
    obtain ⟨ht, hf⟩ := h
    refine go_ifeq (tgt := 62) (show decode cX2_adopt 17 = .ok (.ifCond .eq 45, 3) by decide +kernel) (by decide) (fun hc => ?_) (fun hc => ?_)
    · have h := ht hc
      exact R_X2_adopt_62 hsh h
    · have h := hf hc
      exact R_X2_adopt_20 hsh h
def V_X2_refine_63 (d : Nat) (S : AS) (F : AF) (G : AG) (Q : AQ) (a1 : Nat) (a2 : Int) (a3 : Int) (a4 : Int) (a5 : Int) (a6 : Int) : Prop :=
  ((a6 < 0) →
    (r32 (a3 + (-1))) ∧
    Go d MX2_refine 21 [some (vR 2), some (vR a1), some (vI a2), some (vI (a3 + (-1))), none, none, none] [] S F G Q) ∧
  ((¬ a6 < 0) →
    (r32 (a4 + a6)) ∧
    ((0 : Int) ≤ a6) ∧
    ((a6 : Int) < 48) ∧
    (r32 (a5 + (G 8 a6))) ∧
    ((0 : Int) ≤ a5 + (G 8 a6)) ∧
    ((a5 + (G 8 a6) : Int) < (sN S a1 : Int)) ∧
    ((0 : Int) ≤ a4 + a6) ∧
    ((a4 + a6 : Int) < (sN S a1 : Int)) ∧
    ∀ G10 : AG, G10 = gu G a1 (a4 + a6) (G a1 (a5 + (G 8 a6))) →
    (r32 (a6 + (-1))) ∧
    Go d MX2_refine 63 [some (vR 2), some (vR a1), some (vI a2), some (vI a3), some (vI a4), some (vI a5), some (vI (a6 + (-1)))] [] S F G10 Q)
theorem R_X2_refine_63 {d : Nat} {S : AS} {F : AF} {G : AG} {Q : AQ} {a1 : Nat} {a2 : Int} {a3 : Int} {a4 : Int} {a5 : Int} {a6 : Int} (hsh : ShC S) (hk1 : AtJ S a1) (h : V_X2_refine_63 d S F G Q a1 a2 a3 a4 a5 a6) : Go d MX2_refine 63 [some (vR 2), some (vR a1), some (vI a2), some (vI a3), some (vI a4), some (vI a5), some (vI a6)] [] S F G Q := by
  unfold V_X2_refine_63 at h
  refine go_iload (show decode cX2_refine 63 = .ok (.iload 6, 2) by decide +kernel) (by rfl) ?_
  obtain ⟨ht, hf⟩ := h
  refine go_iflt (tgt := 96) (show decode cX2_refine 65 = .ok (.ifCond .lt 31, 3) by decide +kernel) (by decide) (fun hc => ?_) (fun hc => ?_)
  · have h := ht hc
    obtain ⟨q1, h⟩ := h
    refine go_iinc (show decode cX2_refine 96 = .ok (.iinc 3 (-1), 3) by decide +kernel) (by rfl) q1 (by decide) ?_
    show Go d MX2_refine 99 [some (vR 2), some (vR a1), some (vI a2), some (vI (a3 + (-1))), some (vI a4), some (vI a5), some (vI a6)] [] S F G Q
    refine go_goto (tgt := 21) (show decode cX2_refine 99 = .ok (.goto (-78), 3) by decide +kernel) (by decide) ?_
    refine go_clr 4 ?_
    refine go_clr 5 ?_
    refine go_clr 6 ?_
    exact h
  · have h := hf hc
    refine go_aload_n (show decode cX2_refine 68 = .ok (.aload_n 1, 1) by decide +kernel) (by rfl) ?_
    refine go_iload (show decode cX2_refine 69 = .ok (.iload 4, 2) by decide +kernel) (by rfl) ?_
    refine go_iload (show decode cX2_refine 71 = .ok (.iload 6, 2) by decide +kernel) (by rfl) ?_
    obtain ⟨q2, h⟩ := h
    refine go_iadd (show decode cX2_refine 73 = .ok (.iadd, 1) by decide +kernel) q2 ?_
    refine go_aload_n (show decode cX2_refine 74 = .ok (.aload_n 1, 1) by decide +kernel) (by rfl) ?_
    refine go_iload (show decode cX2_refine 75 = .ok (.iload 5, 2) by decide +kernel) (by rfl) ?_
    refine go_aload_n (show decode cX2_refine 77 = .ok (.aload_n 0, 1) by decide +kernel) (by rfl) ?_
    refine go_getRc (show decode cX2_refine 78 = .ok (.getfield 12, 3) by decide +kernel) fl_X2_12 rfl (shc_k hsh 2 (by decide) (by decide)) (v := 3) (shc_r hsh 2 0 (by decide) (by decide) (by decide)) ?_
    refine go_getRc (show decode cX2_refine 81 = .ok (.getfield 200, 3) by decide +kernel) fl_X2_200 rfl (shc_k hsh 3 (by decide) (by decide)) (v := 8) (shc_r hsh 3 2 (by decide) (by decide) (by decide)) ?_
    refine go_iload (show decode cX2_refine 84 = .ok (.iload 6, 2) by decide +kernel) (by rfl) ?_
    obtain ⟨q3, h⟩ := h
    obtain ⟨q4, h⟩ := h
    refine go_iaload (show decode cX2_refine 86 = .ok (.iaload, 1) by decide +kernel) (shc_k hsh 8 (by decide) (by decide)) q3 (lt_n (m := 48) q4 (shc_n hsh 8 (by decide) (by decide))) ?_
    obtain ⟨q5, h⟩ := h
    refine go_iadd (show decode cX2_refine 87 = .ok (.iadd, 1) by decide +kernel) q5 ?_
    obtain ⟨q6, h⟩ := h
    obtain ⟨q7, h⟩ := h
    refine go_laload (show decode cX2_refine 88 = .ok (.laload, 1) by decide +kernel) hk1 q6 q7 ?_
    obtain ⟨q8, h⟩ := h
    obtain ⟨q9, h⟩ := h
    refine go_lastore (show decode cX2_refine 89 = .ok (.lastore, 1) by decide +kernel) hk1 q8 q9  ?_
    obtain ⟨G10, G10e⟩ : ∃ G10 : AG, G10 = gu G a1 (a4 + a6) (G a1 (a5 + (G 8 a6))) := ⟨_, rfl⟩
    have h := h G10 G10e
    rw [← G10e]
    obtain ⟨q11, h⟩ := h
    refine go_iinc (show decode cX2_refine 90 = .ok (.iinc 6 (-1), 3) by decide +kernel) (by rfl) q11 (by decide) ?_
    show Go d MX2_refine 93 [some (vR 2), some (vR a1), some (vI a2), some (vI a3), some (vI a4), some (vI a5), some (vI (a6 + (-1)))] [] S F G10 Q
    refine go_goto (tgt := 63) (show decode cX2_refine 93 = .ok (.goto (-30), 3) by decide +kernel) (by decide) ?_
    exact h
def V_X2_refine_21 (d : Nat) (S : AS) (F : AF) (G : AG) (Q : AQ) (a1 : Nat) (a2 : Int) (a3 : Int) : Prop :=
  ((a3 < 0) →
    (r32 (a2 + 2304)) ∧
    Go d MX2_refine 2 [some (vR 2), some (vR a1), some (vI (a2 + 2304)), none, none, none, none] [] S F G Q) ∧
  ((¬ a3 < 0) →
    (r32 (48 * a3)) ∧
    (r32 (a2 + (48 * a3))) ∧
    ∀ x4 : Int, x4 = a2 + (48 * a3) →
    ((0 : Int) ≤ a3) ∧
    ((a3 : Int) < 48) ∧
    (r32 (48 * (G 15 a3))) ∧
    (r32 (a2 + (48 * (G 15 a3)))) ∧
    ∀ x9 : Int, x9 = a2 + (48 * (G 15 a3)) →
    (r32 ((F 6 1) - 1)) ∧
    ∀ x11 : Int, x11 = (F 6 1) - 1 →
    Go d MX2_refine 63 [some (vR 2), some (vR a1), some (vI a2), some (vI a3), some (vI x4), some (vI x9), some (vI x11)] [] S F G Q)
theorem R_X2_refine_21 {d : Nat} {S : AS} {F : AF} {G : AG} {Q : AQ} {a1 : Nat} {a2 : Int} {a3 : Int} (hsh : ShC S) (hk1 : AtJ S a1) (h : V_X2_refine_21 d S F G Q a1 a2 a3) : Go d MX2_refine 21 [some (vR 2), some (vR a1), some (vI a2), some (vI a3), none, none, none] [] S F G Q := by
  unfold V_X2_refine_21 at h
  refine go_iload_n (show decode cX2_refine 21 = .ok (.iload_n 3, 1) by decide +kernel) (by rfl) ?_
  obtain ⟨ht, hf⟩ := h
  refine go_iflt (tgt := 102) (show decode cX2_refine 22 = .ok (.ifCond .lt 80, 3) by decide +kernel) (by decide) (fun hc => ?_) (fun hc => ?_)
  · have h := ht hc
    obtain ⟨q1, h⟩ := h
    refine go_iincW (show decode cX2_refine 102 = .ok (.iinc 2 2304, 6) by decide +kernel) (by rfl) q1 (by decide) ?_
    show Go d MX2_refine 108 [some (vR 2), some (vR a1), some (vI (a2 + 2304)), some (vI a3), none, none, none] [] S F G Q
    refine go_goto (tgt := 2) (show decode cX2_refine 108 = .ok (.goto (-106), 3) by decide +kernel) (by decide) ?_
    refine go_clr 3 ?_
    exact h
  · have h := hf hc
    refine go_iload_n (show decode cX2_refine 25 = .ok (.iload_n 2, 1) by decide +kernel) (by rfl) ?_
    refine go_bipush (show decode cX2_refine 26 = .ok (.bipush 48, 2) by decide +kernel) (by decide) ?_
    refine go_iload_n (show decode cX2_refine 28 = .ok (.iload_n 3, 1) by decide +kernel) (by rfl) ?_
    obtain ⟨q2, h⟩ := h
    refine go_imul (show decode cX2_refine 29 = .ok (.imul, 1) by decide +kernel) q2 ?_
    obtain ⟨q3, h⟩ := h
    refine go_iadd (show decode cX2_refine 30 = .ok (.iadd, 1) by decide +kernel) q3 ?_
    obtain ⟨x4, x4e⟩ : ∃ x4 : Int, x4 = a2 + (48 * a3) := ⟨_, rfl⟩
    have h := h x4 x4e
    rw [← x4e]
    refine go_istore (show decode cX2_refine 31 = .ok (.istore 4, 2) by decide +kernel) (by decide) ?_
    show Go d MX2_refine 33 [some (vR 2), some (vR a1), some (vI a2), some (vI a3), some (vI x4), none, none] [] S F G Q
    refine go_iload_n (show decode cX2_refine 33 = .ok (.iload_n 2, 1) by decide +kernel) (by rfl) ?_
    refine go_bipush (show decode cX2_refine 34 = .ok (.bipush 48, 2) by decide +kernel) (by decide) ?_
    refine go_aload_n (show decode cX2_refine 36 = .ok (.aload_n 0, 1) by decide +kernel) (by rfl) ?_
    refine go_getRc (show decode cX2_refine 37 = .ok (.getfield 18, 3) by decide +kernel) fl_X2_18 rfl (shc_k hsh 2 (by decide) (by decide)) (v := 10) (shc_r hsh 2 1 (by decide) (by decide) (by decide)) ?_
    refine go_getRc (show decode cX2_refine 40 = .ok (.getfield 200, 3) by decide +kernel) fl_X2_200 rfl (shc_k hsh 10 (by decide) (by decide)) (v := 15) (shc_r hsh 10 2 (by decide) (by decide) (by decide)) ?_
    refine go_iload_n (show decode cX2_refine 43 = .ok (.iload_n 3, 1) by decide +kernel) (by rfl) ?_
    obtain ⟨q5, h⟩ := h
    obtain ⟨q6, h⟩ := h
    refine go_iaload (show decode cX2_refine 44 = .ok (.iaload, 1) by decide +kernel) (shc_k hsh 15 (by decide) (by decide)) q5 (lt_n (m := 48) q6 (shc_n hsh 15 (by decide) (by decide))) ?_
    obtain ⟨q7, h⟩ := h
    refine go_imul (show decode cX2_refine 45 = .ok (.imul, 1) by decide +kernel) q7 ?_
    obtain ⟨q8, h⟩ := h
    refine go_iadd (show decode cX2_refine 46 = .ok (.iadd, 1) by decide +kernel) q8 ?_
    obtain ⟨x9, x9e⟩ : ∃ x9 : Int, x9 = a2 + (48 * (G 15 a3)) := ⟨_, rfl⟩
    have h := h x9 x9e
    rw [← x9e]
    refine go_istore (show decode cX2_refine 47 = .ok (.istore 5, 2) by decide +kernel) (by decide) ?_
    show Go d MX2_refine 49 [some (vR 2), some (vR a1), some (vI a2), some (vI a3), some (vI x4), some (vI x9), none] [] S F G Q
    refine go_aload_n (show decode cX2_refine 49 = .ok (.aload_n 0, 1) by decide +kernel) (by rfl) ?_
    refine go_getRc (show decode cX2_refine 50 = .ok (.getfield 12, 3) by decide +kernel) fl_X2_12 rfl (shc_k hsh 2 (by decide) (by decide)) (v := 3) (shc_r hsh 2 0 (by decide) (by decide) (by decide)) ?_
    refine go_getRc (show decode cX2_refine 53 = .ok (.getfield 155, 3) by decide +kernel) fl_X2_155 rfl (shc_k hsh 3 (by decide) (by decide)) (v := 6) (shc_r hsh 3 1 (by decide) (by decide) (by decide)) ?_
    refine go_getI (show decode cX2_refine 56 = .ok (.getfield 197, 3) by decide +kernel) fl_X2_197 (Or.inl rfl) (shc_k hsh 6 (by decide) (by decide)) ?_
    refine go_iconst (show decode cX2_refine 59 = .ok (.iconst 1, 1) by decide +kernel) (by decide) ?_
    obtain ⟨q10, h⟩ := h
    refine go_isub (show decode cX2_refine 60 = .ok (.isub, 1) by decide +kernel) q10 ?_
    obtain ⟨x11, x11e⟩ : ∃ x11 : Int, x11 = (F 6 1) - 1 := ⟨_, rfl⟩
    have h := h x11 x11e
    rw [← x11e]
    refine go_istore (show decode cX2_refine 61 = .ok (.istore 6, 2) by decide +kernel) (by decide) ?_
    show Go d MX2_refine 63 [some (vR 2), some (vR a1), some (vI a2), some (vI a3), some (vI x4), some (vI x9), some (vI x11)] [] S F G Q
    exact h
def V_X2_refine_2 (d : Nat) (S : AS) (F : AF) (G : AG) (Q : AQ) (a1 : Nat) (a2 : Int) : Prop :=
  (((sN S a1 : Int) ≤ a2) →
    Q none S F G) ∧
  ((¬ (sN S a1 : Int) ≤ a2) →
    (r32 ((F 13 1) - 1)) ∧
    ∀ x2 : Int, x2 = (F 13 1) - 1 →
    Go d MX2_refine 21 [some (vR 2), some (vR a1), some (vI a2), some (vI x2), none, none, none] [] S F G Q)
theorem R_X2_refine_2 {d : Nat} {S : AS} {F : AF} {G : AG} {Q : AQ} {a1 : Nat} {a2 : Int} (hsh : ShC S) (hk1 : AtJ S a1) (h : V_X2_refine_2 d S F G Q a1 a2) : Go d MX2_refine 2 [some (vR 2), some (vR a1), some (vI a2), none, none, none, none] [] S F G Q := by
  unfold V_X2_refine_2 at h
  refine go_iload_n (show decode cX2_refine 2 = .ok (.iload_n 2, 1) by decide +kernel) (by rfl) ?_
  refine go_aload_n (show decode cX2_refine 3 = .ok (.aload_n 1, 1) by decide +kernel) (by rfl) ?_
  refine go_alen (show decode cX2_refine 4 = .ok (.arraylength, 1) by decide +kernel) (by have h9 : sK S a1 = 21 := hk1; omega) ?_
  obtain ⟨ht, hf⟩ := h
  refine go_icmpge (tgt := 111) (show decode cX2_refine 5 = .ok (.if_icmp .ge 106, 3) by decide +kernel) (by decide) (fun hc => ?_) (fun hc => ?_)
  · have h := ht hc
    exact go_vret (show decode cX2_refine 111 = .ok (.return_, 1) by decide +kernel) rfl h
  · have h := hf hc
    refine go_aload_n (show decode cX2_refine 8 = .ok (.aload_n 0, 1) by decide +kernel) (by rfl) ?_
    refine go_getRc (show decode cX2_refine 9 = .ok (.getfield 18, 3) by decide +kernel) fl_X2_18 rfl (shc_k hsh 2 (by decide) (by decide)) (v := 10) (shc_r hsh 2 1 (by decide) (by decide) (by decide)) ?_
    refine go_getRc (show decode cX2_refine 12 = .ok (.getfield 155, 3) by decide +kernel) fl_X2_155 rfl (shc_k hsh 10 (by decide) (by decide)) (v := 13) (shc_r hsh 10 1 (by decide) (by decide) (by decide)) ?_
    refine go_getI (show decode cX2_refine 15 = .ok (.getfield 197, 3) by decide +kernel) fl_X2_197 (Or.inl rfl) (shc_k hsh 13 (by decide) (by decide)) ?_
    refine go_iconst (show decode cX2_refine 18 = .ok (.iconst 1, 1) by decide +kernel) (by decide) ?_
    obtain ⟨q1, h⟩ := h
    refine go_isub (show decode cX2_refine 19 = .ok (.isub, 1) by decide +kernel) q1 ?_
    obtain ⟨x2, x2e⟩ : ∃ x2 : Int, x2 = (F 13 1) - 1 := ⟨_, rfl⟩
    have h := h x2 x2e
    rw [← x2e]
    refine go_istore_n (show decode cX2_refine 20 = .ok (.istore_n 3, 1) by decide +kernel) (by decide) ?_
    show Go d MX2_refine 21 [some (vR 2), some (vR a1), some (vI a2), some (vI x2), none, none, none] [] S F G Q
    exact h
def V_X2_refine_0 (d : Nat) (S : AS) (F : AF) (G : AG) (Q : AQ) (a1 : Nat) : Prop :=
  Go d MX2_refine 2 [some (vR 2), some (vR a1), some (vI 0), none, none, none, none] [] S F G Q
theorem R_X2_refine_0 {d : Nat} {S : AS} {F : AF} {G : AG} {Q : AQ} {a1 : Nat} (hsh : ShC S) (hk1 : AtJ S a1) (h : V_X2_refine_0 d S F G Q a1) : Go d MX2_refine 0 [some (vR 2), some (vR a1), none, none, none, none, none] [] S F G Q := by
  unfold V_X2_refine_0 at h
  refine go_iconst (show decode cX2_refine 0 = .ok (.iconst 0, 1) by decide +kernel) (by decide) ?_
  refine go_istore_n (show decode cX2_refine 1 = .ok (.istore_n 2, 1) by decide +kernel) (by decide) ?_
  show Go d MX2_refine 2 [some (vR 2), some (vR a1), some (vI 0), none, none, none, none] [] S F G Q
  exact h
def V_X2_savedAt_0 (d : Nat) (S : AS) (F : AF) (G : AG) (Q : AQ) (a1 : Int) : Prop :=
  ((a1 < 0) →
    Q (some (vR 0)) S F G) ∧
  ((¬ a1 < 0) →
    ((F 2 8 ≤ a1) →
      Q (some (vR 0)) S F G) ∧
    ((¬ F 2 8 ≤ a1) →
      ((8 ≤ a1) →
        Q (some (vR 0)) S F G) ∧
      ((¬ 8 ≤ a1) →
        ((0 : Int) ≤ a1) ∧
        ((a1 : Int) < 8) ∧
        Q (some (vR (sR S 21 (Int.toNat a1)))) S F G)))
theorem R_X2_savedAt_0 {d : Nat} {S : AS} {F : AF} {G : AG} {Q : AQ} {a1 : Int} (hsh : ShC S) (h : V_X2_savedAt_0 d S F G Q a1) : Go d MX2_savedAt 0 [some (vR 2), some (vI a1)] [] S F G Q := by
  unfold V_X2_savedAt_0 at h
  refine go_iload_n (show decode cX2_savedAt 0 = .ok (.iload_n 1, 1) by decide +kernel) (by rfl) ?_
  obtain ⟨ht, hf⟩ := h
  refine go_iflt (tgt := 30) (show decode cX2_savedAt 1 = .ok (.ifCond .lt 29, 3) by decide +kernel) (by decide) (fun hc => ?_) (fun hc => ?_)
  · have h := ht hc
    refine go_null (show decode cX2_savedAt 30 = .ok (.aconst_null, 1) by decide +kernel) ?_
    exact go_aret (show decode cX2_savedAt 31 = .ok (.areturn, 1) by decide +kernel) rfl h
  · have h := hf hc
    refine go_iload_n (show decode cX2_savedAt 4 = .ok (.iload_n 1, 1) by decide +kernel) (by rfl) ?_
    refine go_aload_n (show decode cX2_savedAt 5 = .ok (.aload_n 0, 1) by decide +kernel) (by rfl) ?_
    refine go_getI (show decode cX2_savedAt 6 = .ok (.getfield 60, 3) by decide +kernel) fl_X2_60 (Or.inl rfl) (shc_k hsh 2 (by decide) (by decide)) ?_
    obtain ⟨ht, hf⟩ := h
    refine go_icmpge (tgt := 30) (show decode cX2_savedAt 9 = .ok (.if_icmp .ge 21, 3) by decide +kernel) (by decide) (fun hc => ?_) (fun hc => ?_)
    · have h := ht hc
      refine go_null (show decode cX2_savedAt 30 = .ok (.aconst_null, 1) by decide +kernel) ?_
      exact go_aret (show decode cX2_savedAt 31 = .ok (.areturn, 1) by decide +kernel) rfl h
    · have h := hf hc
      refine go_iload_n (show decode cX2_savedAt 12 = .ok (.iload_n 1, 1) by decide +kernel) (by rfl) ?_
      refine go_aload_n (show decode cX2_savedAt 13 = .ok (.aload_n 0, 1) by decide +kernel) (by rfl) ?_
      refine go_getRc (show decode cX2_savedAt 14 = .ok (.getfield 43, 3) by decide +kernel) fl_X2_43 rfl (shc_k hsh 2 (by decide) (by decide)) (v := 21) (shc_r hsh 2 6 (by decide) (by decide) (by decide)) ?_
      refine go_alenc (show decode cX2_savedAt 17 = .ok (.arraylength, 1) by decide +kernel) (by have h9 : sK S 21 = 25 := (shc_k hsh 21 (by decide) (by decide)); omega) (z := 8) (by rw [(shc_n hsh 21 (by decide) (by decide))]; rfl) ?_
      obtain ⟨ht, hf⟩ := h
      refine go_icmpge (tgt := 30) (show decode cX2_savedAt 18 = .ok (.if_icmp .ge 12, 3) by decide +kernel) (by decide) (fun hc => ?_) (fun hc => ?_)
      · have h := ht hc
        refine go_null (show decode cX2_savedAt 30 = .ok (.aconst_null, 1) by decide +kernel) ?_
        exact go_aret (show decode cX2_savedAt 31 = .ok (.areturn, 1) by decide +kernel) rfl h
      · have h := hf hc
        refine go_aload_n (show decode cX2_savedAt 21 = .ok (.aload_n 0, 1) by decide +kernel) (by rfl) ?_
        refine go_getRc (show decode cX2_savedAt 22 = .ok (.getfield 43, 3) by decide +kernel) fl_X2_43 rfl (shc_k hsh 2 (by decide) (by decide)) (v := 21) (shc_r hsh 2 6 (by decide) (by decide) (by decide)) ?_
        refine go_iload_n (show decode cX2_savedAt 25 = .ok (.iload_n 1, 1) by decide +kernel) (by rfl) ?_
        obtain ⟨q1, h⟩ := h
        obtain ⟨q2, h⟩ := h
        refine go_aaload (show decode cX2_savedAt 26 = .ok (.aaload, 1) by decide +kernel) (Or.inr (shc_k hsh 21 (by decide) (by decide))) q1 (lt_n (m := 8) q2 (shc_n hsh 21 (by decide) (by decide))) ?_
        refine go_goto (tgt := 31) (show decode cX2_savedAt 27 = .ok (.goto 4, 3) by decide +kernel) (by decide) ?_
        exact go_aret (show decode cX2_savedAt 31 = .ok (.areturn, 1) by decide +kernel) rfl h
def V_X2_fill_72 (d : Nat) (S : AS) (F : AF) (G : AG) (Q : AQ) (a1 : Int) (a2 : Int) (a3 : Int) (a4 : Int) (a5 : Int) (a7 : Int) (a8 : Int) (a9 : Int) (a10 : Int) : Prop :=
  ((a7 < a10) →
    (r32 (a9 + 1)) ∧
    Go d MX2_fill 52 [some (vR 2), some (vI a1), some (vI a2), some (vI a3), some (vI a4), some (vJ a5), none, some (vI a7), some (vI a8), some (vI (a9 + 1)), none] [] S F G Q) ∧
  ((¬ a7 < a10) →
    (r32 (48 * a9)) ∧
    (r32 ((48 * a9) + a10)) ∧
    ((0 : Int) ≤ (48 * a9) + a10) ∧
    (((48 * a9) + a10 : Int) < 2304) ∧
    ∀ G6 : AG, G6 = gu G 19 ((48 * a9) + a10) a5 →
    (r32 (a10 + 1)) ∧
    Go d MX2_fill 72 [some (vR 2), some (vI a1), some (vI a2), some (vI a3), some (vI a4), some (vJ a5), none, some (vI a7), some (vI a8), some (vI a9), some (vI (a10 + 1))] [] S F G6 Q)
theorem R_X2_fill_72 {d : Nat} {S : AS} {F : AF} {G : AG} {Q : AQ} {a1 : Int} {a2 : Int} {a3 : Int} {a4 : Int} {a5 : Int} {a7 : Int} {a8 : Int} {a9 : Int} {a10 : Int} (hsh : ShC S) (h : V_X2_fill_72 d S F G Q a1 a2 a3 a4 a5 a7 a8 a9 a10) : Go d MX2_fill 72 [some (vR 2), some (vI a1), some (vI a2), some (vI a3), some (vI a4), some (vJ a5), none, some (vI a7), some (vI a8), some (vI a9), some (vI a10)] [] S F G Q := by
  unfold V_X2_fill_72 at h
  refine go_iload (show decode cX2_fill 72 = .ok (.iload 10, 2) by decide +kernel) (by rfl) ?_
  refine go_iload (show decode cX2_fill 74 = .ok (.iload 7, 2) by decide +kernel) (by rfl) ?_
  obtain ⟨ht, hf⟩ := h
  refine go_icmpgt (tgt := 100) (show decode cX2_fill 76 = .ok (.if_icmp .gt 24, 3) by decide +kernel) (by decide) (fun hc => ?_) (fun hc => ?_)
  · have h := ht hc
    obtain ⟨q1, h⟩ := h
    refine go_iinc (show decode cX2_fill 100 = .ok (.iinc 9 1, 3) by decide +kernel) (by rfl) q1 (by decide) ?_
    show Go d MX2_fill 103 [some (vR 2), some (vI a1), some (vI a2), some (vI a3), some (vI a4), some (vJ a5), none, some (vI a7), some (vI a8), some (vI (a9 + 1)), some (vI a10)] [] S F G Q
    refine go_goto (tgt := 52) (show decode cX2_fill 103 = .ok (.goto (-51), 3) by decide +kernel) (by decide) ?_
    refine go_clr 10 ?_
    exact h
  · have h := hf hc
    refine go_aload_n (show decode cX2_fill 79 = .ok (.aload_n 0, 1) by decide +kernel) (by rfl) ?_
    refine go_getRc (show decode cX2_fill 80 = .ok (.getfield 32, 3) by decide +kernel) fl_X2_32 rfl (shc_k hsh 2 (by decide) (by decide)) (v := 19) (shc_r hsh 2 4 (by decide) (by decide) (by decide)) ?_
    refine go_bipush (show decode cX2_fill 83 = .ok (.bipush 48, 2) by decide +kernel) (by decide) ?_
    refine go_iload (show decode cX2_fill 85 = .ok (.iload 9, 2) by decide +kernel) (by rfl) ?_
    obtain ⟨q2, h⟩ := h
    refine go_imul (show decode cX2_fill 87 = .ok (.imul, 1) by decide +kernel) q2 ?_
    refine go_iload (show decode cX2_fill 88 = .ok (.iload 10, 2) by decide +kernel) (by rfl) ?_
    obtain ⟨q3, h⟩ := h
    refine go_iadd (show decode cX2_fill 90 = .ok (.iadd, 1) by decide +kernel) q3 ?_
    refine go_lload (show decode cX2_fill 91 = .ok (.lload 5, 2) by decide +kernel) (by rfl) ?_
    obtain ⟨q4, h⟩ := h
    obtain ⟨q5, h⟩ := h
    refine go_lastore (show decode cX2_fill 93 = .ok (.lastore, 1) by decide +kernel) (shc_k hsh 19 (by decide) (by decide)) q4 (lt_n (m := 2304) q5 (shc_n hsh 19 (by decide) (by decide)))  ?_
    obtain ⟨G6, G6e⟩ : ∃ G6 : AG, G6 = gu G 19 ((48 * a9) + a10) a5 := ⟨_, rfl⟩
    have h := h G6 G6e
    rw [← G6e]
    obtain ⟨q7, h⟩ := h
    refine go_iinc (show decode cX2_fill 94 = .ok (.iinc 10 1, 3) by decide +kernel) (by rfl) q7 (by decide) ?_
    show Go d MX2_fill 97 [some (vR 2), some (vI a1), some (vI a2), some (vI a3), some (vI a4), some (vJ a5), none, some (vI a7), some (vI a8), some (vI a9), some (vI (a10 + 1))] [] S F G6 Q
    refine go_goto (tgt := 72) (show decode cX2_fill 97 = .ok (.goto (-25), 3) by decide +kernel) (by decide) ?_
    exact h
def V_X2_fill_52 (d : Nat) (S : AS) (F : AF) (G : AG) (Q : AQ) (a1 : Int) (a2 : Int) (a3 : Int) (a4 : Int) (a5 : Int) (a7 : Int) (a8 : Int) (a9 : Int) : Prop :=
  ((a8 < a9) →
    Q none S F G) ∧
  ((¬ a8 < a9) →
    (1 ≤ d) ∧
    ∃ z6 : Int, Pu (d - 1) MX1_bandOf [vR 6, vI a1] S F G (some (vI z6)) ∧
    Go d MX2_fill 72 [some (vR 2), some (vI a1), some (vI a2), some (vI a3), some (vI a4), some (vJ a5), none, some (vI a7), some (vI a8), some (vI a9), some (vI z6)] [] S F G Q)
theorem R_X2_fill_52 {d : Nat} {S : AS} {F : AF} {G : AG} {Q : AQ} {a1 : Int} {a2 : Int} {a3 : Int} {a4 : Int} {a5 : Int} {a7 : Int} {a8 : Int} {a9 : Int} (hsh : ShC S) (h : V_X2_fill_52 d S F G Q a1 a2 a3 a4 a5 a7 a8 a9) : Go d MX2_fill 52 [some (vR 2), some (vI a1), some (vI a2), some (vI a3), some (vI a4), some (vJ a5), none, some (vI a7), some (vI a8), some (vI a9), none] [] S F G Q := by
  unfold V_X2_fill_52 at h
  refine go_iload (show decode cX2_fill 52 = .ok (.iload 9, 2) by decide +kernel) (by rfl) ?_
  refine go_iload (show decode cX2_fill 54 = .ok (.iload 8, 2) by decide +kernel) (by rfl) ?_
  obtain ⟨ht, hf⟩ := h
  refine go_icmpgt (tgt := 106) (show decode cX2_fill 56 = .ok (.if_icmp .gt 50, 3) by decide +kernel) (by decide) (fun hc => ?_) (fun hc => ?_)
  · have h := ht hc
    exact go_vret (show decode cX2_fill 106 = .ok (.return_, 1) by decide +kernel) rfl h
  · have h := hf hc
    refine go_aload_n (show decode cX2_fill 59 = .ok (.aload_n 0, 1) by decide +kernel) (by rfl) ?_
    refine go_getRc (show decode cX2_fill 60 = .ok (.getfield 12, 3) by decide +kernel) fl_X2_12 rfl (shc_k hsh 2 (by decide) (by decide)) (v := 3) (shc_r hsh 2 0 (by decide) (by decide) (by decide)) ?_
    refine go_getRc (show decode cX2_fill 63 = .ok (.getfield 155, 3) by decide +kernel) fl_X2_155 rfl (shc_k hsh 3 (by decide) (by decide)) (v := 6) (shc_r hsh 3 1 (by decide) (by decide) (by decide)) ?_
    refine go_iload_n (show decode cX2_fill 66 = .ok (.iload_n 1, 1) by decide +kernel) (by rfl) ?_
    obtain ⟨q1, h⟩ := h
    obtain ⟨z6, p7, h⟩ := h
    refine go_callV (d2 := d - 1) (M2 := MX1_bandOf) (n := 1) (ci := 1) (av := [vI a1]) (st := []) (show decode cX2_fill 67 = .ok (.invokevirtual 99, 3) by decide +kernel) ml_X2_99 mt_X1_bandOf min_X1_bandOf mse_X1_bandOf (by decide) (shc_k hsh 6 (by decide) (by decide)) rfl (Nat.le_of_ble_eq_true rfl) (by omega) (ok_mono p7 (fun w2 S3 F4 G5 e9 => ?_))
    obtain ⟨e1, e2, e3, e4⟩ := e9
    subst e1
    replace e2 := e2.symm; subst e2
    replace e3 := e3.symm; subst e3
    replace e4 := e4.symm; subst e4
    show Go d MX2_fill 70 [some (vR 2), some (vI a1), some (vI a2), some (vI a3), some (vI a4), some (vJ a5), none, some (vI a7), some (vI a8), some (vI a9), none] [vI z6] S F G Q
    refine go_istore (show decode cX2_fill 70 = .ok (.istore 10, 2) by decide +kernel) (by decide) ?_
    show Go d MX2_fill 72 [some (vR 2), some (vI a1), some (vI a2), some (vI a3), some (vI a4), some (vJ a5), none, some (vI a7), some (vI a8), some (vI a9), some (vI z6)] [] S F G Q
    exact h
def V_X2_fill_0 (d : Nat) (S : AS) (F : AF) (G : AG) (Q : AQ) (a1 : Int) (a2 : Int) (a3 : Int) (a4 : Int) (a5 : Int) : Prop :=
  ((a3 < a1) →
    Q none S F G) ∧
  ((¬ a3 < a1) →
    ((a2 ≤ a4) →
      (1 ≤ d) ∧
      ∃ z6 : Int, Pu (d - 1) MX1_bandOf [vR 6, vI a3] S F G (some (vI z6)) ∧
      ∃ z12 : Int, Pu (d - 1) MX1_bandOf [vR 13, vI a4] S F G (some (vI z12)) ∧
      ∃ z18 : Int, Pu (d - 1) MX1_bandOf [vR 13, vI a2] S F G (some (vI z18)) ∧
      Go d MX2_fill 52 [some (vR 2), some (vI a1), some (vI a2), some (vI a3), some (vI a4), some (vJ a5), none, some (vI z6), some (vI z12), some (vI z18), none] [] S F G Q) ∧
    ((¬ a2 ≤ a4) →
      Q none S F G))
theorem R_X2_fill_0 {d : Nat} {S : AS} {F : AF} {G : AG} {Q : AQ} {a1 : Int} {a2 : Int} {a3 : Int} {a4 : Int} {a5 : Int} (hsh : ShC S) (h : V_X2_fill_0 d S F G Q a1 a2 a3 a4 a5) : Go d MX2_fill 0 [some (vR 2), some (vI a1), some (vI a2), some (vI a3), some (vI a4), some (vJ a5), none, none, none, none, none] [] S F G Q := by
  unfold V_X2_fill_0 at h
  refine go_iload_n (show decode cX2_fill 0 = .ok (.iload_n 1, 1) by decide +kernel) (by rfl) ?_
  refine go_iload_n (show decode cX2_fill 1 = .ok (.iload_n 3, 1) by decide +kernel) (by rfl) ?_
  obtain ⟨ht, hf⟩ := h
  refine go_icmpgt (tgt := 11) (show decode cX2_fill 2 = .ok (.if_icmp .gt 9, 3) by decide +kernel) (by decide) (fun hc => ?_) (fun hc => ?_)
  · have h := ht hc
    exact go_vret (show decode cX2_fill 11 = .ok (.return_, 1) by decide +kernel) rfl h
  · have h := hf hc
    refine go_iload_n (show decode cX2_fill 5 = .ok (.iload_n 2, 1) by decide +kernel) (by rfl) ?_
    refine go_iload (show decode cX2_fill 6 = .ok (.iload 4, 2) by decide +kernel) (by rfl) ?_
    obtain ⟨ht, hf⟩ := h
    refine go_icmple (tgt := 12) (show decode cX2_fill 8 = .ok (.if_icmp .le 4, 3) by decide +kernel) (by decide) (fun hc => ?_) (fun hc => ?_)
    · have h := ht hc
      refine go_aload_n (show decode cX2_fill 12 = .ok (.aload_n 0, 1) by decide +kernel) (by rfl) ?_
      refine go_getRc (show decode cX2_fill 13 = .ok (.getfield 12, 3) by decide +kernel) fl_X2_12 rfl (shc_k hsh 2 (by decide) (by decide)) (v := 3) (shc_r hsh 2 0 (by decide) (by decide) (by decide)) ?_
      refine go_getRc (show decode cX2_fill 16 = .ok (.getfield 155, 3) by decide +kernel) fl_X2_155 rfl (shc_k hsh 3 (by decide) (by decide)) (v := 6) (shc_r hsh 3 1 (by decide) (by decide) (by decide)) ?_
      refine go_iload_n (show decode cX2_fill 19 = .ok (.iload_n 3, 1) by decide +kernel) (by rfl) ?_
      obtain ⟨q1, h⟩ := h
      obtain ⟨z6, p7, h⟩ := h
      refine go_callV (d2 := d - 1) (M2 := MX1_bandOf) (n := 1) (ci := 1) (av := [vI a3]) (st := []) (show decode cX2_fill 20 = .ok (.invokevirtual 99, 3) by decide +kernel) ml_X2_99 mt_X1_bandOf min_X1_bandOf mse_X1_bandOf (by decide) (shc_k hsh 6 (by decide) (by decide)) rfl (Nat.le_of_ble_eq_true rfl) (by omega) (ok_mono p7 (fun w2 S3 F4 G5 e9 => ?_))
      obtain ⟨e1, e2, e3, e4⟩ := e9
      subst e1
      replace e2 := e2.symm; subst e2
      replace e3 := e3.symm; subst e3
      replace e4 := e4.symm; subst e4
      show Go d MX2_fill 23 [some (vR 2), some (vI a1), some (vI a2), some (vI a3), some (vI a4), some (vJ a5), none, none, none, none, none] [vI z6] S F G Q
      refine go_istore (show decode cX2_fill 23 = .ok (.istore 7, 2) by decide +kernel) (by decide) ?_
      show Go d MX2_fill 25 [some (vR 2), some (vI a1), some (vI a2), some (vI a3), some (vI a4), some (vJ a5), none, some (vI z6), none, none, none] [] S F G Q
      refine go_aload_n (show decode cX2_fill 25 = .ok (.aload_n 0, 1) by decide +kernel) (by rfl) ?_
      refine go_getRc (show decode cX2_fill 26 = .ok (.getfield 18, 3) by decide +kernel) fl_X2_18 rfl (shc_k hsh 2 (by decide) (by decide)) (v := 10) (shc_r hsh 2 1 (by decide) (by decide) (by decide)) ?_
      refine go_getRc (show decode cX2_fill 29 = .ok (.getfield 155, 3) by decide +kernel) fl_X2_155 rfl (shc_k hsh 10 (by decide) (by decide)) (v := 13) (shc_r hsh 10 1 (by decide) (by decide) (by decide)) ?_
      refine go_iload (show decode cX2_fill 32 = .ok (.iload 4, 2) by decide +kernel) (by rfl) ?_
      obtain ⟨z12, p13, h⟩ := h
      refine go_callV (d2 := d - 1) (M2 := MX1_bandOf) (n := 1) (ci := 1) (av := [vI a4]) (st := []) (show decode cX2_fill 34 = .ok (.invokevirtual 99, 3) by decide +kernel) ml_X2_99 mt_X1_bandOf min_X1_bandOf mse_X1_bandOf (by decide) (shc_k hsh 13 (by decide) (by decide)) rfl (Nat.le_of_ble_eq_true rfl) (by omega) (ok_mono p13 (fun w8 S9 F10 G11 e9 => ?_))
      obtain ⟨e1, e2, e3, e4⟩ := e9
      subst e1
      replace e2 := e2.symm; subst e2
      replace e3 := e3.symm; subst e3
      replace e4 := e4.symm; subst e4
      show Go d MX2_fill 37 [some (vR 2), some (vI a1), some (vI a2), some (vI a3), some (vI a4), some (vJ a5), none, some (vI z6), none, none, none] [vI z12] S F G Q
      refine go_istore (show decode cX2_fill 37 = .ok (.istore 8, 2) by decide +kernel) (by decide) ?_
      show Go d MX2_fill 39 [some (vR 2), some (vI a1), some (vI a2), some (vI a3), some (vI a4), some (vJ a5), none, some (vI z6), some (vI z12), none, none] [] S F G Q
      refine go_aload_n (show decode cX2_fill 39 = .ok (.aload_n 0, 1) by decide +kernel) (by rfl) ?_
      refine go_getRc (show decode cX2_fill 40 = .ok (.getfield 18, 3) by decide +kernel) fl_X2_18 rfl (shc_k hsh 2 (by decide) (by decide)) (v := 10) (shc_r hsh 2 1 (by decide) (by decide) (by decide)) ?_
      refine go_getRc (show decode cX2_fill 43 = .ok (.getfield 155, 3) by decide +kernel) fl_X2_155 rfl (shc_k hsh 10 (by decide) (by decide)) (v := 13) (shc_r hsh 10 1 (by decide) (by decide) (by decide)) ?_
      refine go_iload_n (show decode cX2_fill 46 = .ok (.iload_n 2, 1) by decide +kernel) (by rfl) ?_
      obtain ⟨z18, p19, h⟩ := h
      refine go_callV (d2 := d - 1) (M2 := MX1_bandOf) (n := 1) (ci := 1) (av := [vI a2]) (st := []) (show decode cX2_fill 47 = .ok (.invokevirtual 99, 3) by decide +kernel) ml_X2_99 mt_X1_bandOf min_X1_bandOf mse_X1_bandOf (by decide) (shc_k hsh 13 (by decide) (by decide)) rfl (Nat.le_of_ble_eq_true rfl) (by omega) (ok_mono p19 (fun w14 S15 F16 G17 e9 => ?_))
      obtain ⟨e1, e2, e3, e4⟩ := e9
      subst e1
      replace e2 := e2.symm; subst e2
      replace e3 := e3.symm; subst e3
      replace e4 := e4.symm; subst e4
      show Go d MX2_fill 50 [some (vR 2), some (vI a1), some (vI a2), some (vI a3), some (vI a4), some (vJ a5), none, some (vI z6), some (vI z12), none, none] [vI z18] S F G Q
      refine go_istore (show decode cX2_fill 50 = .ok (.istore 9, 2) by decide +kernel) (by decide) ?_
      show Go d MX2_fill 52 [some (vR 2), some (vI a1), some (vI a2), some (vI a3), some (vI a4), some (vJ a5), none, some (vI z6), some (vI z12), some (vI z18), none] [] S F G Q
      exact h
    · have h := hf hc
      exact go_vret (show decode cX2_fill 11 = .ok (.return_, 1) by decide +kernel) rfl h
def V_X2_number_0 (d : Nat) (S : AS) (F : AF) (G : AG) (Q : AQ) (a1 : Int) (a2 : Int) : Prop :=
  (1 ≤ d) ∧
  ∃ z6 : Int, Pu (d - 1) MX3_width [vR 17] S F G (some (vI z6)) ∧
  (r64 (z6 * a2)) ∧
  (r64 ((z6 * a2) + a1)) ∧
  Q (some (vJ ((z6 * a2) + a1))) S F G
theorem R_X2_number_0 {d : Nat} {S : AS} {F : AF} {G : AG} {Q : AQ} {a1 : Int} {a2 : Int} (hsh : ShC S) (h : V_X2_number_0 d S F G Q a1 a2) : Go d MX2_number 0 [some (vR 2), some (vI a1), some (vI a2)] [] S F G Q := by
  unfold V_X2_number_0 at h
  refine go_aload_n (show decode cX2_number 0 = .ok (.aload_n 0, 1) by decide +kernel) (by rfl) ?_
  refine go_getRc (show decode cX2_number 1 = .ok (.getfield 24, 3) by decide +kernel) fl_X2_24 rfl (shc_k hsh 2 (by decide) (by decide)) (v := 17) (shc_r hsh 2 2 (by decide) (by decide) (by decide)) ?_
  obtain ⟨q1, h⟩ := h
  obtain ⟨z6, p7, h⟩ := h
  refine go_callV (d2 := d - 1) (M2 := MX3_width) (n := 0) (ci := 3) (av := []) (st := []) (show decode cX2_number 4 = .ok (.invokevirtual 86, 3) by decide +kernel) ml_X2_86 mt_X3_width min_X3_width mse_X3_width (by decide) (shc_k hsh 17 (by decide) (by decide)) rfl (Nat.le_of_ble_eq_true rfl) (by omega) (ok_mono p7 (fun w2 S3 F4 G5 e9 => ?_))
  obtain ⟨e1, e2, e3, e4⟩ := e9
  subst e1
  replace e2 := e2.symm; subst e2
  replace e3 := e3.symm; subst e3
  replace e4 := e4.symm; subst e4
  show Go d MX2_number 7 [some (vR 2), some (vI a1), some (vI a2)] [vI z6] S F G Q
  refine go_i2l (show decode cX2_number 7 = .ok (.i2l, 1) by decide +kernel) ?_
  refine go_iload_n (show decode cX2_number 8 = .ok (.iload_n 2, 1) by decide +kernel) (by rfl) ?_
  refine go_i2l (show decode cX2_number 9 = .ok (.i2l, 1) by decide +kernel) ?_
  obtain ⟨q8, h⟩ := h
  refine go_lmul (show decode cX2_number 10 = .ok (.lmul, 1) by decide +kernel) q8 ?_
  refine go_iload_n (show decode cX2_number 11 = .ok (.iload_n 1, 1) by decide +kernel) (by rfl) ?_
  refine go_i2l (show decode cX2_number 12 = .ok (.i2l, 1) by decide +kernel) ?_
  obtain ⟨q9, h⟩ := h
  refine go_ladd (show decode cX2_number 13 = .ok (.ladd, 1) by decide +kernel) q9 ?_
  exact go_lret (show decode cX2_number 14 = .ok (.lreturn, 1) by decide +kernel) rfl h
def V_X2_bring_147 (d : Nat) (S : AS) (F : AF) (G : AG) (Q : AQ) (a1 : Int) (a2 : Nat) (a3 : Int) (a4 : Int) (a5 : Int) (a6 : Int) (a7 : Int) (a8 : Int) : Prop :=
  (r32 (a6 + 1)) ∧
  Go d MX2_bring 70 [some (vR 2), some (vI a1), some (vR a2), some (vI a3), some (vI a4), some (vI a5), some (vI (a6 + 1)), none, none] [] S F G Q
theorem R_X2_bring_147 {d : Nat} {S : AS} {F : AF} {G : AG} {Q : AQ} {a1 : Int} {a2 : Nat} {a3 : Int} {a4 : Int} {a5 : Int} {a6 : Int} {a7 : Int} {a8 : Int} (hsh : ShC S) (hk2 : AtRect S a2) (h : V_X2_bring_147 d S F G Q a1 a2 a3 a4 a5 a6 a7 a8) : Go d MX2_bring 147 [some (vR 2), some (vI a1), some (vR a2), some (vI a3), some (vI a4), some (vI a5), some (vI a6), some (vI a7), some (vI a8)] [] S F G Q := by
  unfold V_X2_bring_147 at h
  obtain ⟨q1, h⟩ := h
  refine go_iinc (show decode cX2_bring 147 = .ok (.iinc 6 1, 3) by decide +kernel) (by rfl) q1 (by decide) ?_
  show Go d MX2_bring 150 [some (vR 2), some (vI a1), some (vR a2), some (vI a3), some (vI a4), some (vI a5), some (vI (a6 + 1)), some (vI a7), some (vI a8)] [] S F G Q
  refine go_goto (tgt := 70) (show decode cX2_bring 150 = .ok (.goto (-80), 3) by decide +kernel) (by decide) ?_
  refine go_clr 7 ?_
  refine go_clr 8 ?_
  exact h
def V_X2_bring_70 (d : Nat) (S : AS) (F : AF) (G : AG) (Q : AQ) (a1 : Int) (a2 : Nat) (a3 : Int) (a4 : Int) (a5 : Int) (a6 : Int) : Prop :=
  ((a3 < a6) →
    (r32 (a5 + 1)) ∧
    Go d MX2_bring 47 [some (vR 2), some (vI a1), some (vR a2), some (vI a3), some (vI a4), some (vI (a5 + 1)), none, none, none] [] S F G Q) ∧
  ((¬ a3 < a6) →
    ((0 : Int) ≤ a6) ∧
    ((a6 : Int) < 48) ∧
    ∀ x4 : Int, x4 = G 9 a6 →
    ((0 : Int) ≤ a5) ∧
    ((a5 : Int) < 48) ∧
    ∀ x7 : Int, x7 = G 16 a5 →
    ((x4 = -1) →
      V_X2_bring_147 d S F G Q a1 a2 a3 a4 a5 a6 x4 x7) ∧
    ((¬ x4 = -1) →
      ((x7 = -1) →
        V_X2_bring_147 d S F G Q a1 a2 a3 a4 a5 a6 x4 x7) ∧
      ((¬ x7 = -1) →
        (r32 (48 * a5)) ∧
        (r32 ((48 * a5) + a6)) ∧
        ((0 : Int) ≤ (48 * a5) + a6) ∧
        (((48 * a5) + a6 : Int) < 2304) ∧
        (r32 (a1 * 2304)) ∧
        (r32 (48 * x7)) ∧
        (r32 ((a1 * 2304) + (48 * x7))) ∧
        (r32 (((a1 * 2304) + (48 * x7)) + x4)) ∧
        ((0 : Int) ≤ ((a1 * 2304) + (48 * x7)) + x4) ∧
        ((((a1 * 2304) + (48 * x7)) + x4 : Int) < 6912) ∧
        (r64 ((G 19 ((48 * a5) + a6)) + (G 18 (((a1 * 2304) + (48 * x7)) + x4)))) ∧
        ∀ G19 : AG, G19 = gu G 19 ((48 * a5) + a6) ((G 19 ((48 * a5) + a6)) + (G 18 (((a1 * 2304) + (48 * x7)) + x4))) →
        V_X2_bring_147 d S F G19 Q a1 a2 a3 a4 a5 a6 x4 x7)))
theorem R_X2_bring_70 {d : Nat} {S : AS} {F : AF} {G : AG} {Q : AQ} {a1 : Int} {a2 : Nat} {a3 : Int} {a4 : Int} {a5 : Int} {a6 : Int} (hsh : ShC S) (hk2 : AtRect S a2) (h : V_X2_bring_70 d S F G Q a1 a2 a3 a4 a5 a6) : Go d MX2_bring 70 [some (vR 2), some (vI a1), some (vR a2), some (vI a3), some (vI a4), some (vI a5), some (vI a6), none, none] [] S F G Q := by
  unfold V_X2_bring_70 at h
  refine go_iload (show decode cX2_bring 70 = .ok (.iload 6, 2) by decide +kernel) (by rfl) ?_
  refine go_iload_n (show decode cX2_bring 72 = .ok (.iload_n 3, 1) by decide +kernel) (by rfl) ?_
  obtain ⟨ht, hf⟩ := h
  refine go_icmpgt (tgt := 153) (show decode cX2_bring 73 = .ok (.if_icmp .gt 80, 3) by decide +kernel) (by decide) (fun hc => ?_) (fun hc => ?_)
  · have h := ht hc
    obtain ⟨q1, h⟩ := h
    refine go_iinc (show decode cX2_bring 153 = .ok (.iinc 5 1, 3) by decide +kernel) (by rfl) q1 (by decide) ?_
    show Go d MX2_bring 156 [some (vR 2), some (vI a1), some (vR a2), some (vI a3), some (vI a4), some (vI (a5 + 1)), some (vI a6), none, none] [] S F G Q
    refine go_goto (tgt := 47) (show decode cX2_bring 156 = .ok (.goto (-109), 3) by decide +kernel) (by decide) ?_
    refine go_clr 6 ?_
    exact h
  · have h := hf hc
    refine go_aload_n (show decode cX2_bring 76 = .ok (.aload_n 0, 1) by decide +kernel) (by rfl) ?_
    refine go_getRc (show decode cX2_bring 77 = .ok (.getfield 12, 3) by decide +kernel) fl_X2_12 rfl (shc_k hsh 2 (by decide) (by decide)) (v := 3) (shc_r hsh 2 0 (by decide) (by decide) (by decide)) ?_
    refine go_getRc (show decode cX2_bring 80 = .ok (.getfield 204, 3) by decide +kernel) fl_X2_204 rfl (shc_k hsh 3 (by decide) (by decide)) (v := 9) (shc_r hsh 3 3 (by decide) (by decide) (by decide)) ?_
    refine go_iload (show decode cX2_bring 83 = .ok (.iload 6, 2) by decide +kernel) (by rfl) ?_
    obtain ⟨q2, h⟩ := h
    obtain ⟨q3, h⟩ := h
    refine go_iaload (show decode cX2_bring 85 = .ok (.iaload, 1) by decide +kernel) (shc_k hsh 9 (by decide) (by decide)) q2 (lt_n (m := 48) q3 (shc_n hsh 9 (by decide) (by decide))) ?_
    obtain ⟨x4, x4e⟩ : ∃ x4 : Int, x4 = G 9 a6 := ⟨_, rfl⟩
    have h := h x4 x4e
    rw [← x4e]
    refine go_istore (show decode cX2_bring 86 = .ok (.istore 7, 2) by decide +kernel) (by decide) ?_
    show Go d MX2_bring 88 [some (vR 2), some (vI a1), some (vR a2), some (vI a3), some (vI a4), some (vI a5), some (vI a6), some (vI x4), none] [] S F G Q
    refine go_aload_n (show decode cX2_bring 88 = .ok (.aload_n 0, 1) by decide +kernel) (by rfl) ?_
    refine go_getRc (show decode cX2_bring 89 = .ok (.getfield 18, 3) by decide +kernel) fl_X2_18 rfl (shc_k hsh 2 (by decide) (by decide)) (v := 10) (shc_r hsh 2 1 (by decide) (by decide) (by decide)) ?_
    refine go_getRc (show decode cX2_bring 92 = .ok (.getfield 204, 3) by decide +kernel) fl_X2_204 rfl (shc_k hsh 10 (by decide) (by decide)) (v := 16) (shc_r hsh 10 3 (by decide) (by decide) (by decide)) ?_
    refine go_iload (show decode cX2_bring 95 = .ok (.iload 5, 2) by decide +kernel) (by rfl) ?_
    obtain ⟨q5, h⟩ := h
    obtain ⟨q6, h⟩ := h
    refine go_iaload (show decode cX2_bring 97 = .ok (.iaload, 1) by decide +kernel) (shc_k hsh 16 (by decide) (by decide)) q5 (lt_n (m := 48) q6 (shc_n hsh 16 (by decide) (by decide))) ?_
    obtain ⟨x7, x7e⟩ : ∃ x7 : Int, x7 = G 16 a5 := ⟨_, rfl⟩
    have h := h x7 x7e
    rw [← x7e]
    refine go_istore (show decode cX2_bring 98 = .ok (.istore 8, 2) by decide +kernel) (by decide) ?_
    show Go d MX2_bring 100 [some (vR 2), some (vI a1), some (vR a2), some (vI a3), some (vI a4), some (vI a5), some (vI a6), some (vI x4), some (vI x7)] [] S F G Q
    refine go_iload (show decode cX2_bring 100 = .ok (.iload 7, 2) by decide +kernel) (by rfl) ?_
    refine go_iconst (show decode cX2_bring 102 = .ok (.iconst (-1), 1) by decide +kernel) (by decide) ?_
    obtain ⟨ht, hf⟩ := h
    refine go_icmpeq (tgt := 147) (show decode cX2_bring 103 = .ok (.if_icmp .eq 44, 3) by decide +kernel) (by decide) (fun hc => ?_) (fun hc => ?_)
    · have h := ht hc
      exact R_X2_bring_147 hsh hk2 h
    · have h := hf hc
      refine go_iload (show decode cX2_bring 106 = .ok (.iload 8, 2) by decide +kernel) (by rfl) ?_
      refine go_iconst (show decode cX2_bring 108 = .ok (.iconst (-1), 1) by decide +kernel) (by decide) ?_
      obtain ⟨ht, hf⟩ := h
      refine go_icmpeq (tgt := 147) (show decode cX2_bring 109 = .ok (.if_icmp .eq 38, 3) by decide +kernel) (by decide) (fun hc => ?_) (fun hc => ?_)
      · have h := ht hc
        exact R_X2_bring_147 hsh hk2 h
      · have h := hf hc
        refine go_aload_n (show decode cX2_bring 112 = .ok (.aload_n 0, 1) by decide +kernel) (by rfl) ?_
        refine go_getRc (show decode cX2_bring 113 = .ok (.getfield 32, 3) by decide +kernel) fl_X2_32 rfl (shc_k hsh 2 (by decide) (by decide)) (v := 19) (shc_r hsh 2 4 (by decide) (by decide) (by decide)) ?_
        refine go_bipush (show decode cX2_bring 116 = .ok (.bipush 48, 2) by decide +kernel) (by decide) ?_
        refine go_iload (show decode cX2_bring 118 = .ok (.iload 5, 2) by decide +kernel) (by rfl) ?_
        obtain ⟨q8, h⟩ := h
        refine go_imul (show decode cX2_bring 120 = .ok (.imul, 1) by decide +kernel) q8 ?_
        refine go_iload (show decode cX2_bring 121 = .ok (.iload 6, 2) by decide +kernel) (by rfl) ?_
        obtain ⟨q9, h⟩ := h
        refine go_iadd (show decode cX2_bring 123 = .ok (.iadd, 1) by decide +kernel) q9 ?_
        refine go_dup2 (show decode cX2_bring 124 = .ok (.dup2, 1) by decide +kernel) ?_
        obtain ⟨q10, h⟩ := h
        obtain ⟨q11, h⟩ := h
        refine go_laload (show decode cX2_bring 125 = .ok (.laload, 1) by decide +kernel) (shc_k hsh 19 (by decide) (by decide)) q10 (lt_n (m := 2304) q11 (shc_n hsh 19 (by decide) (by decide))) ?_
        refine go_aload_n (show decode cX2_bring 126 = .ok (.aload_n 0, 1) by decide +kernel) (by rfl) ?_
        refine go_getRc (show decode cX2_bring 127 = .ok (.getfield 28, 3) by decide +kernel) fl_X2_28 rfl (shc_k hsh 2 (by decide) (by decide)) (v := 18) (shc_r hsh 2 3 (by decide) (by decide) (by decide)) ?_
        refine go_iload_n (show decode cX2_bring 130 = .ok (.iload_n 1, 1) by decide +kernel) (by rfl) ?_
        refine go_sipush (show decode cX2_bring 131 = .ok (.sipush 2304, 3) by decide +kernel) (by decide) ?_
        obtain ⟨q12, h⟩ := h
        refine go_imul (show decode cX2_bring 134 = .ok (.imul, 1) by decide +kernel) q12 ?_
        refine go_bipush (show decode cX2_bring 135 = .ok (.bipush 48, 2) by decide +kernel) (by decide) ?_
        refine go_iload (show decode cX2_bring 137 = .ok (.iload 8, 2) by decide +kernel) (by rfl) ?_
        obtain ⟨q13, h⟩ := h
        refine go_imul (show decode cX2_bring 139 = .ok (.imul, 1) by decide +kernel) q13 ?_
        obtain ⟨q14, h⟩ := h
        refine go_iadd (show decode cX2_bring 140 = .ok (.iadd, 1) by decide +kernel) q14 ?_
        refine go_iload (show decode cX2_bring 141 = .ok (.iload 7, 2) by decide +kernel) (by rfl) ?_
        obtain ⟨q15, h⟩ := h
        refine go_iadd (show decode cX2_bring 143 = .ok (.iadd, 1) by decide +kernel) q15 ?_
        obtain ⟨q16, h⟩ := h
        obtain ⟨q17, h⟩ := h
        refine go_laload (show decode cX2_bring 144 = .ok (.laload, 1) by decide +kernel) (shc_k hsh 18 (by decide) (by decide)) q16 (lt_n (m := 6912) q17 (shc_n hsh 18 (by decide) (by decide))) ?_
        obtain ⟨q18, h⟩ := h
        refine go_ladd (show decode cX2_bring 145 = .ok (.ladd, 1) by decide +kernel) q18 ?_
        refine go_lastore (show decode cX2_bring 146 = .ok (.lastore, 1) by decide +kernel) (shc_k hsh 19 (by decide) (by decide)) q10 (lt_n (m := 2304) q11 (shc_n hsh 19 (by decide) (by decide)))  ?_
        obtain ⟨G19, G19e⟩ : ∃ G19 : AG, G19 = gu G 19 ((48 * a5) + a6) ((G 19 ((48 * a5) + a6)) + (G 18 (((a1 * 2304) + (48 * x7)) + x4))) := ⟨_, rfl⟩
        have h := h G19 G19e
        rw [← G19e]
        exact R_X2_bring_147 hsh hk2 h
def V_X2_bring_47 (d : Nat) (S : AS) (F : AF) (G : AG) (Q : AQ) (a1 : Int) (a2 : Nat) (a3 : Int) (a4 : Int) (a5 : Int) : Prop :=
  ((a4 < a5) →
    Q none S F G) ∧
  ((¬ a4 < a5) →
    (1 ≤ d) ∧
    ∃ z6 : Int, Pu (d - 1) MX1_bandOf [vR 6, vI (F a2 0)] S F G (some (vI z6)) ∧
    Go d MX2_bring 70 [some (vR 2), some (vI a1), some (vR a2), some (vI a3), some (vI a4), some (vI a5), some (vI z6), none, none] [] S F G Q)
theorem R_X2_bring_47 {d : Nat} {S : AS} {F : AF} {G : AG} {Q : AQ} {a1 : Int} {a2 : Nat} {a3 : Int} {a4 : Int} {a5 : Int} (hsh : ShC S) (hk2 : AtRect S a2) (h : V_X2_bring_47 d S F G Q a1 a2 a3 a4 a5) : Go d MX2_bring 47 [some (vR 2), some (vI a1), some (vR a2), some (vI a3), some (vI a4), some (vI a5), none, none, none] [] S F G Q := by
  unfold V_X2_bring_47 at h
  refine go_iload (show decode cX2_bring 47 = .ok (.iload 5, 2) by decide +kernel) (by rfl) ?_
  refine go_iload (show decode cX2_bring 49 = .ok (.iload 4, 2) by decide +kernel) (by rfl) ?_
  obtain ⟨ht, hf⟩ := h
  refine go_icmpgt (tgt := 159) (show decode cX2_bring 51 = .ok (.if_icmp .gt 108, 3) by decide +kernel) (by decide) (fun hc => ?_) (fun hc => ?_)
  · have h := ht hc
    exact go_vret (show decode cX2_bring 159 = .ok (.return_, 1) by decide +kernel) rfl h
  · have h := hf hc
    refine go_aload_n (show decode cX2_bring 54 = .ok (.aload_n 0, 1) by decide +kernel) (by rfl) ?_
    refine go_getRc (show decode cX2_bring 55 = .ok (.getfield 12, 3) by decide +kernel) fl_X2_12 rfl (shc_k hsh 2 (by decide) (by decide)) (v := 3) (shc_r hsh 2 0 (by decide) (by decide) (by decide)) ?_
    refine go_getRc (show decode cX2_bring 58 = .ok (.getfield 155, 3) by decide +kernel) fl_X2_155 rfl (shc_k hsh 3 (by decide) (by decide)) (v := 6) (shc_r hsh 3 1 (by decide) (by decide) (by decide)) ?_
    refine go_aload_n (show decode cX2_bring 61 = .ok (.aload_n 2, 1) by decide +kernel) (by rfl) ?_
    refine go_getI (show decode cX2_bring 62 = .ok (.getfield 74, 3) by decide +kernel) fl_X2_74 (Or.inl rfl) hk2 ?_
    obtain ⟨q1, h⟩ := h
    obtain ⟨z6, p7, h⟩ := h
    refine go_callV (d2 := d - 1) (M2 := MX1_bandOf) (n := 1) (ci := 1) (av := [vI (F a2 0)]) (st := []) (show decode cX2_bring 65 = .ok (.invokevirtual 99, 3) by decide +kernel) ml_X2_99 mt_X1_bandOf min_X1_bandOf mse_X1_bandOf (by decide) (shc_k hsh 6 (by decide) (by decide)) rfl (Nat.le_of_ble_eq_true rfl) (by omega) (ok_mono p7 (fun w2 S3 F4 G5 e9 => ?_))
    obtain ⟨e1, e2, e3, e4⟩ := e9
    subst e1
    replace e2 := e2.symm; subst e2
    replace e3 := e3.symm; subst e3
    replace e4 := e4.symm; subst e4
    show Go d MX2_bring 68 [some (vR 2), some (vI a1), some (vR a2), some (vI a3), some (vI a4), some (vI a5), none, none, none] [vI z6] S F G Q
    refine go_istore (show decode cX2_bring 68 = .ok (.istore 6, 2) by decide +kernel) (by decide) ?_
    show Go d MX2_bring 70 [some (vR 2), some (vI a1), some (vR a2), some (vI a3), some (vI a4), some (vI a5), some (vI z6), none, none] [] S F G Q
    exact h
def V_X2_bring_0 (d : Nat) (S : AS) (F : AF) (G : AG) (Q : AQ) (a1 : Int) (a2 : Nat) : Prop :=
  (1 ≤ d) ∧
  ∃ z6 : Int, Pu (d - 1) MX1_bandOf [vR 6, vI (F a2 2)] S F G (some (vI z6)) ∧
  ∃ z12 : Int, Pu (d - 1) MX1_bandOf [vR 13, vI (F a2 3)] S F G (some (vI z12)) ∧
  ∃ z18 : Int, Pu (d - 1) MX1_bandOf [vR 13, vI (F a2 1)] S F G (some (vI z18)) ∧
  Go d MX2_bring 47 [some (vR 2), some (vI a1), some (vR a2), some (vI z6), some (vI z12), some (vI z18), none, none, none] [] S F G Q
theorem R_X2_bring_0 {d : Nat} {S : AS} {F : AF} {G : AG} {Q : AQ} {a1 : Int} {a2 : Nat} (hsh : ShC S) (hk2 : AtRect S a2) (h : V_X2_bring_0 d S F G Q a1 a2) : Go d MX2_bring 0 [some (vR 2), some (vI a1), some (vR a2), none, none, none, none, none, none] [] S F G Q := by
  unfold V_X2_bring_0 at h
  refine go_aload_n (show decode cX2_bring 0 = .ok (.aload_n 0, 1) by decide +kernel) (by rfl) ?_
  refine go_getRc (show decode cX2_bring 1 = .ok (.getfield 12, 3) by decide +kernel) fl_X2_12 rfl (shc_k hsh 2 (by decide) (by decide)) (v := 3) (shc_r hsh 2 0 (by decide) (by decide) (by decide)) ?_
  refine go_getRc (show decode cX2_bring 4 = .ok (.getfield 155, 3) by decide +kernel) fl_X2_155 rfl (shc_k hsh 3 (by decide) (by decide)) (v := 6) (shc_r hsh 3 1 (by decide) (by decide) (by decide)) ?_
  refine go_aload_n (show decode cX2_bring 7 = .ok (.aload_n 2, 1) by decide +kernel) (by rfl) ?_
  refine go_getI (show decode cX2_bring 8 = .ok (.getfield 77, 3) by decide +kernel) fl_X2_77 (Or.inl rfl) hk2 ?_
  obtain ⟨q1, h⟩ := h
  obtain ⟨z6, p7, h⟩ := h
  refine go_callV (d2 := d - 1) (M2 := MX1_bandOf) (n := 1) (ci := 1) (av := [vI (F a2 2)]) (st := []) (show decode cX2_bring 11 = .ok (.invokevirtual 99, 3) by decide +kernel) ml_X2_99 mt_X1_bandOf min_X1_bandOf mse_X1_bandOf (by decide) (shc_k hsh 6 (by decide) (by decide)) rfl (Nat.le_of_ble_eq_true rfl) (by omega) (ok_mono p7 (fun w2 S3 F4 G5 e9 => ?_))
  obtain ⟨e1, e2, e3, e4⟩ := e9
  subst e1
  replace e2 := e2.symm; subst e2
  replace e3 := e3.symm; subst e3
  replace e4 := e4.symm; subst e4
  show Go d MX2_bring 14 [some (vR 2), some (vI a1), some (vR a2), none, none, none, none, none, none] [vI z6] S F G Q
  refine go_istore_n (show decode cX2_bring 14 = .ok (.istore_n 3, 1) by decide +kernel) (by decide) ?_
  show Go d MX2_bring 15 [some (vR 2), some (vI a1), some (vR a2), some (vI z6), none, none, none, none, none] [] S F G Q
  refine go_aload_n (show decode cX2_bring 15 = .ok (.aload_n 0, 1) by decide +kernel) (by rfl) ?_
  refine go_getRc (show decode cX2_bring 16 = .ok (.getfield 18, 3) by decide +kernel) fl_X2_18 rfl (shc_k hsh 2 (by decide) (by decide)) (v := 10) (shc_r hsh 2 1 (by decide) (by decide) (by decide)) ?_
  refine go_getRc (show decode cX2_bring 19 = .ok (.getfield 155, 3) by decide +kernel) fl_X2_155 rfl (shc_k hsh 10 (by decide) (by decide)) (v := 13) (shc_r hsh 10 1 (by decide) (by decide) (by decide)) ?_
  refine go_aload_n (show decode cX2_bring 22 = .ok (.aload_n 2, 1) by decide +kernel) (by rfl) ?_
  refine go_getI (show decode cX2_bring 23 = .ok (.getfield 83, 3) by decide +kernel) fl_X2_83 (Or.inl rfl) hk2 ?_
  obtain ⟨z12, p13, h⟩ := h
  refine go_callV (d2 := d - 1) (M2 := MX1_bandOf) (n := 1) (ci := 1) (av := [vI (F a2 3)]) (st := []) (show decode cX2_bring 26 = .ok (.invokevirtual 99, 3) by decide +kernel) ml_X2_99 mt_X1_bandOf min_X1_bandOf mse_X1_bandOf (by decide) (shc_k hsh 13 (by decide) (by decide)) rfl (Nat.le_of_ble_eq_true rfl) (by omega) (ok_mono p13 (fun w8 S9 F10 G11 e9 => ?_))
  obtain ⟨e1, e2, e3, e4⟩ := e9
  subst e1
  replace e2 := e2.symm; subst e2
  replace e3 := e3.symm; subst e3
  replace e4 := e4.symm; subst e4
  show Go d MX2_bring 29 [some (vR 2), some (vI a1), some (vR a2), some (vI z6), none, none, none, none, none] [vI z12] S F G Q
  refine go_istore (show decode cX2_bring 29 = .ok (.istore 4, 2) by decide +kernel) (by decide) ?_
  show Go d MX2_bring 31 [some (vR 2), some (vI a1), some (vR a2), some (vI z6), some (vI z12), none, none, none, none] [] S F G Q
  refine go_aload_n (show decode cX2_bring 31 = .ok (.aload_n 0, 1) by decide +kernel) (by rfl) ?_
  refine go_getRc (show decode cX2_bring 32 = .ok (.getfield 18, 3) by decide +kernel) fl_X2_18 rfl (shc_k hsh 2 (by decide) (by decide)) (v := 10) (shc_r hsh 2 1 (by decide) (by decide) (by decide)) ?_
  refine go_getRc (show decode cX2_bring 35 = .ok (.getfield 155, 3) by decide +kernel) fl_X2_155 rfl (shc_k hsh 10 (by decide) (by decide)) (v := 13) (shc_r hsh 10 1 (by decide) (by decide) (by decide)) ?_
  refine go_aload_n (show decode cX2_bring 38 = .ok (.aload_n 2, 1) by decide +kernel) (by rfl) ?_
  refine go_getI (show decode cX2_bring 39 = .ok (.getfield 80, 3) by decide +kernel) fl_X2_80 (Or.inl rfl) hk2 ?_
  obtain ⟨z18, p19, h⟩ := h
  refine go_callV (d2 := d - 1) (M2 := MX1_bandOf) (n := 1) (ci := 1) (av := [vI (F a2 1)]) (st := []) (show decode cX2_bring 42 = .ok (.invokevirtual 99, 3) by decide +kernel) ml_X2_99 mt_X1_bandOf min_X1_bandOf mse_X1_bandOf (by decide) (shc_k hsh 13 (by decide) (by decide)) rfl (Nat.le_of_ble_eq_true rfl) (by omega) (ok_mono p19 (fun w14 S15 F16 G17 e9 => ?_))
  obtain ⟨e1, e2, e3, e4⟩ := e9
  subst e1
  replace e2 := e2.symm; subst e2
  replace e3 := e3.symm; subst e3
  replace e4 := e4.symm; subst e4
  show Go d MX2_bring 45 [some (vR 2), some (vI a1), some (vR a2), some (vI z6), some (vI z12), none, none, none, none] [vI z18] S F G Q
  refine go_istore (show decode cX2_bring 45 = .ok (.istore 5, 2) by decide +kernel) (by decide) ?_
  show Go d MX2_bring 47 [some (vR 2), some (vI a1), some (vR a2), some (vI z6), some (vI z12), some (vI z18), none, none, none] [] S F G Q
  exact h
def V_X2_trialRefusal_0 (d : Nat) (S : AS) (F : AF) (G : AG) (Q : AQ) (a1 : Int) : Prop :=
  (1 ≤ d) ∧
  ∃ z6 : Int, Pu (d - 1) MX2_trialOverCap [vR 2, vI a1] S F G (some (vI z6)) ∧
  ((z6 = 0) →
    ∃ z12 : Int, Pu (d - 1) MX2_trialOverLimit [vR 2, vI a1] S F G (some (vI z12)) ∧
    ((z12 = 0) →
      Q (some (vI 0)) S F G) ∧
    ((¬ z12 = 0) →
      Q (some (vI (-9))) S F G)) ∧
  ((¬ z6 = 0) →
    Q (some (vI (-7))) S F G)
theorem R_X2_trialRefusal_0 {d : Nat} {S : AS} {F : AF} {G : AG} {Q : AQ} {a1 : Int} (hsh : ShC S) (h : V_X2_trialRefusal_0 d S F G Q a1) : Go d MX2_trialRefusal 0 [some (vR 2), some (vI a1)] [] S F G Q := by
  unfold V_X2_trialRefusal_0 at h
  refine go_aload_n (show decode cX2_trialRefusal 0 = .ok (.aload_n 0, 1) by decide +kernel) (by rfl) ?_
  refine go_iload_n (show decode cX2_trialRefusal 1 = .ok (.iload_n 1, 1) by decide +kernel) (by rfl) ?_
  obtain ⟨q1, h⟩ := h
  obtain ⟨z6, p7, h⟩ := h
  refine go_callV (d2 := d - 1) (M2 := MX2_trialOverCap) (n := 1) (ci := 2) (av := [vI a1]) (st := []) (show decode cX2_trialRefusal 2 = .ok (.invokevirtual 207, 3) by decide +kernel) ml_X2_207 mt_X2_trialOverCap min_X2_trialOverCap mse_X2_trialOverCap (by decide) (shc_k hsh 2 (by decide) (by decide)) rfl (Nat.le_of_ble_eq_true rfl) (by omega) (ok_mono p7 (fun w2 S3 F4 G5 e9 => ?_))
  obtain ⟨e1, e2, e3, e4⟩ := e9
  subst e1
  replace e2 := e2.symm; subst e2
  replace e3 := e3.symm; subst e3
  replace e4 := e4.symm; subst e4
  show Go d MX2_trialRefusal 5 [some (vR 2), some (vI a1)] [vI z6] S F G Q
  obtain ⟨ht, hf⟩ := h
  refine go_ifeq (tgt := 11) (show decode cX2_trialRefusal 5 = .ok (.ifCond .eq 6, 3) by decide +kernel) (by decide) (fun hc => ?_) (fun hc => ?_)
  · have h := ht hc
    refine go_aload_n (show decode cX2_trialRefusal 11 = .ok (.aload_n 0, 1) by decide +kernel) (by rfl) ?_
    refine go_iload_n (show decode cX2_trialRefusal 12 = .ok (.iload_n 1, 1) by decide +kernel) (by rfl) ?_
    obtain ⟨z12, p13, h⟩ := h
    refine go_callV (d2 := d - 1) (M2 := MX2_trialOverLimit) (n := 1) (ci := 2) (av := [vI a1]) (st := []) (show decode cX2_trialRefusal 13 = .ok (.invokevirtual 211, 3) by decide +kernel) ml_X2_211 mt_X2_trialOverLimit min_X2_trialOverLimit mse_X2_trialOverLimit (by decide) (shc_k hsh 2 (by decide) (by decide)) rfl (Nat.le_of_ble_eq_true rfl) (by omega) (ok_mono p13 (fun w8 S9 F10 G11 e9 => ?_))
    obtain ⟨e1, e2, e3, e4⟩ := e9
    subst e1
    replace e2 := e2.symm; subst e2
    replace e3 := e3.symm; subst e3
    replace e4 := e4.symm; subst e4
    show Go d MX2_trialRefusal 16 [some (vR 2), some (vI a1)] [vI z12] S F G Q
    obtain ⟨ht, hf⟩ := h
    refine go_ifeq (tgt := 24) (show decode cX2_trialRefusal 16 = .ok (.ifCond .eq 8, 3) by decide +kernel) (by decide) (fun hc => ?_) (fun hc => ?_)
    · have h := ht hc
      refine go_iconst (show decode cX2_trialRefusal 24 = .ok (.iconst 0, 1) by decide +kernel) (by decide) ?_
      exact go_iret (show decode cX2_trialRefusal 25 = .ok (.ireturn, 1) by decide +kernel) rfl h
    · have h := hf hc
      refine go_bipush (show decode cX2_trialRefusal 19 = .ok (.bipush (-9), 2) by decide +kernel) (by decide) ?_
      refine go_goto (tgt := 25) (show decode cX2_trialRefusal 21 = .ok (.goto 4, 3) by decide +kernel) (by decide) ?_
      exact go_iret (show decode cX2_trialRefusal 25 = .ok (.ireturn, 1) by decide +kernel) rfl h
  · have h := hf hc
    refine go_bipush (show decode cX2_trialRefusal 8 = .ok (.bipush (-7), 2) by decide +kernel) (by decide) ?_
    exact go_iret (show decode cX2_trialRefusal 10 = .ok (.ireturn, 1) by decide +kernel) rfl h
def V_X2_trialOverCap_18 (d : Nat) (S : AS) (F : AF) (G : AG) (Q : AQ) (a1 : Int) (a2 : Int) (a3 : Int) : Prop :=
  ((F 6 1 ≤ a3) →
    (r32 (a2 + 1)) ∧
    Go d MX2_trialOverCap 2 [some (vR 2), some (vI a1), some (vI (a2 + 1)), none, none, none, none] [] S F G Q) ∧
  ((¬ F 6 1 ≤ a3) →
    ((0 : Int) ≤ a2) ∧
    ((a2 : Int) < 48) ∧
    (r32 (48 * (G 15 a2))) ∧
    ((0 : Int) ≤ a3) ∧
    ((a3 : Int) < 48) ∧
    (r32 ((48 * (G 15 a2)) + (G 8 a3))) ∧
    ∀ x8 : Int, x8 = (48 * (G 15 a2)) + (G 8 a3) →
    (1 ≤ d) ∧
    ∃ z14 : Int, Pu (d - 1) MX2_unitsAt [vR 2, vI (-1), vI x8] S F G (some (vJ z14)) ∧
    ∃ z20 : Int, Pu (d - 1) MX2_unitsAt [vR 2, vI a1, vI x8] S F G (some (vJ z20)) ∧
    (r64 (z14 - z20)) ∧
    ∀ x23 : Int, x23 = z14 - z20 →
    (r32 (48 * a2)) ∧
    (r32 ((48 * a2) + a3)) ∧
    ((0 : Int) ≤ (48 * a2) + a3) ∧
    (((48 * a2) + a3 : Int) < 2304) ∧
    (r64 (x23 + (G 19 ((48 * a2) + a3)))) ∧
    ((x23 + (G 19 ((48 * a2) + a3)) ≤ F 2 7) →
      (r32 (a3 + 1)) ∧
      Go d MX2_trialOverCap 18 [some (vR 2), some (vI a1), some (vI a2), some (vI (a3 + 1)), none, none, none] [] S F G Q) ∧
    ((¬ x23 + (G 19 ((48 * a2) + a3)) ≤ F 2 7) →
      Q (some (vI 1)) S F G))
theorem R_X2_trialOverCap_18 {d : Nat} {S : AS} {F : AF} {G : AG} {Q : AQ} {a1 : Int} {a2 : Int} {a3 : Int} (hsh : ShC S) (h : V_X2_trialOverCap_18 d S F G Q a1 a2 a3) : Go d MX2_trialOverCap 18 [some (vR 2), some (vI a1), some (vI a2), some (vI a3), none, none, none] [] S F G Q := by
  unfold V_X2_trialOverCap_18 at h
  refine go_iload_n (show decode cX2_trialOverCap 18 = .ok (.iload_n 3, 1) by decide +kernel) (by rfl) ?_
  refine go_aload_n (show decode cX2_trialOverCap 19 = .ok (.aload_n 0, 1) by decide +kernel) (by rfl) ?_
  refine go_getRc (show decode cX2_trialOverCap 20 = .ok (.getfield 12, 3) by decide +kernel) fl_X2_12 rfl (shc_k hsh 2 (by decide) (by decide)) (v := 3) (shc_r hsh 2 0 (by decide) (by decide) (by decide)) ?_
  refine go_getRc (show decode cX2_trialOverCap 23 = .ok (.getfield 155, 3) by decide +kernel) fl_X2_155 rfl (shc_k hsh 3 (by decide) (by decide)) (v := 6) (shc_r hsh 3 1 (by decide) (by decide) (by decide)) ?_
  refine go_getI (show decode cX2_trialOverCap 26 = .ok (.getfield 197, 3) by decide +kernel) fl_X2_197 (Or.inl rfl) (shc_k hsh 6 (by decide) (by decide)) ?_
  obtain ⟨ht, hf⟩ := h
  refine go_icmpge (tgt := 103) (show decode cX2_trialOverCap 29 = .ok (.if_icmp .ge 74, 3) by decide +kernel) (by decide) (fun hc => ?_) (fun hc => ?_)
  · have h := ht hc
    obtain ⟨q1, h⟩ := h
    refine go_iinc (show decode cX2_trialOverCap 103 = .ok (.iinc 2 1, 3) by decide +kernel) (by rfl) q1 (by decide) ?_
    show Go d MX2_trialOverCap 106 [some (vR 2), some (vI a1), some (vI (a2 + 1)), some (vI a3), none, none, none] [] S F G Q
    refine go_goto (tgt := 2) (show decode cX2_trialOverCap 106 = .ok (.goto (-104), 3) by decide +kernel) (by decide) ?_
    refine go_clr 3 ?_
    exact h
  · have h := hf hc
    refine go_bipush (show decode cX2_trialOverCap 32 = .ok (.bipush 48, 2) by decide +kernel) (by decide) ?_
    refine go_aload_n (show decode cX2_trialOverCap 34 = .ok (.aload_n 0, 1) by decide +kernel) (by rfl) ?_
    refine go_getRc (show decode cX2_trialOverCap 35 = .ok (.getfield 18, 3) by decide +kernel) fl_X2_18 rfl (shc_k hsh 2 (by decide) (by decide)) (v := 10) (shc_r hsh 2 1 (by decide) (by decide) (by decide)) ?_
    refine go_getRc (show decode cX2_trialOverCap 38 = .ok (.getfield 200, 3) by decide +kernel) fl_X2_200 rfl (shc_k hsh 10 (by decide) (by decide)) (v := 15) (shc_r hsh 10 2 (by decide) (by decide) (by decide)) ?_
    refine go_iload_n (show decode cX2_trialOverCap 41 = .ok (.iload_n 2, 1) by decide +kernel) (by rfl) ?_
    obtain ⟨q2, h⟩ := h
    obtain ⟨q3, h⟩ := h
    refine go_iaload (show decode cX2_trialOverCap 42 = .ok (.iaload, 1) by decide +kernel) (shc_k hsh 15 (by decide) (by decide)) q2 (lt_n (m := 48) q3 (shc_n hsh 15 (by decide) (by decide))) ?_
    obtain ⟨q4, h⟩ := h
    refine go_imul (show decode cX2_trialOverCap 43 = .ok (.imul, 1) by decide +kernel) q4 ?_
    refine go_aload_n (show decode cX2_trialOverCap 44 = .ok (.aload_n 0, 1) by decide +kernel) (by rfl) ?_
    refine go_getRc (show decode cX2_trialOverCap 45 = .ok (.getfield 12, 3) by decide +kernel) fl_X2_12 rfl (shc_k hsh 2 (by decide) (by decide)) (v := 3) (shc_r hsh 2 0 (by decide) (by decide) (by decide)) ?_
    refine go_getRc (show decode cX2_trialOverCap 48 = .ok (.getfield 200, 3) by decide +kernel) fl_X2_200 rfl (shc_k hsh 3 (by decide) (by decide)) (v := 8) (shc_r hsh 3 2 (by decide) (by decide) (by decide)) ?_
    refine go_iload_n (show decode cX2_trialOverCap 51 = .ok (.iload_n 3, 1) by decide +kernel) (by rfl) ?_
    obtain ⟨q5, h⟩ := h
    obtain ⟨q6, h⟩ := h
    refine go_iaload (show decode cX2_trialOverCap 52 = .ok (.iaload, 1) by decide +kernel) (shc_k hsh 8 (by decide) (by decide)) q5 (lt_n (m := 48) q6 (shc_n hsh 8 (by decide) (by decide))) ?_
    obtain ⟨q7, h⟩ := h
    refine go_iadd (show decode cX2_trialOverCap 53 = .ok (.iadd, 1) by decide +kernel) q7 ?_
    obtain ⟨x8, x8e⟩ : ∃ x8 : Int, x8 = (48 * (G 15 a2)) + (G 8 a3) := ⟨_, rfl⟩
    have h := h x8 x8e
    rw [← x8e]
    refine go_istore (show decode cX2_trialOverCap 54 = .ok (.istore 4, 2) by decide +kernel) (by decide) ?_
    show Go d MX2_trialOverCap 56 [some (vR 2), some (vI a1), some (vI a2), some (vI a3), some (vI x8), none, none] [] S F G Q
    refine go_aload_n (show decode cX2_trialOverCap 56 = .ok (.aload_n 0, 1) by decide +kernel) (by rfl) ?_
    refine go_iconst (show decode cX2_trialOverCap 57 = .ok (.iconst (-1), 1) by decide +kernel) (by decide) ?_
    refine go_iload (show decode cX2_trialOverCap 58 = .ok (.iload 4, 2) by decide +kernel) (by rfl) ?_
    obtain ⟨q9, h⟩ := h
    obtain ⟨z14, p15, h⟩ := h
    refine go_callV (d2 := d - 1) (M2 := MX2_unitsAt) (n := 2) (ci := 2) (av := [vI (-1), vI x8]) (st := []) (show decode cX2_trialOverCap 60 = .ok (.invokevirtual 111, 3) by decide +kernel) ml_X2_111 mt_X2_unitsAt min_X2_unitsAt mse_X2_unitsAt (by decide) (shc_k hsh 2 (by decide) (by decide)) rfl (Nat.le_of_ble_eq_true rfl) (by omega) (ok_mono p15 (fun w10 S11 F12 G13 e9 => ?_))
    obtain ⟨e1, e2, e3, e4⟩ := e9
    subst e1
    replace e2 := e2.symm; subst e2
    replace e3 := e3.symm; subst e3
    replace e4 := e4.symm; subst e4
    show Go d MX2_trialOverCap 63 [some (vR 2), some (vI a1), some (vI a2), some (vI a3), some (vI x8), none, none] [vJ z14] S F G Q
    refine go_aload_n (show decode cX2_trialOverCap 63 = .ok (.aload_n 0, 1) by decide +kernel) (by rfl) ?_
    refine go_iload_n (show decode cX2_trialOverCap 64 = .ok (.iload_n 1, 1) by decide +kernel) (by rfl) ?_
    refine go_iload (show decode cX2_trialOverCap 65 = .ok (.iload 4, 2) by decide +kernel) (by rfl) ?_
    obtain ⟨z20, p21, h⟩ := h
    refine go_callV (d2 := d - 1) (M2 := MX2_unitsAt) (n := 2) (ci := 2) (av := [vI a1, vI x8]) (st := [vJ z14]) (show decode cX2_trialOverCap 67 = .ok (.invokevirtual 111, 3) by decide +kernel) ml_X2_111 mt_X2_unitsAt min_X2_unitsAt mse_X2_unitsAt (by decide) (shc_k hsh 2 (by decide) (by decide)) rfl (Nat.le_of_ble_eq_true rfl) (by omega) (ok_mono p21 (fun w16 S17 F18 G19 e9 => ?_))
    obtain ⟨e1, e2, e3, e4⟩ := e9
    subst e1
    replace e2 := e2.symm; subst e2
    replace e3 := e3.symm; subst e3
    replace e4 := e4.symm; subst e4
    show Go d MX2_trialOverCap 70 [some (vR 2), some (vI a1), some (vI a2), some (vI a3), some (vI x8), none, none] [vJ z20, vJ z14] S F G Q
    obtain ⟨q22, h⟩ := h
    refine go_lsub (show decode cX2_trialOverCap 70 = .ok (.lsub, 1) by decide +kernel) q22 ?_
    obtain ⟨x23, x23e⟩ : ∃ x23 : Int, x23 = z14 - z20 := ⟨_, rfl⟩
    have h := h x23 x23e
    rw [← x23e]
    refine go_lstore (show decode cX2_trialOverCap 71 = .ok (.lstore 5, 2) by decide +kernel) (by decide) ?_
    show Go d MX2_trialOverCap 73 [some (vR 2), some (vI a1), some (vI a2), some (vI a3), some (vI x8), some (vJ x23), none] [] S F G Q
    refine go_lload (show decode cX2_trialOverCap 73 = .ok (.lload 5, 2) by decide +kernel) (by rfl) ?_
    refine go_aload_n (show decode cX2_trialOverCap 75 = .ok (.aload_n 0, 1) by decide +kernel) (by rfl) ?_
    refine go_getRc (show decode cX2_trialOverCap 76 = .ok (.getfield 32, 3) by decide +kernel) fl_X2_32 rfl (shc_k hsh 2 (by decide) (by decide)) (v := 19) (shc_r hsh 2 4 (by decide) (by decide) (by decide)) ?_
    refine go_bipush (show decode cX2_trialOverCap 79 = .ok (.bipush 48, 2) by decide +kernel) (by decide) ?_
    refine go_iload_n (show decode cX2_trialOverCap 81 = .ok (.iload_n 2, 1) by decide +kernel) (by rfl) ?_
    obtain ⟨q24, h⟩ := h
    refine go_imul (show decode cX2_trialOverCap 82 = .ok (.imul, 1) by decide +kernel) q24 ?_
    refine go_iload_n (show decode cX2_trialOverCap 83 = .ok (.iload_n 3, 1) by decide +kernel) (by rfl) ?_
    obtain ⟨q25, h⟩ := h
    refine go_iadd (show decode cX2_trialOverCap 84 = .ok (.iadd, 1) by decide +kernel) q25 ?_
    obtain ⟨q26, h⟩ := h
    obtain ⟨q27, h⟩ := h
    refine go_laload (show decode cX2_trialOverCap 85 = .ok (.laload, 1) by decide +kernel) (shc_k hsh 19 (by decide) (by decide)) q26 (lt_n (m := 2304) q27 (shc_n hsh 19 (by decide) (by decide))) ?_
    obtain ⟨q28, h⟩ := h
    refine go_ladd (show decode cX2_trialOverCap 86 = .ok (.ladd, 1) by decide +kernel) q28 ?_
    refine go_aload_n (show decode cX2_trialOverCap 87 = .ok (.aload_n 0, 1) by decide +kernel) (by rfl) ?_
    refine go_getJ (show decode cX2_trialOverCap 88 = .ok (.getfield 56, 3) by decide +kernel) fl_X2_56 rfl (shc_k hsh 2 (by decide) (by decide)) ?_
    obtain ⟨ht, hf⟩ := h
    refine go_jle (tgt := 97) (show decode cX2_trialOverCap 91 = .ok (.lcmp, 1) by decide +kernel) (show decode cX2_trialOverCap 92 = .ok (.ifCond .le 5, 3) by decide +kernel) (by decide) (fun hc => ?_) (fun hc => ?_)
    · have h := ht hc
      obtain ⟨q29, h⟩ := h
      refine go_iinc (show decode cX2_trialOverCap 97 = .ok (.iinc 3 1, 3) by decide +kernel) (by rfl) q29 (by decide) ?_
      show Go d MX2_trialOverCap 100 [some (vR 2), some (vI a1), some (vI a2), some (vI (a3 + 1)), some (vI x8), some (vJ x23), none] [] S F G Q
      refine go_goto (tgt := 18) (show decode cX2_trialOverCap 100 = .ok (.goto (-82), 3) by decide +kernel) (by decide) ?_
      refine go_clr 4 ?_
      refine go_clr 5 ?_
      exact h
    · have h := hf hc
      refine go_iconst (show decode cX2_trialOverCap 95 = .ok (.iconst 1, 1) by decide +kernel) (by decide) ?_
      exact go_zret (show decode cX2_trialOverCap 96 = .ok (.ireturn, 1) by decide +kernel) rfl (by decide) h
def V_X2_trialOverCap_2 (d : Nat) (S : AS) (F : AF) (G : AG) (Q : AQ) (a1 : Int) (a2 : Int) : Prop :=
  ((F 13 1 ≤ a2) →
    Q (some (vI 0)) S F G) ∧
  ((¬ F 13 1 ≤ a2) →
    Go d MX2_trialOverCap 18 [some (vR 2), some (vI a1), some (vI a2), some (vI 0), none, none, none] [] S F G Q)
theorem R_X2_trialOverCap_2 {d : Nat} {S : AS} {F : AF} {G : AG} {Q : AQ} {a1 : Int} {a2 : Int} (hsh : ShC S) (h : V_X2_trialOverCap_2 d S F G Q a1 a2) : Go d MX2_trialOverCap 2 [some (vR 2), some (vI a1), some (vI a2), none, none, none, none] [] S F G Q := by
  unfold V_X2_trialOverCap_2 at h
  refine go_iload_n (show decode cX2_trialOverCap 2 = .ok (.iload_n 2, 1) by decide +kernel) (by rfl) ?_
  refine go_aload_n (show decode cX2_trialOverCap 3 = .ok (.aload_n 0, 1) by decide +kernel) (by rfl) ?_
  refine go_getRc (show decode cX2_trialOverCap 4 = .ok (.getfield 18, 3) by decide +kernel) fl_X2_18 rfl (shc_k hsh 2 (by decide) (by decide)) (v := 10) (shc_r hsh 2 1 (by decide) (by decide) (by decide)) ?_
  refine go_getRc (show decode cX2_trialOverCap 7 = .ok (.getfield 155, 3) by decide +kernel) fl_X2_155 rfl (shc_k hsh 10 (by decide) (by decide)) (v := 13) (shc_r hsh 10 1 (by decide) (by decide) (by decide)) ?_
  refine go_getI (show decode cX2_trialOverCap 10 = .ok (.getfield 197, 3) by decide +kernel) fl_X2_197 (Or.inl rfl) (shc_k hsh 13 (by decide) (by decide)) ?_
  obtain ⟨ht, hf⟩ := h
  refine go_icmpge (tgt := 109) (show decode cX2_trialOverCap 13 = .ok (.if_icmp .ge 96, 3) by decide +kernel) (by decide) (fun hc => ?_) (fun hc => ?_)
  · have h := ht hc
    refine go_iconst (show decode cX2_trialOverCap 109 = .ok (.iconst 0, 1) by decide +kernel) (by decide) ?_
    exact go_zret (show decode cX2_trialOverCap 110 = .ok (.ireturn, 1) by decide +kernel) rfl (by decide) h
  · have h := hf hc
    refine go_iconst (show decode cX2_trialOverCap 16 = .ok (.iconst 0, 1) by decide +kernel) (by decide) ?_
    refine go_istore_n (show decode cX2_trialOverCap 17 = .ok (.istore_n 3, 1) by decide +kernel) (by decide) ?_
    show Go d MX2_trialOverCap 18 [some (vR 2), some (vI a1), some (vI a2), some (vI 0), none, none, none] [] S F G Q
    exact h
def V_X2_trialOverCap_0 (d : Nat) (S : AS) (F : AF) (G : AG) (Q : AQ) (a1 : Int) : Prop :=
  Go d MX2_trialOverCap 2 [some (vR 2), some (vI a1), some (vI 0), none, none, none, none] [] S F G Q
theorem R_X2_trialOverCap_0 {d : Nat} {S : AS} {F : AF} {G : AG} {Q : AQ} {a1 : Int} (hsh : ShC S) (h : V_X2_trialOverCap_0 d S F G Q a1) : Go d MX2_trialOverCap 0 [some (vR 2), some (vI a1), none, none, none, none, none] [] S F G Q := by
  unfold V_X2_trialOverCap_0 at h
  refine go_iconst (show decode cX2_trialOverCap 0 = .ok (.iconst 0, 1) by decide +kernel) (by decide) ?_
  refine go_istore_n (show decode cX2_trialOverCap 1 = .ok (.istore_n 2, 1) by decide +kernel) (by decide) ?_
  show Go d MX2_trialOverCap 2 [some (vR 2), some (vI a1), some (vI 0), none, none, none, none] [] S F G Q
  exact h
def V_X2_trialOverLimit_93 (d : Nat) (S : AS) (F : AF) (G : AG) (Q : AQ) (a1 : Int) (a2 : Int) (a3 : Nat) : Prop :=
  (r32 (a2 + 1)) ∧
  Go d MX2_trialOverLimit 2 [some (vR 2), some (vI a1), some (vI (a2 + 1)), none, none, none] [] S F G Q
theorem R_X2_trialOverLimit_93 {d : Nat} {S : AS} {F : AF} {G : AG} {Q : AQ} {a1 : Int} {a2 : Int} {a3 : Nat} (hsh : ShC S) (h : V_X2_trialOverLimit_93 d S F G Q a1 a2 a3) : Go d MX2_trialOverLimit 93 [some (vR 2), some (vI a1), some (vI a2), some (vR a3), none, none] [] S F G Q := by
  unfold V_X2_trialOverLimit_93 at h
  obtain ⟨q1, h⟩ := h
  refine go_iinc (show decode cX2_trialOverLimit 93 = .ok (.iinc 2 1, 3) by decide +kernel) (by rfl) q1 (by decide) ?_
  show Go d MX2_trialOverLimit 96 [some (vR 2), some (vI a1), some (vI (a2 + 1)), some (vR a3), none, none] [] S F G Q
  refine go_goto (tgt := 2) (show decode cX2_trialOverLimit 96 = .ok (.goto (-94), 3) by decide +kernel) (by decide) ?_
  refine go_clr 3 ?_
  exact h
def V_X2_trialOverLimit_2 (d : Nat) (S : AS) (F : AF) (G : AG) (Q : AQ) (a1 : Int) (a2 : Int) : Prop :=
  ((6 ≤ a2) →
    Q (some (vI 0)) S F G) ∧
  ((¬ 6 ≤ a2) →
    ((0 : Int) ≤ a2) ∧
    ((a2 : Int) < 6) ∧
    ∀ x3 : Nat, x3 = 22 + 2 * Int.toNat a2 →
    (AtZone S x3) ∧
    ((F x3 2 = 0) →
      V_X2_trialOverLimit_93 d S F G Q a1 a2 x3) ∧
    ((¬ F x3 2 = 0) →
      (1 ≤ d) ∧
      ∃ z10 : Int, Pu (d - 1) MX2_sumBy [vR 2, vR 6, vR 13, vR 19, vI 0, vR (x3 + 1)] S F G (some (vJ z10)) ∧
      ∃ z16 : Int, Pu (d - 1) MX2_sumOf [vR 2, vI a1, vR (x3 + 1)] S F G (some (vJ z16)) ∧
      (r64 (z10 - z16)) ∧
      ∀ x19 : Int, x19 = z10 - z16 →
      ((x19 ≤ 0) →
        V_X2_trialOverLimit_93 d S F G Q a1 a2 x3) ∧
      ((¬ x19 ≤ 0) →
        ∃ z24 : Int, Pu (d - 1) MX2_sumOf [vR 2, vI (-1), vR (x3 + 1)] S F G (some (vJ z24)) ∧
        (r64 (z24 + x19)) ∧
        ((z24 + x19 ≤ F x3 1) →
          V_X2_trialOverLimit_93 d S F G Q a1 a2 x3) ∧
        ((¬ z24 + x19 ≤ F x3 1) →
          Q (some (vI 1)) S F G))))
theorem R_X2_trialOverLimit_2 {d : Nat} {S : AS} {F : AF} {G : AG} {Q : AQ} {a1 : Int} {a2 : Int} (hsh : ShC S) (h : V_X2_trialOverLimit_2 d S F G Q a1 a2) : Go d MX2_trialOverLimit 2 [some (vR 2), some (vI a1), some (vI a2), none, none, none] [] S F G Q := by
  unfold V_X2_trialOverLimit_2 at h
  refine go_iload_n (show decode cX2_trialOverLimit 2 = .ok (.iload_n 2, 1) by decide +kernel) (by rfl) ?_
  refine go_aload_n (show decode cX2_trialOverLimit 3 = .ok (.aload_n 0, 1) by decide +kernel) (by rfl) ?_
  refine go_getRc (show decode cX2_trialOverLimit 4 = .ok (.getfield 37, 3) by decide +kernel) fl_X2_37 rfl (shc_k hsh 2 (by decide) (by decide)) (v := 20) (shc_r hsh 2 5 (by decide) (by decide) (by decide)) ?_
  refine go_alenc (show decode cX2_trialOverLimit 7 = .ok (.arraylength, 1) by decide +kernel) (by have h9 : sK S 20 = 24 := (shc_k hsh 20 (by decide) (by decide)); omega) (z := 6) (by rw [(shc_n hsh 20 (by decide) (by decide))]; rfl) ?_
  obtain ⟨ht, hf⟩ := h
  refine go_icmpge (tgt := 99) (show decode cX2_trialOverLimit 8 = .ok (.if_icmp .ge 91, 3) by decide +kernel) (by decide) (fun hc => ?_) (fun hc => ?_)
  · have h := ht hc
    refine go_iconst (show decode cX2_trialOverLimit 99 = .ok (.iconst 0, 1) by decide +kernel) (by decide) ?_
    exact go_zret (show decode cX2_trialOverLimit 100 = .ok (.ireturn, 1) by decide +kernel) rfl (by decide) h
  · have h := hf hc
    refine go_aload_n (show decode cX2_trialOverLimit 11 = .ok (.aload_n 0, 1) by decide +kernel) (by rfl) ?_
    refine go_getRc (show decode cX2_trialOverLimit 12 = .ok (.getfield 37, 3) by decide +kernel) fl_X2_37 rfl (shc_k hsh 2 (by decide) (by decide)) (v := 20) (shc_r hsh 2 5 (by decide) (by decide) (by decide)) ?_
    refine go_iload_n (show decode cX2_trialOverLimit 15 = .ok (.iload_n 2, 1) by decide +kernel) (by rfl) ?_
    obtain ⟨q1, h⟩ := h
    obtain ⟨q2, h⟩ := h
    refine go_aaloadc (show decode cX2_trialOverLimit 16 = .ok (.aaload, 1) by decide +kernel) (Or.inl (shc_k hsh 20 (by decide) (by decide))) q1 (lt_n (m := 6) q2 (shc_n hsh 20 (by decide) (by decide))) (sh_zone hsh q1 q2) ?_
    obtain ⟨x3, x3e⟩ : ∃ x3 : Nat, x3 = 22 + 2 * Int.toNat a2 := ⟨_, rfl⟩
    have h := h x3 x3e
    rw [← x3e]
    refine go_astore_n (show decode cX2_trialOverLimit 17 = .ok (.astore_n 3, 1) by decide +kernel) (by decide) ?_
    show Go d MX2_trialOverLimit 18 [some (vR 2), some (vI a1), some (vI a2), some (vR x3), none, none] [] S F G Q
    refine go_aload_n (show decode cX2_trialOverLimit 18 = .ok (.aload_n 3, 1) by decide +kernel) (by rfl) ?_
    obtain ⟨q4, h⟩ := h
    refine go_getI (show decode cX2_trialOverLimit 19 = .ok (.getfield 70, 3) by decide +kernel) fl_X2_70 (Or.inr rfl) q4.1 ?_
    obtain ⟨ht, hf⟩ := h
    refine go_ifeq (tgt := 93) (show decode cX2_trialOverLimit 22 = .ok (.ifCond .eq 71, 3) by decide +kernel) (by decide) (fun hc => ?_) (fun hc => ?_)
    · have h := ht hc
      exact R_X2_trialOverLimit_93 hsh h
    · have h := hf hc
      refine go_aload_n (show decode cX2_trialOverLimit 25 = .ok (.aload_n 0, 1) by decide +kernel) (by rfl) ?_
      refine go_aload_n (show decode cX2_trialOverLimit 26 = .ok (.aload_n 0, 1) by decide +kernel) (by rfl) ?_
      refine go_getRc (show decode cX2_trialOverLimit 27 = .ok (.getfield 12, 3) by decide +kernel) fl_X2_12 rfl (shc_k hsh 2 (by decide) (by decide)) (v := 3) (shc_r hsh 2 0 (by decide) (by decide) (by decide)) ?_
      refine go_getRc (show decode cX2_trialOverLimit 30 = .ok (.getfield 155, 3) by decide +kernel) fl_X2_155 rfl (shc_k hsh 3 (by decide) (by decide)) (v := 6) (shc_r hsh 3 1 (by decide) (by decide) (by decide)) ?_
      refine go_aload_n (show decode cX2_trialOverLimit 33 = .ok (.aload_n 0, 1) by decide +kernel) (by rfl) ?_
      refine go_getRc (show decode cX2_trialOverLimit 34 = .ok (.getfield 18, 3) by decide +kernel) fl_X2_18 rfl (shc_k hsh 2 (by decide) (by decide)) (v := 10) (shc_r hsh 2 1 (by decide) (by decide) (by decide)) ?_
      refine go_getRc (show decode cX2_trialOverLimit 37 = .ok (.getfield 155, 3) by decide +kernel) fl_X2_155 rfl (shc_k hsh 10 (by decide) (by decide)) (v := 13) (shc_r hsh 10 1 (by decide) (by decide) (by decide)) ?_
      refine go_aload_n (show decode cX2_trialOverLimit 40 = .ok (.aload_n 0, 1) by decide +kernel) (by rfl) ?_
      refine go_getRc (show decode cX2_trialOverLimit 41 = .ok (.getfield 32, 3) by decide +kernel) fl_X2_32 rfl (shc_k hsh 2 (by decide) (by decide)) (v := 19) (shc_r hsh 2 4 (by decide) (by decide) (by decide)) ?_
      refine go_iconst (show decode cX2_trialOverLimit 44 = .ok (.iconst 0, 1) by decide +kernel) (by decide) ?_
      refine go_aload_n (show decode cX2_trialOverLimit 45 = .ok (.aload_n 3, 1) by decide +kernel) (by rfl) ?_
      refine go_getRc (show decode cX2_trialOverLimit 46 = .ok (.getfield 174, 3) by decide +kernel) fl_X2_174 rfl q4.1 (v := (x3 + 1)) q4.2.1 ?_
      obtain ⟨q5, h⟩ := h
      obtain ⟨z10, p11, h⟩ := h
      refine go_callV (d2 := d - 1) (M2 := MX2_sumBy) (n := 5) (ci := 2) (av := [vR 6, vR 13, vR 19, vI 0, vR (x3 + 1)]) (st := []) (show decode cX2_trialOverLimit 49 = .ok (.invokevirtual 94, 3) by decide +kernel) ml_X2_94 mt_X2_sumBy min_X2_sumBy mse_X2_sumBy (by decide) (shc_k hsh 2 (by decide) (by decide)) rfl (Nat.le_of_ble_eq_true rfl) (by omega) (ok_mono p11 (fun w6 S7 F8 G9 e9 => ?_))
      obtain ⟨e1, e2, e3, e4⟩ := e9
      subst e1
      replace e2 := e2.symm; subst e2
      replace e3 := e3.symm; subst e3
      replace e4 := e4.symm; subst e4
      show Go d MX2_trialOverLimit 52 [some (vR 2), some (vI a1), some (vI a2), some (vR x3), none, none] [vJ z10] S F G Q
      refine go_aload_n (show decode cX2_trialOverLimit 52 = .ok (.aload_n 0, 1) by decide +kernel) (by rfl) ?_
      refine go_iload_n (show decode cX2_trialOverLimit 53 = .ok (.iload_n 1, 1) by decide +kernel) (by rfl) ?_
      refine go_aload_n (show decode cX2_trialOverLimit 54 = .ok (.aload_n 3, 1) by decide +kernel) (by rfl) ?_
      refine go_getRc (show decode cX2_trialOverLimit 55 = .ok (.getfield 174, 3) by decide +kernel) fl_X2_174 rfl q4.1 (v := (x3 + 1)) q4.2.1 ?_
      obtain ⟨z16, p17, h⟩ := h
      refine go_callV (d2 := d - 1) (M2 := MX2_sumOf) (n := 2) (ci := 2) (av := [vI a1, vR (x3 + 1)]) (st := [vJ z10]) (show decode cX2_trialOverLimit 58 = .ok (.invokevirtual 181, 3) by decide +kernel) ml_X2_181 mt_X2_sumOf min_X2_sumOf mse_X2_sumOf (by decide) (shc_k hsh 2 (by decide) (by decide)) rfl (Nat.le_of_ble_eq_true rfl) (by omega) (ok_mono p17 (fun w12 S13 F14 G15 e9 => ?_))
      obtain ⟨e1, e2, e3, e4⟩ := e9
      subst e1
      replace e2 := e2.symm; subst e2
      replace e3 := e3.symm; subst e3
      replace e4 := e4.symm; subst e4
      show Go d MX2_trialOverLimit 61 [some (vR 2), some (vI a1), some (vI a2), some (vR x3), none, none] [vJ z16, vJ z10] S F G Q
      obtain ⟨q18, h⟩ := h
      refine go_lsub (show decode cX2_trialOverLimit 61 = .ok (.lsub, 1) by decide +kernel) q18 ?_
      obtain ⟨x19, x19e⟩ : ∃ x19 : Int, x19 = z10 - z16 := ⟨_, rfl⟩
      have h := h x19 x19e
      rw [← x19e]
      refine go_lstore (show decode cX2_trialOverLimit 62 = .ok (.lstore 4, 2) by decide +kernel) (by decide) ?_
      show Go d MX2_trialOverLimit 64 [some (vR 2), some (vI a1), some (vI a2), some (vR x3), some (vJ x19), none] [] S F G Q
      refine go_lload (show decode cX2_trialOverLimit 64 = .ok (.lload 4, 2) by decide +kernel) (by rfl) ?_
      refine go_lconst (n := 0) (show decode cX2_trialOverLimit 66 = .ok (.lconst 0, 1) by decide +kernel) ?_
      show Go d MX2_trialOverLimit 67 [some (vR 2), some (vI a1), some (vI a2), some (vR x3), some (vJ x19), none] [vJ 0, vJ x19] S F G Q
      obtain ⟨ht, hf⟩ := h
      refine go_jle (tgt := 93) (show decode cX2_trialOverLimit 67 = .ok (.lcmp, 1) by decide +kernel) (show decode cX2_trialOverLimit 68 = .ok (.ifCond .le 25, 3) by decide +kernel) (by decide) (fun hc => ?_) (fun hc => ?_)
      · have h := ht hc
        refine go_clr 4 ?_
        exact R_X2_trialOverLimit_93 hsh h
      · have h := hf hc
        refine go_aload_n (show decode cX2_trialOverLimit 71 = .ok (.aload_n 0, 1) by decide +kernel) (by rfl) ?_
        refine go_iconst (show decode cX2_trialOverLimit 72 = .ok (.iconst (-1), 1) by decide +kernel) (by decide) ?_
        refine go_aload_n (show decode cX2_trialOverLimit 73 = .ok (.aload_n 3, 1) by decide +kernel) (by rfl) ?_
        refine go_getRc (show decode cX2_trialOverLimit 74 = .ok (.getfield 174, 3) by decide +kernel) fl_X2_174 rfl q4.1 (v := (x3 + 1)) q4.2.1 ?_
        obtain ⟨z24, p25, h⟩ := h
        refine go_callV (d2 := d - 1) (M2 := MX2_sumOf) (n := 2) (ci := 2) (av := [vI (-1), vR (x3 + 1)]) (st := []) (show decode cX2_trialOverLimit 77 = .ok (.invokevirtual 181, 3) by decide +kernel) ml_X2_181 mt_X2_sumOf min_X2_sumOf mse_X2_sumOf (by decide) (shc_k hsh 2 (by decide) (by decide)) rfl (Nat.le_of_ble_eq_true rfl) (by omega) (ok_mono p25 (fun w20 S21 F22 G23 e9 => ?_))
        obtain ⟨e1, e2, e3, e4⟩ := e9
        subst e1
        replace e2 := e2.symm; subst e2
        replace e3 := e3.symm; subst e3
        replace e4 := e4.symm; subst e4
        show Go d MX2_trialOverLimit 80 [some (vR 2), some (vI a1), some (vI a2), some (vR x3), some (vJ x19), none] [vJ z24] S F G Q
        refine go_lload (show decode cX2_trialOverLimit 80 = .ok (.lload 4, 2) by decide +kernel) (by rfl) ?_
        obtain ⟨q26, h⟩ := h
        refine go_ladd (show decode cX2_trialOverLimit 82 = .ok (.ladd, 1) by decide +kernel) q26 ?_
        refine go_aload_n (show decode cX2_trialOverLimit 83 = .ok (.aload_n 3, 1) by decide +kernel) (by rfl) ?_
        refine go_getJ (show decode cX2_trialOverLimit 84 = .ok (.getfield 184, 3) by decide +kernel) fl_X2_184 rfl q4.1 ?_
        obtain ⟨ht, hf⟩ := h
        refine go_jle (tgt := 93) (show decode cX2_trialOverLimit 87 = .ok (.lcmp, 1) by decide +kernel) (show decode cX2_trialOverLimit 88 = .ok (.ifCond .le 5, 3) by decide +kernel) (by decide) (fun hc => ?_) (fun hc => ?_)
        · have h := ht hc
          refine go_clr 4 ?_
          exact R_X2_trialOverLimit_93 hsh h
        · have h := hf hc
          refine go_iconst (show decode cX2_trialOverLimit 91 = .ok (.iconst 1, 1) by decide +kernel) (by decide) ?_
          exact go_zret (show decode cX2_trialOverLimit 92 = .ok (.ireturn, 1) by decide +kernel) rfl (by decide) h
def V_X2_trialOverLimit_0 (d : Nat) (S : AS) (F : AF) (G : AG) (Q : AQ) (a1 : Int) : Prop :=
  Go d MX2_trialOverLimit 2 [some (vR 2), some (vI a1), some (vI 0), none, none, none] [] S F G Q
theorem R_X2_trialOverLimit_0 {d : Nat} {S : AS} {F : AF} {G : AG} {Q : AQ} {a1 : Int} (hsh : ShC S) (h : V_X2_trialOverLimit_0 d S F G Q a1) : Go d MX2_trialOverLimit 0 [some (vR 2), some (vI a1), none, none, none, none] [] S F G Q := by
  unfold V_X2_trialOverLimit_0 at h
  refine go_iconst (show decode cX2_trialOverLimit 0 = .ok (.iconst 0, 1) by decide +kernel) (by decide) ?_
  refine go_istore_n (show decode cX2_trialOverLimit 1 = .ok (.istore_n 2, 1) by decide +kernel) (by decide) ?_
  show Go d MX2_trialOverLimit 2 [some (vR 2), some (vI a1), some (vI 0), none, none, none] [] S F G Q
  exact h
def V_X2_zoneOf_0 (d : Nat) (S : AS) (F : AF) (G : AG) (Q : AQ) (a1 : Int) : Prop :=
  ((a1 < 0) →
    Q (some (vR 0)) S F G) ∧
  ((¬ a1 < 0) →
    ((6 ≤ a1) →
      Q (some (vR 0)) S F G) ∧
    ((¬ 6 ≤ a1) →
      ((0 : Int) ≤ a1) ∧
      ((a1 : Int) < 6) ∧
      Q (some (vR (22 + 2 * Int.toNat a1))) S F G))
theorem R_X2_zoneOf_0 {d : Nat} {S : AS} {F : AF} {G : AG} {Q : AQ} {a1 : Int} (hsh : ShC S) (h : V_X2_zoneOf_0 d S F G Q a1) : Go d MX2_zoneOf 0 [some (vR 2), some (vI a1)] [] S F G Q := by
  unfold V_X2_zoneOf_0 at h
  refine go_iload_n (show decode cX2_zoneOf 0 = .ok (.iload_n 1, 1) by decide +kernel) (by rfl) ?_
  obtain ⟨ht, hf⟩ := h
  refine go_iflt (tgt := 22) (show decode cX2_zoneOf 1 = .ok (.ifCond .lt 21, 3) by decide +kernel) (by decide) (fun hc => ?_) (fun hc => ?_)
  · have h := ht hc
    refine go_null (show decode cX2_zoneOf 22 = .ok (.aconst_null, 1) by decide +kernel) ?_
    exact go_aret (show decode cX2_zoneOf 23 = .ok (.areturn, 1) by decide +kernel) rfl h
  · have h := hf hc
    refine go_iload_n (show decode cX2_zoneOf 4 = .ok (.iload_n 1, 1) by decide +kernel) (by rfl) ?_
    refine go_aload_n (show decode cX2_zoneOf 5 = .ok (.aload_n 0, 1) by decide +kernel) (by rfl) ?_
    refine go_getRc (show decode cX2_zoneOf 6 = .ok (.getfield 37, 3) by decide +kernel) fl_X2_37 rfl (shc_k hsh 2 (by decide) (by decide)) (v := 20) (shc_r hsh 2 5 (by decide) (by decide) (by decide)) ?_
    refine go_alenc (show decode cX2_zoneOf 9 = .ok (.arraylength, 1) by decide +kernel) (by have h9 : sK S 20 = 24 := (shc_k hsh 20 (by decide) (by decide)); omega) (z := 6) (by rw [(shc_n hsh 20 (by decide) (by decide))]; rfl) ?_
    obtain ⟨ht, hf⟩ := h
    refine go_icmpge (tgt := 22) (show decode cX2_zoneOf 10 = .ok (.if_icmp .ge 12, 3) by decide +kernel) (by decide) (fun hc => ?_) (fun hc => ?_)
    · have h := ht hc
      refine go_null (show decode cX2_zoneOf 22 = .ok (.aconst_null, 1) by decide +kernel) ?_
      exact go_aret (show decode cX2_zoneOf 23 = .ok (.areturn, 1) by decide +kernel) rfl h
    · have h := hf hc
      refine go_aload_n (show decode cX2_zoneOf 13 = .ok (.aload_n 0, 1) by decide +kernel) (by rfl) ?_
      refine go_getRc (show decode cX2_zoneOf 14 = .ok (.getfield 37, 3) by decide +kernel) fl_X2_37 rfl (shc_k hsh 2 (by decide) (by decide)) (v := 20) (shc_r hsh 2 5 (by decide) (by decide) (by decide)) ?_
      refine go_iload_n (show decode cX2_zoneOf 17 = .ok (.iload_n 1, 1) by decide +kernel) (by rfl) ?_
      obtain ⟨q1, h⟩ := h
      obtain ⟨q2, h⟩ := h
      refine go_aaloadc (show decode cX2_zoneOf 18 = .ok (.aaload, 1) by decide +kernel) (Or.inl (shc_k hsh 20 (by decide) (by decide))) q1 (lt_n (m := 6) q2 (shc_n hsh 20 (by decide) (by decide))) (sh_zone hsh q1 q2) ?_
      refine go_goto (tgt := 23) (show decode cX2_zoneOf 19 = .ok (.goto 4, 3) by decide +kernel) (by decide) ?_
      exact go_aret (show decode cX2_zoneOf 23 = .ok (.areturn, 1) by decide +kernel) rfl h
