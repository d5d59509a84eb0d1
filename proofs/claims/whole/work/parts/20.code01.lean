def V_X2_clear_52 (d : Nat) (S : AS) (F : AF) (G : AG) (Q : AQ) (a0 : Nat) (a1 : Int) (a2 : Int) (a3 : Int) (a5 : Int) : Prop :=
  (sK S a0 = 2) ∧
  (sK S (sR S a0 5) = 24) ∧
  (((sN S (sR S a0 5) : Int) ≤ a5) →
    Q none S F G) ∧
  ((¬ (sN S (sR S a0 5) : Int) ≤ a5) →
    ((0 : Int) ≤ a5) ∧
    ((a5 : Int) < (sN S (sR S a0 5) : Int)) ∧
    (sK S (sR S (sR S a0 5) (Int.toNat a5)) = 8) ∧
    ∀ F6 : AF, F6 = fu F (sR S (sR S a0 5) (Int.toNat a5)) 2 0 →
    (r32 (a5 + 1)) ∧
    Go d MX2_clear 52 [some (vR a0), some (vI a1), some (vI a2), some (vJ a3), none, some (vI (a5 + 1))] [] S F6 G Q)
theorem R_X2_clear_52 {d : Nat} {S : AS} {F : AF} {G : AG} {Q : AQ} {a0 : Nat} {a1 : Int} {a2 : Int} {a3 : Int} {a5 : Int} (h : V_X2_clear_52 d S F G Q a0 a1 a2 a3 a5) : Go d MX2_clear 52 [some (vR a0), some (vI a1), some (vI a2), some (vJ a3), none, some (vI a5)] [] S F G Q := by
  unfold V_X2_clear_52 at h
  refine go_iload (show decode cX2_clear 52 = .ok (.iload 5, 2) by decide +kernel) (by rfl) ?_
  refine go_aload_n (show decode cX2_clear 54 = .ok (.aload_n 0, 1) by decide +kernel) (by rfl) ?_
  obtain ⟨q1, h⟩ := h
  refine go_getR (show decode cX2_clear 55 = .ok (.getfield 37, 3) by decide +kernel) fl_X2_37 rfl q1 ?_
  obtain ⟨q2, h⟩ := h
  refine go_alen (show decode cX2_clear 58 = .ok (.arraylength, 1) by decide +kernel) (by omega) ?_
  obtain ⟨ht, hf⟩ := h
  refine go_icmpge (tgt := 79) (show decode cX2_clear 59 = .ok (.if_icmp .ge 20, 3) by decide +kernel) (by decide) (fun hc => ?_) (fun hc => ?_)
  · have h := ht hc
    exact go_vret (show decode cX2_clear 79 = .ok (.return_, 1) by decide +kernel) rfl h
  · have h := hf hc
    refine go_aload_n (show decode cX2_clear 62 = .ok (.aload_n 0, 1) by decide +kernel) (by rfl) ?_
    refine go_getR (show decode cX2_clear 63 = .ok (.getfield 37, 3) by decide +kernel) fl_X2_37 rfl q1 ?_
    refine go_iload (show decode cX2_clear 66 = .ok (.iload 5, 2) by decide +kernel) (by rfl) ?_
    obtain ⟨q3, h⟩ := h
    obtain ⟨q4, h⟩ := h
    refine go_aaload (show decode cX2_clear 68 = .ok (.aaload, 1) by decide +kernel) (Or.inl q2) q3 q4 ?_
    refine go_iconst (show decode cX2_clear 69 = .ok (.iconst 0, 1) by decide +kernel) (by decide) ?_
    obtain ⟨q5, h⟩ := h
    refine go_putB (show decode cX2_clear 70 = .ok (.putfield 70, 3) by decide +kernel) fl_X2_70 rfl (Or.inl rfl) q5 (by decide) ?_
    obtain ⟨F6, F6e⟩ : ∃ F6 : AF, F6 = fu F (sR S (sR S a0 5) (Int.toNat a5)) 2 0 := ⟨_, rfl⟩
    have h := h F6 F6e
    rw [← F6e]
    obtain ⟨q7, h⟩ := h
    refine go_iinc (show decode cX2_clear 73 = .ok (.iinc 5 1, 3) by decide +kernel) (by rfl) q7 (by decide) ?_
    show Go d MX2_clear 76 [some (vR a0), some (vI a1), some (vI a2), some (vJ a3), none, some (vI (a5 + 1))] [] S F6 G Q
    refine go_goto (tgt := 52) (show decode cX2_clear 76 = .ok (.goto (-24), 3) by decide +kernel) (by decide) ?_
    exact h
def V_X2_clear_0 (d : Nat) (S : AS) (F : AF) (G : AG) (Q : AQ) (a0 : Nat) (a1 : Int) (a2 : Int) (a3 : Int) : Prop :=
  (sK S a0 = 2) ∧
  (1 ≤ d) ∧
  (sK S (sR S a0 0) = 0) ∧
  Ok (d - 1) MX0_clear [vR (sR S a0 0), vI a1] S F G (fun w3 S4 F5 G6 =>
  w3 = none ∧
  (sK S4 a0 = 2) ∧
  (sK S4 (sR S4 a0 1) = 0) ∧
  Ok (d - 1) MX0_clear [vR (sR S4 a0 1), vI a2] S4 F5 G6 (fun w9 S10 F11 G12 =>
  w9 = none ∧
  (sK S10 a0 = 2) ∧
  (r32 (a1 - 1)) ∧
  (r32 (a2 - 1)) ∧
  (sK S10 (sR S10 a0 2) = 3) ∧
  Ok (d - 1) MX3_set [vR (sR S10 a0 2), vI 0, vI 0, vI (a1 - 1), vI (a2 - 1)] S10 F11 G12 (fun w17 S18 F19 G20 =>
  w17 = none ∧
  (sK S18 a0 = 2) ∧
  ∀ F23 : AF, F23 = fu F19 a0 7 a3 →
  ∀ F24 : AF, F24 = fu F23 a0 8 0 →
  Ok (d - 1) MJ7_fill_d0a16 [vR (sR S18 a0 3), vJ 0] S18 F24 G20 (fun w25 S26 F27 G28 =>
  w25 = none ∧
  Go d MX2_clear 52 [some (vR a0), some (vI a1), some (vI a2), some (vJ a3), none, some (vI 0)] [] S26 F27 G28 Q))))
theorem R_X2_clear_0 {d : Nat} {S : AS} {F : AF} {G : AG} {Q : AQ} {a0 : Nat} {a1 : Int} {a2 : Int} {a3 : Int} (h : V_X2_clear_0 d S F G Q a0 a1 a2 a3) : Go d MX2_clear 0 [some (vR a0), some (vI a1), some (vI a2), some (vJ a3), none, none] [] S F G Q := by
  unfold V_X2_clear_0 at h
  refine go_aload_n (show decode cX2_clear 0 = .ok (.aload_n 0, 1) by decide +kernel) (by rfl) ?_
  obtain ⟨q1, h⟩ := h
  refine go_getR (show decode cX2_clear 1 = .ok (.getfield 12, 3) by decide +kernel) fl_X2_12 rfl q1 ?_
  refine go_iload_n (show decode cX2_clear 4 = .ok (.iload_n 1, 1) by decide +kernel) (by rfl) ?_
  obtain ⟨q2, h⟩ := h
  obtain ⟨q7, h⟩ := h
  refine go_callV (d2 := d - 1) (M2 := MX0_clear) (n := 1) (ci := 0) (av := [vI a1]) (st := []) (show decode cX2_clear 5 = .ok (.invokevirtual 48, 3) by decide +kernel) ml_X2_48 mt_X0_clear min_X0_clear mse_X0_clear (by decide) q7 rfl (Nat.le_of_ble_eq_true rfl) (by omega) (ok_mono h (fun w3 S4 F5 G6 h => ?_))
  obtain ⟨e9, h⟩ := h
  subst e9
  show Go d MX2_clear 8 [some (vR a0), some (vI a1), some (vI a2), some (vJ a3), none, none] [] S4 F5 G6 Q
  refine go_aload_n (show decode cX2_clear 8 = .ok (.aload_n 0, 1) by decide +kernel) (by rfl) ?_
  obtain ⟨q8, h⟩ := h
  refine go_getR (show decode cX2_clear 9 = .ok (.getfield 18, 3) by decide +kernel) fl_X2_18 rfl q8 ?_
  refine go_iload_n (show decode cX2_clear 12 = .ok (.iload_n 2, 1) by decide +kernel) (by rfl) ?_
  obtain ⟨q13, h⟩ := h
  refine go_callV (d2 := d - 1) (M2 := MX0_clear) (n := 1) (ci := 0) (av := [vI a2]) (st := []) (show decode cX2_clear 13 = .ok (.invokevirtual 48, 3) by decide +kernel) ml_X2_48 mt_X0_clear min_X0_clear mse_X0_clear (by decide) q13 rfl (Nat.le_of_ble_eq_true rfl) (by omega) (ok_mono h (fun w9 S10 F11 G12 h => ?_))
  obtain ⟨e9, h⟩ := h
  subst e9
  show Go d MX2_clear 16 [some (vR a0), some (vI a1), some (vI a2), some (vJ a3), none, none] [] S10 F11 G12 Q
  refine go_aload_n (show decode cX2_clear 16 = .ok (.aload_n 0, 1) by decide +kernel) (by rfl) ?_
  obtain ⟨q14, h⟩ := h
  refine go_getR (show decode cX2_clear 17 = .ok (.getfield 24, 3) by decide +kernel) fl_X2_24 rfl q14 ?_
  refine go_iconst (show decode cX2_clear 20 = .ok (.iconst 0, 1) by decide +kernel) (by decide) ?_
  refine go_iconst (show decode cX2_clear 21 = .ok (.iconst 0, 1) by decide +kernel) (by decide) ?_
  refine go_iload_n (show decode cX2_clear 22 = .ok (.iload_n 1, 1) by decide +kernel) (by rfl) ?_
  refine go_iconst (show decode cX2_clear 23 = .ok (.iconst 1, 1) by decide +kernel) (by decide) ?_
  obtain ⟨q15, h⟩ := h
  refine go_isub (show decode cX2_clear 24 = .ok (.isub, 1) by decide +kernel) q15 ?_
  refine go_iload_n (show decode cX2_clear 25 = .ok (.iload_n 2, 1) by decide +kernel) (by rfl) ?_
  refine go_iconst (show decode cX2_clear 26 = .ok (.iconst 1, 1) by decide +kernel) (by decide) ?_
  obtain ⟨q16, h⟩ := h
  refine go_isub (show decode cX2_clear 27 = .ok (.isub, 1) by decide +kernel) q16 ?_
  obtain ⟨q21, h⟩ := h
  refine go_callV (d2 := d - 1) (M2 := MX3_set) (n := 4) (ci := 3) (av := [vI 0, vI 0, vI (a1 - 1), vI (a2 - 1)]) (st := []) (show decode cX2_clear 28 = .ok (.invokevirtual 52, 3) by decide +kernel) ml_X2_52 mt_X3_set min_X3_set mse_X3_set (by decide) q21 rfl (Nat.le_of_ble_eq_true rfl) (by omega) (ok_mono h (fun w17 S18 F19 G20 h => ?_))
  obtain ⟨e9, h⟩ := h
  subst e9
  show Go d MX2_clear 31 [some (vR a0), some (vI a1), some (vI a2), some (vJ a3), none, none] [] S18 F19 G20 Q
  refine go_aload_n (show decode cX2_clear 31 = .ok (.aload_n 0, 1) by decide +kernel) (by rfl) ?_
  refine go_lload_n (show decode cX2_clear 32 = .ok (.lload_n 3, 1) by decide +kernel) (by rfl) ?_
  obtain ⟨q22, h⟩ := h
  refine go_putJ (show decode cX2_clear 33 = .ok (.putfield 56, 3) by decide +kernel) fl_X2_56 rfl (Or.inl rfl) q22 ?_
  obtain ⟨F23, F23e⟩ : ∃ F23 : AF, F23 = fu F19 a0 7 a3 := ⟨_, rfl⟩
  have h := h F23 F23e
  rw [← F23e]
  refine go_aload_n (show decode cX2_clear 36 = .ok (.aload_n 0, 1) by decide +kernel) (by rfl) ?_
  refine go_iconst (show decode cX2_clear 37 = .ok (.iconst 0, 1) by decide +kernel) (by decide) ?_
  refine go_putI (show decode cX2_clear 38 = .ok (.putfield 60, 3) by decide +kernel) fl_X2_60 rfl (Or.inl rfl) q22 ?_
  obtain ⟨F24, F24e⟩ : ∃ F24 : AF, F24 = fu F23 a0 8 0 := ⟨_, rfl⟩
  have h := h F24 F24e
  rw [← F24e]
  refine go_aload_n (show decode cX2_clear 41 = .ok (.aload_n 0, 1) by decide +kernel) (by rfl) ?_
  refine go_getR (show decode cX2_clear 42 = .ok (.getfield 28, 3) by decide +kernel) fl_X2_28 rfl q22 ?_
  refine go_lconst (n := 0) (show decode cX2_clear 45 = .ok (.lconst 0, 1) by decide +kernel) ?_
  show Go d MX2_clear 46 [some (vR a0), some (vI a1), some (vI a2), some (vJ a3), none, none] [vJ 0, vR (sR S18 a0 3)] S18 F24 G20 Q
  refine go_callS (d2 := d - 1) (M2 := MJ7_fill_d0a16) (n := 2) (av := [vR (sR S18 a0 3), vJ 0]) (st := []) (show decode cX2_clear 46 = .ok (.invokestatic 64, 3) by decide +kernel) ml_X2_64 mt_J7_fill_d0a16 mst_J7_fill_d0a16 rfl (Nat.le_of_ble_eq_true rfl) (by omega) (ok_mono h (fun w25 S26 F27 G28 h => ?_))
  obtain ⟨e9, h⟩ := h
  subst e9
  show Go d MX2_clear 49 [some (vR a0), some (vI a1), some (vI a2), some (vJ a3), none, none] [] S26 F27 G28 Q
  refine go_iconst (show decode cX2_clear 49 = .ok (.iconst 0, 1) by decide +kernel) (by decide) ?_
  refine go_istore (show decode cX2_clear 50 = .ok (.istore 5, 2) by decide +kernel) (by decide) ?_
  show Go d MX2_clear 52 [some (vR a0), some (vI a1), some (vI a2), some (vJ a3), none, some (vI 0)] [] S26 F27 G28 Q
  exact h
def V_X2_holds_0 (d : Nat) (S : AS) (F : AF) (G : AG) (Q : AQ) (a0 : Nat) (a1 : Nat) : Prop :=
  (sK S a1 = 3) ∧
  ((F a1 0 < 0) →
    Q (some (vI 0)) S F G) ∧
  ((¬ F a1 0 < 0) →
    ((F a1 2 < F a1 0) →
      Q (some (vI 0)) S F G) ∧
    ((¬ F a1 2 < F a1 0) →
      (sK S a0 = 2) ∧
      (sK S (sR S a0 2) = 3) ∧
      ((F (sR S a0 2) 2 < F a1 2) →
        Q (some (vI 0)) S F G) ∧
      ((¬ F (sR S a0 2) 2 < F a1 2) →
        ((F a1 1 < 0) →
          Q (some (vI 0)) S F G) ∧
        ((¬ F a1 1 < 0) →
          ((F a1 3 < F a1 1) →
            Q (some (vI 0)) S F G) ∧
          ((¬ F a1 3 < F a1 1) →
            ((F (sR S a0 2) 3 < F a1 3) →
              Q (some (vI 0)) S F G) ∧
            ((¬ F (sR S a0 2) 3 < F a1 3) →
              Q (some (vI 1)) S F G))))))
theorem R_X2_holds_0 {d : Nat} {S : AS} {F : AF} {G : AG} {Q : AQ} {a0 : Nat} {a1 : Nat} (h : V_X2_holds_0 d S F G Q a0 a1) : Go d MX2_holds 0 [some (vR a0), some (vR a1)] [] S F G Q := by
  unfold V_X2_holds_0 at h
  refine go_aload_n (show decode cX2_holds 0 = .ok (.aload_n 1, 1) by decide +kernel) (by rfl) ?_
  obtain ⟨q1, h⟩ := h
  refine go_getI (show decode cX2_holds 1 = .ok (.getfield 74, 3) by decide +kernel) fl_X2_74 (Or.inl rfl) q1 ?_
  obtain ⟨ht, hf⟩ := h
  refine go_iflt (tgt := 68) (show decode cX2_holds 4 = .ok (.ifCond .lt 64, 3) by decide +kernel) (by decide) (fun hc => ?_) (fun hc => ?_)
  · have h := ht hc
    refine go_iconst (show decode cX2_holds 68 = .ok (.iconst 0, 1) by decide +kernel) (by decide) ?_
    exact go_zret (show decode cX2_holds 69 = .ok (.ireturn, 1) by decide +kernel) rfl (by decide) h
  · have h := hf hc
    refine go_aload_n (show decode cX2_holds 7 = .ok (.aload_n 1, 1) by decide +kernel) (by rfl) ?_
    refine go_getI (show decode cX2_holds 8 = .ok (.getfield 74, 3) by decide +kernel) fl_X2_74 (Or.inl rfl) q1 ?_
    refine go_aload_n (show decode cX2_holds 11 = .ok (.aload_n 1, 1) by decide +kernel) (by rfl) ?_
    refine go_getI (show decode cX2_holds 12 = .ok (.getfield 77, 3) by decide +kernel) fl_X2_77 (Or.inl rfl) q1 ?_
    obtain ⟨ht, hf⟩ := h
    refine go_icmpgt (tgt := 68) (show decode cX2_holds 15 = .ok (.if_icmp .gt 53, 3) by decide +kernel) (by decide) (fun hc => ?_) (fun hc => ?_)
    · have h := ht hc
      refine go_iconst (show decode cX2_holds 68 = .ok (.iconst 0, 1) by decide +kernel) (by decide) ?_
      exact go_zret (show decode cX2_holds 69 = .ok (.ireturn, 1) by decide +kernel) rfl (by decide) h
    · have h := hf hc
      refine go_aload_n (show decode cX2_holds 18 = .ok (.aload_n 1, 1) by decide +kernel) (by rfl) ?_
      refine go_getI (show decode cX2_holds 19 = .ok (.getfield 77, 3) by decide +kernel) fl_X2_77 (Or.inl rfl) q1 ?_
      refine go_aload_n (show decode cX2_holds 22 = .ok (.aload_n 0, 1) by decide +kernel) (by rfl) ?_
      obtain ⟨q2, h⟩ := h
      refine go_getR (show decode cX2_holds 23 = .ok (.getfield 24, 3) by decide +kernel) fl_X2_24 rfl q2 ?_
      obtain ⟨q3, h⟩ := h
      refine go_getI (show decode cX2_holds 26 = .ok (.getfield 77, 3) by decide +kernel) fl_X2_77 (Or.inl rfl) q3 ?_
      obtain ⟨ht, hf⟩ := h
      refine go_icmpgt (tgt := 68) (show decode cX2_holds 29 = .ok (.if_icmp .gt 39, 3) by decide +kernel) (by decide) (fun hc => ?_) (fun hc => ?_)
      · have h := ht hc
        refine go_iconst (show decode cX2_holds 68 = .ok (.iconst 0, 1) by decide +kernel) (by decide) ?_
        exact go_zret (show decode cX2_holds 69 = .ok (.ireturn, 1) by decide +kernel) rfl (by decide) h
      · have h := hf hc
        refine go_aload_n (show decode cX2_holds 32 = .ok (.aload_n 1, 1) by decide +kernel) (by rfl) ?_
        refine go_getI (show decode cX2_holds 33 = .ok (.getfield 80, 3) by decide +kernel) fl_X2_80 (Or.inl rfl) q1 ?_
        obtain ⟨ht, hf⟩ := h
        refine go_iflt (tgt := 68) (show decode cX2_holds 36 = .ok (.ifCond .lt 32, 3) by decide +kernel) (by decide) (fun hc => ?_) (fun hc => ?_)
        · have h := ht hc
          refine go_iconst (show decode cX2_holds 68 = .ok (.iconst 0, 1) by decide +kernel) (by decide) ?_
          exact go_zret (show decode cX2_holds 69 = .ok (.ireturn, 1) by decide +kernel) rfl (by decide) h
        · have h := hf hc
          refine go_aload_n (show decode cX2_holds 39 = .ok (.aload_n 1, 1) by decide +kernel) (by rfl) ?_
          refine go_getI (show decode cX2_holds 40 = .ok (.getfield 80, 3) by decide +kernel) fl_X2_80 (Or.inl rfl) q1 ?_
          refine go_aload_n (show decode cX2_holds 43 = .ok (.aload_n 1, 1) by decide +kernel) (by rfl) ?_
          refine go_getI (show decode cX2_holds 44 = .ok (.getfield 83, 3) by decide +kernel) fl_X2_83 (Or.inl rfl) q1 ?_
          obtain ⟨ht, hf⟩ := h
          refine go_icmpgt (tgt := 68) (show decode cX2_holds 47 = .ok (.if_icmp .gt 21, 3) by decide +kernel) (by decide) (fun hc => ?_) (fun hc => ?_)
          · have h := ht hc
            refine go_iconst (show decode cX2_holds 68 = .ok (.iconst 0, 1) by decide +kernel) (by decide) ?_
            exact go_zret (show decode cX2_holds 69 = .ok (.ireturn, 1) by decide +kernel) rfl (by decide) h
          · have h := hf hc
            refine go_aload_n (show decode cX2_holds 50 = .ok (.aload_n 1, 1) by decide +kernel) (by rfl) ?_
            refine go_getI (show decode cX2_holds 51 = .ok (.getfield 83, 3) by decide +kernel) fl_X2_83 (Or.inl rfl) q1 ?_
            refine go_aload_n (show decode cX2_holds 54 = .ok (.aload_n 0, 1) by decide +kernel) (by rfl) ?_
            refine go_getR (show decode cX2_holds 55 = .ok (.getfield 24, 3) by decide +kernel) fl_X2_24 rfl q2 ?_
            refine go_getI (show decode cX2_holds 58 = .ok (.getfield 83, 3) by decide +kernel) fl_X2_83 (Or.inl rfl) q3 ?_
            obtain ⟨ht, hf⟩ := h
            refine go_icmpgt (tgt := 68) (show decode cX2_holds 61 = .ok (.if_icmp .gt 7, 3) by decide +kernel) (by decide) (fun hc => ?_) (fun hc => ?_)
            · have h := ht hc
              refine go_iconst (show decode cX2_holds 68 = .ok (.iconst 0, 1) by decide +kernel) (by decide) ?_
              exact go_zret (show decode cX2_holds 69 = .ok (.ireturn, 1) by decide +kernel) rfl (by decide) h
            · have h := hf hc
              refine go_iconst (show decode cX2_holds 64 = .ok (.iconst 1, 1) by decide +kernel) (by decide) ?_
              refine go_goto (tgt := 69) (show decode cX2_holds 65 = .ok (.goto 4, 3) by decide +kernel) (by decide) ?_
              exact go_zret (show decode cX2_holds 69 = .ok (.ireturn, 1) by decide +kernel) rfl (by decide) h
def V_X2_addRefusal_130 (d : Nat) (S : AS) (F : AF) (G : AG) (Q : AQ) (a0 : Nat) (a1 : Int) (a2 : Nat) (a3 : Int) (a4 : Int) (a5 : Int) : Prop :=
  (r32 (a4 + 1)) ∧
  Go d MX2_addRefusal 46 [some (vR a0), some (vI a1), some (vR a2), some (vI a3), some (vI (a4 + 1)), none, none] [] S F G Q
theorem R_X2_addRefusal_130 {d : Nat} {S : AS} {F : AF} {G : AG} {Q : AQ} {a0 : Nat} {a1 : Int} {a2 : Nat} {a3 : Int} {a4 : Int} {a5 : Int} (h : V_X2_addRefusal_130 d S F G Q a0 a1 a2 a3 a4 a5) : Go d MX2_addRefusal 130 [some (vR a0), some (vI a1), some (vR a2), some (vI a3), some (vI a4), some (vJ a5), none] [] S F G Q := by
  unfold V_X2_addRefusal_130 at h
  obtain ⟨q1, h⟩ := h
  refine go_iinc (show decode cX2_addRefusal 130 = .ok (.iinc 4 1, 3) by decide +kernel) (by rfl) q1 (by decide) ?_
  show Go d MX2_addRefusal 133 [some (vR a0), some (vI a1), some (vR a2), some (vI a3), some (vI (a4 + 1)), some (vJ a5), none] [] S F G Q
  refine go_goto (tgt := 46) (show decode cX2_addRefusal 133 = .ok (.goto (-87), 3) by decide +kernel) (by decide) ?_
  refine go_clr 5 ?_
  exact h
def V_X2_addRefusal_46 (d : Nat) (S : AS) (F : AF) (G : AG) (Q : AQ) (a0 : Nat) (a1 : Int) (a2 : Nat) (a3 : Int) (a4 : Int) : Prop :=
  (sK S a0 = 2) ∧
  (sK S (sR S a0 5) = 24) ∧
  (((sN S (sR S a0 5) : Int) ≤ a4) →
    (1 ≤ d) ∧
    Ok (d - 1) MX2_sumOf [vR a0, vI a1, vR (sR S a0 2)] S F G (fun w4 S5 F6 G7 =>
    ∃ z8 : Int, w4 = some (vJ z8) ∧
    (sK S5 a2 = 3) ∧
    Ok (d - 1) MX3_cells [vR a2] S5 F6 G7 (fun w9 S10 F11 G12 =>
    ∃ z14 : Int, w9 = some (vJ z14) ∧
    (r64 (z14 * a3)) ∧
    (r64 (z8 + (z14 * a3))) ∧
    ((z8 + (z14 * a3) ≤ 3000000000000000000) →
      Q (some (vI 0)) S10 F11 G12) ∧
    ((¬ z8 + (z14 * a3) ≤ 3000000000000000000) →
      Q (some (vI (-6))) S10 F11 G12)))) ∧
  ((¬ (sN S (sR S a0 5) : Int) ≤ a4) →
    ((0 : Int) ≤ a4) ∧
    ((a4 : Int) < (sN S (sR S a0 5) : Int)) ∧
    (sK S (sR S (sR S a0 5) (Int.toNat a4)) = 8) ∧
    (1 ≤ d) ∧
    Ok (d - 1) MX2_commonCells [vR (sR S (sR S (sR S a0 5) (Int.toNat a4)) 0), vR a2] S F G (fun w21 S22 F23 G24 =>
    ∃ z25 : Int, w21 = some (vJ z25) ∧
    (r64 (z25 * a3)) ∧
    ∀ x27 : Int, x27 = z25 * a3 →
    (sK S22 a0 = 2) ∧
    (sK S22 (sR S22 a0 5) = 24) ∧
    ((0 : Int) ≤ a4) ∧
    ((a4 : Int) < (sN S22 (sR S22 a0 5) : Int)) ∧
    (sK S22 (sR S22 (sR S22 a0 5) (Int.toNat a4)) = 8) ∧
    ((F23 (sR S22 (sR S22 a0 5) (Int.toNat a4)) 2 = 0) →
      V_X2_addRefusal_130 d S22 F23 G24 Q a0 a1 a2 a3 a4 x27) ∧
    ((¬ F23 (sR S22 (sR S22 a0 5) (Int.toNat a4)) 2 = 0) →
      ((x27 ≤ 0) →
        V_X2_addRefusal_130 d S22 F23 G24 Q a0 a1 a2 a3 a4 x27) ∧
      ((¬ x27 ≤ 0) →
        Ok (d - 1) MX2_sumOf [vR a0, vI (-1), vR (sR S22 (sR S22 (sR S22 a0 5) (Int.toNat a4)) 0)] S22 F23 G24 (fun w33 S34 F35 G36 =>
        ∃ z37 : Int, w33 = some (vJ z37) ∧
        (r64 (z37 + x27)) ∧
        (sK S34 a0 = 2) ∧
        (sK S34 (sR S34 a0 5) = 24) ∧
        ((0 : Int) ≤ a4) ∧
        ((a4 : Int) < (sN S34 (sR S34 a0 5) : Int)) ∧
        (sK S34 (sR S34 (sR S34 a0 5) (Int.toNat a4)) = 8) ∧
        ((z37 + x27 ≤ F35 (sR S34 (sR S34 a0 5) (Int.toNat a4)) 1) →
          V_X2_addRefusal_130 d S34 F35 G36 Q a0 a1 a2 a3 a4 x27) ∧
        ((¬ z37 + x27 ≤ F35 (sR S34 (sR S34 a0 5) (Int.toNat a4)) 1) →
          Q (some (vI (-9))) S34 F35 G36))))))
theorem R_X2_addRefusal_46 {d : Nat} {S : AS} {F : AF} {G : AG} {Q : AQ} {a0 : Nat} {a1 : Int} {a2 : Nat} {a3 : Int} {a4 : Int} (h : V_X2_addRefusal_46 d S F G Q a0 a1 a2 a3 a4) : Go d MX2_addRefusal 46 [some (vR a0), some (vI a1), some (vR a2), some (vI a3), some (vI a4), none, none] [] S F G Q := by
  unfold V_X2_addRefusal_46 at h
  refine go_iload (show decode cX2_addRefusal 46 = .ok (.iload 4, 2) by decide +kernel) (by rfl) ?_
  refine go_aload_n (show decode cX2_addRefusal 48 = .ok (.aload_n 0, 1) by decide +kernel) (by rfl) ?_
  obtain ⟨q1, h⟩ := h
  refine go_getR (show decode cX2_addRefusal 49 = .ok (.getfield 37, 3) by decide +kernel) fl_X2_37 rfl q1 ?_
  obtain ⟨q2, h⟩ := h
  refine go_alen (show decode cX2_addRefusal 52 = .ok (.arraylength, 1) by decide +kernel) (by omega) ?_
  obtain ⟨ht, hf⟩ := h
  refine go_icmpge (tgt := 136) (show decode cX2_addRefusal 53 = .ok (.if_icmp .ge 83, 3) by decide +kernel) (by decide) (fun hc => ?_) (fun hc => ?_)
  · have h := ht hc
    refine go_aload_n (show decode cX2_addRefusal 136 = .ok (.aload_n 0, 1) by decide +kernel) (by rfl) ?_
    refine go_iload_n (show decode cX2_addRefusal 137 = .ok (.iload_n 1, 1) by decide +kernel) (by rfl) ?_
    refine go_aload_n (show decode cX2_addRefusal 138 = .ok (.aload_n 0, 1) by decide +kernel) (by rfl) ?_
    refine go_getR (show decode cX2_addRefusal 139 = .ok (.getfield 24, 3) by decide +kernel) fl_X2_24 rfl q1 ?_
    obtain ⟨q3, h⟩ := h
    refine go_callV (d2 := d - 1) (M2 := MX2_sumOf) (n := 2) (ci := 2) (av := [vI a1, vR (sR S a0 2)]) (st := []) (show decode cX2_addRefusal 142 = .ok (.invokevirtual 181, 3) by decide +kernel) ml_X2_181 mt_X2_sumOf min_X2_sumOf mse_X2_sumOf (by decide) q1 rfl (Nat.le_of_ble_eq_true rfl) (by omega) (ok_mono h (fun w4 S5 F6 G7 h => ?_))
    obtain ⟨z8, e9, h⟩ := h
    subst e9
    show Go d MX2_addRefusal 145 [some (vR a0), some (vI a1), some (vR a2), some (vI a3), some (vI a4), none, none] [vJ z8] S5 F6 G7 Q
    refine go_aload_n (show decode cX2_addRefusal 145 = .ok (.aload_n 2, 1) by decide +kernel) (by rfl) ?_
    obtain ⟨q13, h⟩ := h
    refine go_callV (d2 := d - 1) (M2 := MX3_cells) (n := 0) (ci := 3) (av := []) (st := [vJ z8]) (show decode cX2_addRefusal 146 = .ok (.invokevirtual 131, 3) by decide +kernel) ml_X2_131 mt_X3_cells min_X3_cells mse_X3_cells (by decide) q13 rfl (Nat.le_of_ble_eq_true rfl) (by omega) (ok_mono h (fun w9 S10 F11 G12 h => ?_))
    obtain ⟨z14, e9, h⟩ := h
    subst e9
    show Go d MX2_addRefusal 149 [some (vR a0), some (vI a1), some (vR a2), some (vI a3), some (vI a4), none, none] [vJ z14, vJ z8] S10 F11 G12 Q
    refine go_iload_n (show decode cX2_addRefusal 149 = .ok (.iload_n 3, 1) by decide +kernel) (by rfl) ?_
    refine go_i2l (show decode cX2_addRefusal 150 = .ok (.i2l, 1) by decide +kernel) ?_
    obtain ⟨q15, h⟩ := h
    refine go_lmul (show decode cX2_addRefusal 151 = .ok (.lmul, 1) by decide +kernel) q15 ?_
    obtain ⟨q16, h⟩ := h
    refine go_ladd (show decode cX2_addRefusal 152 = .ok (.ladd, 1) by decide +kernel) q16 ?_
    refine go_ldc2 (show decode cX2_addRefusal 153 = .ok (.ldc2_w 187, 3) by decide +kernel) lc_X2_187 (by decide) ?_
    obtain ⟨ht, hf⟩ := h
    refine go_jle (tgt := 165) (show decode cX2_addRefusal 156 = .ok (.lcmp, 1) by decide +kernel) (show decode cX2_addRefusal 157 = .ok (.ifCond .le 8, 3) by decide +kernel) (by decide) (fun hc => ?_) (fun hc => ?_)
    · have h := ht hc
      refine go_iconst (show decode cX2_addRefusal 165 = .ok (.iconst 0, 1) by decide +kernel) (by decide) ?_
      exact go_iret (show decode cX2_addRefusal 166 = .ok (.ireturn, 1) by decide +kernel) rfl h
    · have h := hf hc
      refine go_bipush (show decode cX2_addRefusal 160 = .ok (.bipush (-6), 2) by decide +kernel) (by decide) ?_
      refine go_goto (tgt := 166) (show decode cX2_addRefusal 162 = .ok (.goto 4, 3) by decide +kernel) (by decide) ?_
      exact go_iret (show decode cX2_addRefusal 166 = .ok (.ireturn, 1) by decide +kernel) rfl h
  · have h := hf hc
    refine go_aload_n (show decode cX2_addRefusal 56 = .ok (.aload_n 0, 1) by decide +kernel) (by rfl) ?_
    refine go_getR (show decode cX2_addRefusal 57 = .ok (.getfield 37, 3) by decide +kernel) fl_X2_37 rfl q1 ?_
    refine go_iload (show decode cX2_addRefusal 60 = .ok (.iload 4, 2) by decide +kernel) (by rfl) ?_
    obtain ⟨q17, h⟩ := h
    obtain ⟨q18, h⟩ := h
    refine go_aaload (show decode cX2_addRefusal 62 = .ok (.aaload, 1) by decide +kernel) (Or.inl q2) q17 q18 ?_
    obtain ⟨q19, h⟩ := h
    refine go_getR (show decode cX2_addRefusal 63 = .ok (.getfield 174, 3) by decide +kernel) fl_X2_174 rfl q19 ?_
    refine go_aload_n (show decode cX2_addRefusal 66 = .ok (.aload_n 2, 1) by decide +kernel) (by rfl) ?_
    obtain ⟨q20, h⟩ := h
    refine go_callS (d2 := d - 1) (M2 := MX2_commonCells) (n := 2) (av := [vR (sR S (sR S (sR S a0 5) (Int.toNat a4)) 0), vR a2]) (st := []) (show decode cX2_addRefusal 67 = .ok (.invokestatic 177, 3) by decide +kernel) ml_X2_177 mt_X2_commonCells mst_X2_commonCells rfl (Nat.le_of_ble_eq_true rfl) (by omega) (ok_mono h (fun w21 S22 F23 G24 h => ?_))
    obtain ⟨z25, e9, h⟩ := h
    subst e9
    show Go d MX2_addRefusal 70 [some (vR a0), some (vI a1), some (vR a2), some (vI a3), some (vI a4), none, none] [vJ z25] S22 F23 G24 Q
    refine go_iload_n (show decode cX2_addRefusal 70 = .ok (.iload_n 3, 1) by decide +kernel) (by rfl) ?_
    refine go_i2l (show decode cX2_addRefusal 71 = .ok (.i2l, 1) by decide +kernel) ?_
    obtain ⟨q26, h⟩ := h
    refine go_lmul (show decode cX2_addRefusal 72 = .ok (.lmul, 1) by decide +kernel) q26 ?_
    obtain ⟨x27, x27e⟩ : ∃ x27 : Int, x27 = z25 * a3 := ⟨_, rfl⟩
    have h := h x27 x27e
    rw [← x27e]
    refine go_lstore (show decode cX2_addRefusal 73 = .ok (.lstore 5, 2) by decide +kernel) (by decide) ?_
    show Go d MX2_addRefusal 75 [some (vR a0), some (vI a1), some (vR a2), some (vI a3), some (vI a4), some (vJ x27), none] [] S22 F23 G24 Q
    refine go_aload_n (show decode cX2_addRefusal 75 = .ok (.aload_n 0, 1) by decide +kernel) (by rfl) ?_
    obtain ⟨q28, h⟩ := h
    refine go_getR (show decode cX2_addRefusal 76 = .ok (.getfield 37, 3) by decide +kernel) fl_X2_37 rfl q28 ?_
    refine go_iload (show decode cX2_addRefusal 79 = .ok (.iload 4, 2) by decide +kernel) (by rfl) ?_
    obtain ⟨q29, h⟩ := h
    obtain ⟨q30, h⟩ := h
    obtain ⟨q31, h⟩ := h
    refine go_aaload (show decode cX2_addRefusal 81 = .ok (.aaload, 1) by decide +kernel) (Or.inl q29) q30 q31 ?_
    obtain ⟨q32, h⟩ := h
    refine go_getI (show decode cX2_addRefusal 82 = .ok (.getfield 70, 3) by decide +kernel) fl_X2_70 (Or.inr rfl) q32 ?_
    obtain ⟨ht, hf⟩ := h
    refine go_ifeq (tgt := 130) (show decode cX2_addRefusal 85 = .ok (.ifCond .eq 45, 3) by decide +kernel) (by decide) (fun hc => ?_) (fun hc => ?_)
    · have h := ht hc
      exact R_X2_addRefusal_130 h
    · have h := hf hc
      refine go_lload (show decode cX2_addRefusal 88 = .ok (.lload 5, 2) by decide +kernel) (by rfl) ?_
      refine go_lconst (n := 0) (show decode cX2_addRefusal 90 = .ok (.lconst 0, 1) by decide +kernel) ?_
      show Go d MX2_addRefusal 91 [some (vR a0), some (vI a1), some (vR a2), some (vI a3), some (vI a4), some (vJ x27), none] [vJ 0, vJ x27] S22 F23 G24 Q
      obtain ⟨ht, hf⟩ := h
      refine go_jle (tgt := 130) (show decode cX2_addRefusal 91 = .ok (.lcmp, 1) by decide +kernel) (show decode cX2_addRefusal 92 = .ok (.ifCond .le 38, 3) by decide +kernel) (by decide) (fun hc => ?_) (fun hc => ?_)
      · have h := ht hc
        exact R_X2_addRefusal_130 h
      · have h := hf hc
        refine go_aload_n (show decode cX2_addRefusal 95 = .ok (.aload_n 0, 1) by decide +kernel) (by rfl) ?_
        refine go_iconst (show decode cX2_addRefusal 96 = .ok (.iconst (-1), 1) by decide +kernel) (by decide) ?_
        refine go_aload_n (show decode cX2_addRefusal 97 = .ok (.aload_n 0, 1) by decide +kernel) (by rfl) ?_
        refine go_getR (show decode cX2_addRefusal 98 = .ok (.getfield 37, 3) by decide +kernel) fl_X2_37 rfl q28 ?_
        refine go_iload (show decode cX2_addRefusal 101 = .ok (.iload 4, 2) by decide +kernel) (by rfl) ?_
        refine go_aaload (show decode cX2_addRefusal 103 = .ok (.aaload, 1) by decide +kernel) (Or.inl q29) q30 q31 ?_
        refine go_getR (show decode cX2_addRefusal 104 = .ok (.getfield 174, 3) by decide +kernel) fl_X2_174 rfl q32 ?_
        refine go_callV (d2 := d - 1) (M2 := MX2_sumOf) (n := 2) (ci := 2) (av := [vI (-1), vR (sR S22 (sR S22 (sR S22 a0 5) (Int.toNat a4)) 0)]) (st := []) (show decode cX2_addRefusal 107 = .ok (.invokevirtual 181, 3) by decide +kernel) ml_X2_181 mt_X2_sumOf min_X2_sumOf mse_X2_sumOf (by decide) q28 rfl (Nat.le_of_ble_eq_true rfl) (by omega) (ok_mono h (fun w33 S34 F35 G36 h => ?_))
        obtain ⟨z37, e9, h⟩ := h
        subst e9
        show Go d MX2_addRefusal 110 [some (vR a0), some (vI a1), some (vR a2), some (vI a3), some (vI a4), some (vJ x27), none] [vJ z37] S34 F35 G36 Q
        refine go_lload (show decode cX2_addRefusal 110 = .ok (.lload 5, 2) by decide +kernel) (by rfl) ?_
        obtain ⟨q38, h⟩ := h
        refine go_ladd (show decode cX2_addRefusal 112 = .ok (.ladd, 1) by decide +kernel) q38 ?_
        refine go_aload_n (show decode cX2_addRefusal 113 = .ok (.aload_n 0, 1) by decide +kernel) (by rfl) ?_
        obtain ⟨q39, h⟩ := h
        refine go_getR (show decode cX2_addRefusal 114 = .ok (.getfield 37, 3) by decide +kernel) fl_X2_37 rfl q39 ?_
        refine go_iload (show decode cX2_addRefusal 117 = .ok (.iload 4, 2) by decide +kernel) (by rfl) ?_
        obtain ⟨q40, h⟩ := h
        obtain ⟨q41, h⟩ := h
        obtain ⟨q42, h⟩ := h
        refine go_aaload (show decode cX2_addRefusal 119 = .ok (.aaload, 1) by decide +kernel) (Or.inl q40) q41 q42 ?_
        obtain ⟨q43, h⟩ := h
        refine go_getJ (show decode cX2_addRefusal 120 = .ok (.getfield 184, 3) by decide +kernel) fl_X2_184 rfl q43 ?_
        obtain ⟨ht, hf⟩ := h
        refine go_jle (tgt := 130) (show decode cX2_addRefusal 123 = .ok (.lcmp, 1) by decide +kernel) (show decode cX2_addRefusal 124 = .ok (.ifCond .le 6, 3) by decide +kernel) (by decide) (fun hc => ?_) (fun hc => ?_)
        · have h := ht hc
          exact R_X2_addRefusal_130 h
        · have h := hf hc
          refine go_bipush (show decode cX2_addRefusal 127 = .ok (.bipush (-9), 2) by decide +kernel) (by decide) ?_
          exact go_iret (show decode cX2_addRefusal 129 = .ok (.ireturn, 1) by decide +kernel) rfl h
def V_X2_addRefusal_0 (d : Nat) (S : AS) (F : AF) (G : AG) (Q : AQ) (a0 : Nat) (a1 : Int) (a2 : Nat) (a3 : Int) : Prop :=
  (1 ≤ d) ∧
  (sK S a0 = 2) ∧
  Ok (d - 1) MX2_leastIn [vR a0, vI a1, vR a2] S F G (fun w2 S3 F4 G5 =>
  ∃ z7 : Int, w2 = some (vJ z7) ∧
  (r64 (z7 + a3)) ∧
  ((0 ≤ z7 + a3) →
    ((0 ≤ a3) →
      (sK S3 a0 = 2) ∧
      Ok (d - 1) MX2_mostIn [vR a0, vI (-1), vR a2] S3 F4 G5 (fun w9 S10 F11 G12 =>
      ∃ z14 : Int, w9 = some (vJ z14) ∧
      (r64 (z14 + a3)) ∧
      (sK S10 a0 = 2) ∧
      ((z14 + a3 ≤ F11 a0 7) →
        Go d MX2_addRefusal 46 [some (vR a0), some (vI a1), some (vR a2), some (vI a3), some (vI 0), none, none] [] S10 F11 G12 Q) ∧
      ((¬ z14 + a3 ≤ F11 a0 7) →
        Q (some (vI (-7))) S10 F11 G12))) ∧
    ((¬ 0 ≤ a3) →
      Q (some (vI 0)) S3 F4 G5)) ∧
  ((¬ 0 ≤ z7 + a3) →
    Q (some (vI (-5))) S3 F4 G5))
theorem R_X2_addRefusal_0 {d : Nat} {S : AS} {F : AF} {G : AG} {Q : AQ} {a0 : Nat} {a1 : Int} {a2 : Nat} {a3 : Int} (h : V_X2_addRefusal_0 d S F G Q a0 a1 a2 a3) : Go d MX2_addRefusal 0 [some (vR a0), some (vI a1), some (vR a2), some (vI a3), none, none, none] [] S F G Q := by
  unfold V_X2_addRefusal_0 at h
  refine go_aload_n (show decode cX2_addRefusal 0 = .ok (.aload_n 0, 1) by decide +kernel) (by rfl) ?_
  refine go_iload_n (show decode cX2_addRefusal 1 = .ok (.iload_n 1, 1) by decide +kernel) (by rfl) ?_
  refine go_aload_n (show decode cX2_addRefusal 2 = .ok (.aload_n 2, 1) by decide +kernel) (by rfl) ?_
  obtain ⟨q1, h⟩ := h
  obtain ⟨q6, h⟩ := h
  refine go_callV (d2 := d - 1) (M2 := MX2_leastIn) (n := 2) (ci := 2) (av := [vI a1, vR a2]) (st := []) (show decode cX2_addRefusal 3 = .ok (.invokevirtual 124, 3) by decide +kernel) ml_X2_124 mt_X2_leastIn min_X2_leastIn mse_X2_leastIn (by decide) q6 rfl (Nat.le_of_ble_eq_true rfl) (by omega) (ok_mono h (fun w2 S3 F4 G5 h => ?_))
  obtain ⟨z7, e9, h⟩ := h
  subst e9
  show Go d MX2_addRefusal 6 [some (vR a0), some (vI a1), some (vR a2), some (vI a3), none, none, none] [vJ z7] S3 F4 G5 Q
  refine go_iload_n (show decode cX2_addRefusal 6 = .ok (.iload_n 3, 1) by decide +kernel) (by rfl) ?_
  refine go_i2l (show decode cX2_addRefusal 7 = .ok (.i2l, 1) by decide +kernel) ?_
  obtain ⟨q8, h⟩ := h
  refine go_ladd (show decode cX2_addRefusal 8 = .ok (.ladd, 1) by decide +kernel) q8 ?_
  refine go_lconst (n := 0) (show decode cX2_addRefusal 9 = .ok (.lconst 0, 1) by decide +kernel) ?_
  show Go d MX2_addRefusal 10 [some (vR a0), some (vI a1), some (vR a2), some (vI a3), none, none, none] [vJ 0, vJ (z7 + a3)] S3 F4 G5 Q
  obtain ⟨ht, hf⟩ := h
  refine go_jge (tgt := 17) (show decode cX2_addRefusal 10 = .ok (.lcmp, 1) by decide +kernel) (show decode cX2_addRefusal 11 = .ok (.ifCond .ge 6, 3) by decide +kernel) (by decide) (fun hc => ?_) (fun hc => ?_)
  · have h := ht hc
    refine go_iload_n (show decode cX2_addRefusal 17 = .ok (.iload_n 3, 1) by decide +kernel) (by rfl) ?_
    obtain ⟨ht, hf⟩ := h
    refine go_ifge (tgt := 23) (show decode cX2_addRefusal 18 = .ok (.ifCond .ge 5, 3) by decide +kernel) (by decide) (fun hc => ?_) (fun hc => ?_)
    · have h := ht hc
      refine go_aload_n (show decode cX2_addRefusal 23 = .ok (.aload_n 0, 1) by decide +kernel) (by rfl) ?_
      refine go_iconst (show decode cX2_addRefusal 24 = .ok (.iconst (-1), 1) by decide +kernel) (by decide) ?_
      refine go_aload_n (show decode cX2_addRefusal 25 = .ok (.aload_n 2, 1) by decide +kernel) (by rfl) ?_
      obtain ⟨q13, h⟩ := h
      refine go_callV (d2 := d - 1) (M2 := MX2_mostIn) (n := 2) (ci := 2) (av := [vI (-1), vR a2]) (st := []) (show decode cX2_addRefusal 26 = .ok (.invokevirtual 128, 3) by decide +kernel) ml_X2_128 mt_X2_mostIn min_X2_mostIn mse_X2_mostIn (by decide) q13 rfl (Nat.le_of_ble_eq_true rfl) (by omega) (ok_mono h (fun w9 S10 F11 G12 h => ?_))
      obtain ⟨z14, e9, h⟩ := h
      subst e9
      show Go d MX2_addRefusal 29 [some (vR a0), some (vI a1), some (vR a2), some (vI a3), none, none, none] [vJ z14] S10 F11 G12 Q
      refine go_iload_n (show decode cX2_addRefusal 29 = .ok (.iload_n 3, 1) by decide +kernel) (by rfl) ?_
      refine go_i2l (show decode cX2_addRefusal 30 = .ok (.i2l, 1) by decide +kernel) ?_
      obtain ⟨q15, h⟩ := h
      refine go_ladd (show decode cX2_addRefusal 31 = .ok (.ladd, 1) by decide +kernel) q15 ?_
      refine go_aload_n (show decode cX2_addRefusal 32 = .ok (.aload_n 0, 1) by decide +kernel) (by rfl) ?_
      obtain ⟨q16, h⟩ := h
      refine go_getJ (show decode cX2_addRefusal 33 = .ok (.getfield 56, 3) by decide +kernel) fl_X2_56 rfl q16 ?_
      obtain ⟨ht, hf⟩ := h
      refine go_jle (tgt := 43) (show decode cX2_addRefusal 36 = .ok (.lcmp, 1) by decide +kernel) (show decode cX2_addRefusal 37 = .ok (.ifCond .le 6, 3) by decide +kernel) (by decide) (fun hc => ?_) (fun hc => ?_)
      · have h := ht hc
        refine go_iconst (show decode cX2_addRefusal 43 = .ok (.iconst 0, 1) by decide +kernel) (by decide) ?_
        refine go_istore (show decode cX2_addRefusal 44 = .ok (.istore 4, 2) by decide +kernel) (by decide) ?_
        show Go d MX2_addRefusal 46 [some (vR a0), some (vI a1), some (vR a2), some (vI a3), some (vI 0), none, none] [] S10 F11 G12 Q
        exact h
      · have h := hf hc
        refine go_bipush (show decode cX2_addRefusal 40 = .ok (.bipush (-7), 2) by decide +kernel) (by decide) ?_
        exact go_iret (show decode cX2_addRefusal 42 = .ok (.ireturn, 1) by decide +kernel) rfl h
    · have h := hf hc
      refine go_iconst (show decode cX2_addRefusal 21 = .ok (.iconst 0, 1) by decide +kernel) (by decide) ?_
      exact go_iret (show decode cX2_addRefusal 22 = .ok (.ireturn, 1) by decide +kernel) rfl h
  · have h := hf hc
    refine go_bipush (show decode cX2_addRefusal 14 = .ok (.bipush (-5), 2) by decide +kernel) (by decide) ?_
    exact go_iret (show decode cX2_addRefusal 16 = .ok (.ireturn, 1) by decide +kernel) rfl h
def V_X2_leastIn_75 (d : Nat) (S : AS) (F : AF) (G : AG) (Q : AQ) (a0 : Nat) (a1 : Int) (a2 : Nat) (a3 : Int) (a5 : Int) (a6 : Int) (a7 : Int) (a8 : Int) : Prop :=
  ((a5 < a8) →
    (r32 (a7 + 1)) ∧
    Go d MX2_leastIn 52 [some (vR a0), some (vI a1), some (vR a2), some (vJ a3), none, some (vI a5), some (vI a6), some (vI (a7 + 1)), none] [] S F G Q) ∧
  ((¬ a5 < a8) →
    (r32 (48 * a7)) ∧
    (r32 ((48 * a7) + a8)) ∧
    (1 ≤ d) ∧
    (sK S a0 = 2) ∧
    Ok (d - 1) MX2_unitsAt [vR a0, vI a1, vI ((48 * a7) + a8)] S F G (fun w5 S6 F7 G8 =>
    ∃ z10 : Int, w5 = some (vJ z10) ∧
    ∀ x11 : Int, x11 = min a3 z10 →
    (r32 (a8 + 1)) ∧
    Go d MX2_leastIn 75 [some (vR a0), some (vI a1), some (vR a2), some (vJ x11), none, some (vI a5), some (vI a6), some (vI a7), some (vI (a8 + 1))] [] S6 F7 G8 Q))
theorem R_X2_leastIn_75 {d : Nat} {S : AS} {F : AF} {G : AG} {Q : AQ} {a0 : Nat} {a1 : Int} {a2 : Nat} {a3 : Int} {a5 : Int} {a6 : Int} {a7 : Int} {a8 : Int} (h : V_X2_leastIn_75 d S F G Q a0 a1 a2 a3 a5 a6 a7 a8) : Go d MX2_leastIn 75 [some (vR a0), some (vI a1), some (vR a2), some (vJ a3), none, some (vI a5), some (vI a6), some (vI a7), some (vI a8)] [] S F G Q := by
  unfold V_X2_leastIn_75 at h
  refine go_iload (show decode cX2_leastIn 75 = .ok (.iload 8, 2) by decide +kernel) (by rfl) ?_
  refine go_iload (show decode cX2_leastIn 77 = .ok (.iload 5, 2) by decide +kernel) (by rfl) ?_
  obtain ⟨ht, hf⟩ := h
  refine go_icmpgt (tgt := 106) (show decode cX2_leastIn 79 = .ok (.if_icmp .gt 27, 3) by decide +kernel) (by decide) (fun hc => ?_) (fun hc => ?_)
  · have h := ht hc
    obtain ⟨q1, h⟩ := h
    refine go_iinc (show decode cX2_leastIn 106 = .ok (.iinc 7 1, 3) by decide +kernel) (by rfl) q1 (by decide) ?_
    show Go d MX2_leastIn 109 [some (vR a0), some (vI a1), some (vR a2), some (vJ a3), none, some (vI a5), some (vI a6), some (vI (a7 + 1)), some (vI a8)] [] S F G Q
    refine go_goto (tgt := 52) (show decode cX2_leastIn 109 = .ok (.goto (-57), 3) by decide +kernel) (by decide) ?_
    refine go_clr 8 ?_
    exact h
  · have h := hf hc
    refine go_lload_n (show decode cX2_leastIn 82 = .ok (.lload_n 3, 1) by decide +kernel) (by rfl) ?_
    refine go_aload_n (show decode cX2_leastIn 83 = .ok (.aload_n 0, 1) by decide +kernel) (by rfl) ?_
    refine go_iload_n (show decode cX2_leastIn 84 = .ok (.iload_n 1, 1) by decide +kernel) (by rfl) ?_
    refine go_bipush (show decode cX2_leastIn 85 = .ok (.bipush 48, 2) by decide +kernel) (by decide) ?_
    refine go_iload (show decode cX2_leastIn 87 = .ok (.iload 7, 2) by decide +kernel) (by rfl) ?_
    obtain ⟨q2, h⟩ := h
    refine go_imul (show decode cX2_leastIn 89 = .ok (.imul, 1) by decide +kernel) q2 ?_
    refine go_iload (show decode cX2_leastIn 90 = .ok (.iload 8, 2) by decide +kernel) (by rfl) ?_
    obtain ⟨q3, h⟩ := h
    refine go_iadd (show decode cX2_leastIn 92 = .ok (.iadd, 1) by decide +kernel) q3 ?_
    obtain ⟨q4, h⟩ := h
    obtain ⟨q9, h⟩ := h
    refine go_callV (d2 := d - 1) (M2 := MX2_unitsAt) (n := 2) (ci := 2) (av := [vI a1, vI ((48 * a7) + a8)]) (st := [vJ a3]) (show decode cX2_leastIn 93 = .ok (.invokevirtual 111, 3) by decide +kernel) ml_X2_111 mt_X2_unitsAt min_X2_unitsAt mse_X2_unitsAt (by decide) q9 rfl (Nat.le_of_ble_eq_true rfl) (by omega) (ok_mono h (fun w5 S6 F7 G8 h => ?_))
    obtain ⟨z10, e9, h⟩ := h
    subst e9
    show Go d MX2_leastIn 96 [some (vR a0), some (vI a1), some (vR a2), some (vJ a3), none, some (vI a5), some (vI a6), some (vI a7), some (vI a8)] [vJ z10, vJ a3] S6 F7 G8 Q
    refine go_minJm (show decode cX2_leastIn 96 = .ok (.invokestatic 115, 3) by decide +kernel) ml_X2_115 mh_minJ_s mh_i mh_minJ_c (Nat.le_of_ble_eq_true rfl) q4 ?_
    obtain ⟨x11, x11e⟩ : ∃ x11 : Int, x11 = min a3 z10 := ⟨_, rfl⟩
    have h := h x11 x11e
    rw [← x11e]
    refine go_lstore_n (show decode cX2_leastIn 99 = .ok (.lstore_n 3, 1) by decide +kernel) (by decide) ?_
    show Go d MX2_leastIn 100 [some (vR a0), some (vI a1), some (vR a2), some (vJ x11), none, some (vI a5), some (vI a6), some (vI a7), some (vI a8)] [] S6 F7 G8 Q
    obtain ⟨q12, h⟩ := h
    refine go_iinc (show decode cX2_leastIn 100 = .ok (.iinc 8 1, 3) by decide +kernel) (by rfl) q12 (by decide) ?_
    show Go d MX2_leastIn 103 [some (vR a0), some (vI a1), some (vR a2), some (vJ x11), none, some (vI a5), some (vI a6), some (vI a7), some (vI (a8 + 1))] [] S6 F7 G8 Q
    refine go_goto (tgt := 75) (show decode cX2_leastIn 103 = .ok (.goto (-28), 3) by decide +kernel) (by decide) ?_
    exact h
def V_X2_leastIn_52 (d : Nat) (S : AS) (F : AF) (G : AG) (Q : AQ) (a0 : Nat) (a1 : Int) (a2 : Nat) (a3 : Int) (a5 : Int) (a6 : Int) (a7 : Int) : Prop :=
  ((a6 < a7) →
    Q (some (vJ a3)) S F G) ∧
  ((¬ a6 < a7) →
    (sK S a0 = 2) ∧
    (sK S (sR S a0 0) = 0) ∧
    (sK S a2 = 3) ∧
    (1 ≤ d) ∧
    (sK S (sR S (sR S a0 0) 0) = 1) ∧
    Ok (d - 1) MX1_bandOf [vR (sR S (sR S a0 0) 0), vI (F a2 0)] S F G (fun w5 S6 F7 G8 =>
    ∃ z10 : Int, w5 = some (vI z10) ∧
    Go d MX2_leastIn 75 [some (vR a0), some (vI a1), some (vR a2), some (vJ a3), none, some (vI a5), some (vI a6), some (vI a7), some (vI z10)] [] S6 F7 G8 Q))
theorem R_X2_leastIn_52 {d : Nat} {S : AS} {F : AF} {G : AG} {Q : AQ} {a0 : Nat} {a1 : Int} {a2 : Nat} {a3 : Int} {a5 : Int} {a6 : Int} {a7 : Int} (h : V_X2_leastIn_52 d S F G Q a0 a1 a2 a3 a5 a6 a7) : Go d MX2_leastIn 52 [some (vR a0), some (vI a1), some (vR a2), some (vJ a3), none, some (vI a5), some (vI a6), some (vI a7), none] [] S F G Q := by
  unfold V_X2_leastIn_52 at h
  refine go_iload (show decode cX2_leastIn 52 = .ok (.iload 7, 2) by decide +kernel) (by rfl) ?_
  refine go_iload (show decode cX2_leastIn 54 = .ok (.iload 6, 2) by decide +kernel) (by rfl) ?_
  obtain ⟨ht, hf⟩ := h
  refine go_icmpgt (tgt := 112) (show decode cX2_leastIn 56 = .ok (.if_icmp .gt 56, 3) by decide +kernel) (by decide) (fun hc => ?_) (fun hc => ?_)
  · have h := ht hc
    refine go_lload_n (show decode cX2_leastIn 112 = .ok (.lload_n 3, 1) by decide +kernel) (by rfl) ?_
    exact go_lret (show decode cX2_leastIn 113 = .ok (.lreturn, 1) by decide +kernel) rfl h
  · have h := hf hc
    refine go_aload_n (show decode cX2_leastIn 59 = .ok (.aload_n 0, 1) by decide +kernel) (by rfl) ?_
    obtain ⟨q1, h⟩ := h
    refine go_getR (show decode cX2_leastIn 60 = .ok (.getfield 12, 3) by decide +kernel) fl_X2_12 rfl q1 ?_
    obtain ⟨q2, h⟩ := h
    refine go_getR (show decode cX2_leastIn 63 = .ok (.getfield 90, 3) by decide +kernel) fl_X2_90 rfl q2 ?_
    refine go_aload_n (show decode cX2_leastIn 66 = .ok (.aload_n 2, 1) by decide +kernel) (by rfl) ?_
    obtain ⟨q3, h⟩ := h
    refine go_getI (show decode cX2_leastIn 67 = .ok (.getfield 74, 3) by decide +kernel) fl_X2_74 (Or.inl rfl) q3 ?_
    obtain ⟨q4, h⟩ := h
    obtain ⟨q9, h⟩ := h
    refine go_callV (d2 := d - 1) (M2 := MX1_bandOf) (n := 1) (ci := 1) (av := [vI (F a2 0)]) (st := []) (show decode cX2_leastIn 70 = .ok (.invokevirtual 99, 3) by decide +kernel) ml_X2_99 mt_X1_bandOf min_X1_bandOf mse_X1_bandOf (by decide) q9 rfl (Nat.le_of_ble_eq_true rfl) (by omega) (ok_mono h (fun w5 S6 F7 G8 h => ?_))
    obtain ⟨z10, e9, h⟩ := h
    subst e9
    show Go d MX2_leastIn 73 [some (vR a0), some (vI a1), some (vR a2), some (vJ a3), none, some (vI a5), some (vI a6), some (vI a7), none] [vI z10] S6 F7 G8 Q
    refine go_istore (show decode cX2_leastIn 73 = .ok (.istore 8, 2) by decide +kernel) (by decide) ?_
    show Go d MX2_leastIn 75 [some (vR a0), some (vI a1), some (vR a2), some (vJ a3), none, some (vI a5), some (vI a6), some (vI a7), some (vI z10)] [] S6 F7 G8 Q
    exact h
def V_X2_leastIn_0 (d : Nat) (S : AS) (F : AF) (G : AG) (Q : AQ) (a0 : Nat) (a1 : Int) (a2 : Nat) : Prop :=
  (sK S a0 = 2) ∧
  (sK S (sR S a0 0) = 0) ∧
  (sK S a2 = 3) ∧
  (1 ≤ d) ∧
  (sK S (sR S (sR S a0 0) 0) = 1) ∧
  Ok (d - 1) MX1_bandOf [vR (sR S (sR S a0 0) 0), vI (F a2 2)] S F G (fun w5 S6 F7 G8 =>
  ∃ z10 : Int, w5 = some (vI z10) ∧
  (sK S6 a0 = 2) ∧
  (sK S6 (sR S6 a0 1) = 0) ∧
  (sK S6 a2 = 3) ∧
  (sK S6 (sR S6 (sR S6 a0 1) 0) = 1) ∧
  Ok (d - 1) MX1_bandOf [vR (sR S6 (sR S6 a0 1) 0), vI (F7 a2 3)] S6 F7 G8 (fun w14 S15 F16 G17 =>
  ∃ z19 : Int, w14 = some (vI z19) ∧
  (sK S15 a0 = 2) ∧
  (sK S15 (sR S15 a0 1) = 0) ∧
  (sK S15 a2 = 3) ∧
  (sK S15 (sR S15 (sR S15 a0 1) 0) = 1) ∧
  Ok (d - 1) MX1_bandOf [vR (sR S15 (sR S15 a0 1) 0), vI (F16 a2 1)] S15 F16 G17 (fun w23 S24 F25 G26 =>
  ∃ z28 : Int, w23 = some (vI z28) ∧
  Go d MX2_leastIn 52 [some (vR a0), some (vI a1), some (vR a2), some (vJ 9000000000000000001), none, some (vI z10), some (vI z19), some (vI z28), none] [] S24 F25 G26 Q)))
theorem R_X2_leastIn_0 {d : Nat} {S : AS} {F : AF} {G : AG} {Q : AQ} {a0 : Nat} {a1 : Int} {a2 : Nat} (h : V_X2_leastIn_0 d S F G Q a0 a1 a2) : Go d MX2_leastIn 0 [some (vR a0), some (vI a1), some (vR a2), none, none, none, none, none, none] [] S F G Q := by
  unfold V_X2_leastIn_0 at h
  refine go_ldc2 (show decode cX2_leastIn 0 = .ok (.ldc2_w 109, 3) by decide +kernel) lc_X2_109 (by decide) ?_
  refine go_lstore_n (show decode cX2_leastIn 3 = .ok (.lstore_n 3, 1) by decide +kernel) (by decide) ?_
  show Go d MX2_leastIn 4 [some (vR a0), some (vI a1), some (vR a2), some (vJ 9000000000000000001), none, none, none, none, none] [] S F G Q
  refine go_aload_n (show decode cX2_leastIn 4 = .ok (.aload_n 0, 1) by decide +kernel) (by rfl) ?_
  obtain ⟨q1, h⟩ := h
  refine go_getR (show decode cX2_leastIn 5 = .ok (.getfield 12, 3) by decide +kernel) fl_X2_12 rfl q1 ?_
  obtain ⟨q2, h⟩ := h
  refine go_getR (show decode cX2_leastIn 8 = .ok (.getfield 90, 3) by decide +kernel) fl_X2_90 rfl q2 ?_
  refine go_aload_n (show decode cX2_leastIn 11 = .ok (.aload_n 2, 1) by decide +kernel) (by rfl) ?_
  obtain ⟨q3, h⟩ := h
  refine go_getI (show decode cX2_leastIn 12 = .ok (.getfield 77, 3) by decide +kernel) fl_X2_77 (Or.inl rfl) q3 ?_
  obtain ⟨q4, h⟩ := h
  obtain ⟨q9, h⟩ := h
  refine go_callV (d2 := d - 1) (M2 := MX1_bandOf) (n := 1) (ci := 1) (av := [vI (F a2 2)]) (st := []) (show decode cX2_leastIn 15 = .ok (.invokevirtual 99, 3) by decide +kernel) ml_X2_99 mt_X1_bandOf min_X1_bandOf mse_X1_bandOf (by decide) q9 rfl (Nat.le_of_ble_eq_true rfl) (by omega) (ok_mono h (fun w5 S6 F7 G8 h => ?_))
  obtain ⟨z10, e9, h⟩ := h
  subst e9
  show Go d MX2_leastIn 18 [some (vR a0), some (vI a1), some (vR a2), some (vJ 9000000000000000001), none, none, none, none, none] [vI z10] S6 F7 G8 Q
  refine go_istore (show decode cX2_leastIn 18 = .ok (.istore 5, 2) by decide +kernel) (by decide) ?_
  show Go d MX2_leastIn 20 [some (vR a0), some (vI a1), some (vR a2), some (vJ 9000000000000000001), none, some (vI z10), none, none, none] [] S6 F7 G8 Q
  refine go_aload_n (show decode cX2_leastIn 20 = .ok (.aload_n 0, 1) by decide +kernel) (by rfl) ?_
  obtain ⟨q11, h⟩ := h
  refine go_getR (show decode cX2_leastIn 21 = .ok (.getfield 18, 3) by decide +kernel) fl_X2_18 rfl q11 ?_
  obtain ⟨q12, h⟩ := h
  refine go_getR (show decode cX2_leastIn 24 = .ok (.getfield 90, 3) by decide +kernel) fl_X2_90 rfl q12 ?_
  refine go_aload_n (show decode cX2_leastIn 27 = .ok (.aload_n 2, 1) by decide +kernel) (by rfl) ?_
  obtain ⟨q13, h⟩ := h
  refine go_getI (show decode cX2_leastIn 28 = .ok (.getfield 83, 3) by decide +kernel) fl_X2_83 (Or.inl rfl) q13 ?_
  obtain ⟨q18, h⟩ := h
  refine go_callV (d2 := d - 1) (M2 := MX1_bandOf) (n := 1) (ci := 1) (av := [vI (F7 a2 3)]) (st := []) (show decode cX2_leastIn 31 = .ok (.invokevirtual 99, 3) by decide +kernel) ml_X2_99 mt_X1_bandOf min_X1_bandOf mse_X1_bandOf (by decide) q18 rfl (Nat.le_of_ble_eq_true rfl) (by omega) (ok_mono h (fun w14 S15 F16 G17 h => ?_))
  obtain ⟨z19, e9, h⟩ := h
  subst e9
  show Go d MX2_leastIn 34 [some (vR a0), some (vI a1), some (vR a2), some (vJ 9000000000000000001), none, some (vI z10), none, none, none] [vI z19] S15 F16 G17 Q
  refine go_istore (show decode cX2_leastIn 34 = .ok (.istore 6, 2) by decide +kernel) (by decide) ?_
  show Go d MX2_leastIn 36 [some (vR a0), some (vI a1), some (vR a2), some (vJ 9000000000000000001), none, some (vI z10), some (vI z19), none, none] [] S15 F16 G17 Q
  refine go_aload_n (show decode cX2_leastIn 36 = .ok (.aload_n 0, 1) by decide +kernel) (by rfl) ?_
  obtain ⟨q20, h⟩ := h
  refine go_getR (show decode cX2_leastIn 37 = .ok (.getfield 18, 3) by decide +kernel) fl_X2_18 rfl q20 ?_
  obtain ⟨q21, h⟩ := h
  refine go_getR (show decode cX2_leastIn 40 = .ok (.getfield 90, 3) by decide +kernel) fl_X2_90 rfl q21 ?_
  refine go_aload_n (show decode cX2_leastIn 43 = .ok (.aload_n 2, 1) by decide +kernel) (by rfl) ?_
  obtain ⟨q22, h⟩ := h
  refine go_getI (show decode cX2_leastIn 44 = .ok (.getfield 80, 3) by decide +kernel) fl_X2_80 (Or.inl rfl) q22 ?_
  obtain ⟨q27, h⟩ := h
  refine go_callV (d2 := d - 1) (M2 := MX1_bandOf) (n := 1) (ci := 1) (av := [vI (F16 a2 1)]) (st := []) (show decode cX2_leastIn 47 = .ok (.invokevirtual 99, 3) by decide +kernel) ml_X2_99 mt_X1_bandOf min_X1_bandOf mse_X1_bandOf (by decide) q27 rfl (Nat.le_of_ble_eq_true rfl) (by omega) (ok_mono h (fun w23 S24 F25 G26 h => ?_))
  obtain ⟨z28, e9, h⟩ := h
  subst e9
  show Go d MX2_leastIn 50 [some (vR a0), some (vI a1), some (vR a2), some (vJ 9000000000000000001), none, some (vI z10), some (vI z19), none, none] [vI z28] S24 F25 G26 Q
  refine go_istore (show decode cX2_leastIn 50 = .ok (.istore 7, 2) by decide +kernel) (by decide) ?_
  show Go d MX2_leastIn 52 [some (vR a0), some (vI a1), some (vR a2), some (vJ 9000000000000000001), none, some (vI z10), some (vI z19), some (vI z28), none] [] S24 F25 G26 Q
  exact h
def V_X2_unitsAt_0 (d : Nat) (S : AS) (F : AF) (G : AG) (Q : AQ) (a0 : Nat) (a1 : Int) (a2 : Int) : Prop :=
  ((¬ a1 = -1) →
    (sK S a0 = 2) ∧
    (r32 (a1 * 2304)) ∧
    (r32 ((a1 * 2304) + a2)) ∧
    (sK S (sR S a0 3) = 21) ∧
    ((0 : Int) ≤ (a1 * 2304) + a2) ∧
    (((a1 * 2304) + a2 : Int) < (sN S (sR S a0 3) : Int)) ∧
    Q (some (vJ (G (sR S a0 3) ((a1 * 2304) + a2)))) S F G) ∧
  ((a1 = -1) →
    (sK S a0 = 2) ∧
    (sK S (sR S a0 3) = 21) ∧
    ((0 : Int) ≤ a2) ∧
    ((a2 : Int) < (sN S (sR S a0 3) : Int)) ∧
    (r32 (2304 + a2)) ∧
    ((0 : Int) ≤ 2304 + a2) ∧
    ((2304 + a2 : Int) < (sN S (sR S a0 3) : Int)) ∧
    (r64 ((G (sR S a0 3) a2) + (G (sR S a0 3) (2304 + a2)))) ∧
    (r32 (4608 + a2)) ∧
    ((0 : Int) ≤ 4608 + a2) ∧
    ((4608 + a2 : Int) < (sN S (sR S a0 3) : Int)) ∧
    (r64 (((G (sR S a0 3) a2) + (G (sR S a0 3) (2304 + a2))) + (G (sR S a0 3) (4608 + a2)))) ∧
    Q (some (vJ (((G (sR S a0 3) a2) + (G (sR S a0 3) (2304 + a2))) + (G (sR S a0 3) (4608 + a2))))) S F G)
theorem R_X2_unitsAt_0 {d : Nat} {S : AS} {F : AF} {G : AG} {Q : AQ} {a0 : Nat} {a1 : Int} {a2 : Int} (h : V_X2_unitsAt_0 d S F G Q a0 a1 a2) : Go d MX2_unitsAt 0 [some (vR a0), some (vI a1), some (vI a2)] [] S F G Q := by
  unfold V_X2_unitsAt_0 at h
  refine go_iload_n (show decode cX2_unitsAt 0 = .ok (.iload_n 1, 1) by decide +kernel) (by rfl) ?_
  refine go_iconst (show decode cX2_unitsAt 1 = .ok (.iconst (-1), 1) by decide +kernel) (by decide) ?_
  obtain ⟨ht, hf⟩ := h
  refine go_icmpne (tgt := 34) (show decode cX2_unitsAt 2 = .ok (.if_icmp .ne 32, 3) by decide +kernel) (by decide) (fun hc => ?_) (fun hc => ?_)
  · have h := ht hc
    refine go_aload_n (show decode cX2_unitsAt 34 = .ok (.aload_n 0, 1) by decide +kernel) (by rfl) ?_
    obtain ⟨q1, h⟩ := h
    refine go_getR (show decode cX2_unitsAt 35 = .ok (.getfield 28, 3) by decide +kernel) fl_X2_28 rfl q1 ?_
    refine go_iload_n (show decode cX2_unitsAt 38 = .ok (.iload_n 1, 1) by decide +kernel) (by rfl) ?_
    refine go_sipush (show decode cX2_unitsAt 39 = .ok (.sipush 2304, 3) by decide +kernel) (by decide) ?_
    obtain ⟨q2, h⟩ := h
    refine go_imul (show decode cX2_unitsAt 42 = .ok (.imul, 1) by decide +kernel) q2 ?_
    refine go_iload_n (show decode cX2_unitsAt 43 = .ok (.iload_n 2, 1) by decide +kernel) (by rfl) ?_
    obtain ⟨q3, h⟩ := h
    refine go_iadd (show decode cX2_unitsAt 44 = .ok (.iadd, 1) by decide +kernel) q3 ?_
    obtain ⟨q4, h⟩ := h
    obtain ⟨q5, h⟩ := h
    obtain ⟨q6, h⟩ := h
    refine go_laload (show decode cX2_unitsAt 45 = .ok (.laload, 1) by decide +kernel) q4 q5 q6 ?_
    exact go_lret (show decode cX2_unitsAt 46 = .ok (.lreturn, 1) by decide +kernel) rfl h
  · have h := hf hc
    refine go_aload_n (show decode cX2_unitsAt 5 = .ok (.aload_n 0, 1) by decide +kernel) (by rfl) ?_
    obtain ⟨q7, h⟩ := h
    refine go_getR (show decode cX2_unitsAt 6 = .ok (.getfield 28, 3) by decide +kernel) fl_X2_28 rfl q7 ?_
    refine go_iload_n (show decode cX2_unitsAt 9 = .ok (.iload_n 2, 1) by decide +kernel) (by rfl) ?_
    obtain ⟨q8, h⟩ := h
    obtain ⟨q9, h⟩ := h
    obtain ⟨q10, h⟩ := h
    refine go_laload (show decode cX2_unitsAt 10 = .ok (.laload, 1) by decide +kernel) q8 q9 q10 ?_
    refine go_aload_n (show decode cX2_unitsAt 11 = .ok (.aload_n 0, 1) by decide +kernel) (by rfl) ?_
    refine go_getR (show decode cX2_unitsAt 12 = .ok (.getfield 28, 3) by decide +kernel) fl_X2_28 rfl q7 ?_
    refine go_sipush (show decode cX2_unitsAt 15 = .ok (.sipush 2304, 3) by decide +kernel) (by decide) ?_
    refine go_iload_n (show decode cX2_unitsAt 18 = .ok (.iload_n 2, 1) by decide +kernel) (by rfl) ?_
    obtain ⟨q11, h⟩ := h
    refine go_iadd (show decode cX2_unitsAt 19 = .ok (.iadd, 1) by decide +kernel) q11 ?_
    obtain ⟨q12, h⟩ := h
    obtain ⟨q13, h⟩ := h
    refine go_laload (show decode cX2_unitsAt 20 = .ok (.laload, 1) by decide +kernel) q8 q12 q13 ?_
    obtain ⟨q14, h⟩ := h
    refine go_ladd (show decode cX2_unitsAt 21 = .ok (.ladd, 1) by decide +kernel) q14 ?_
    refine go_aload_n (show decode cX2_unitsAt 22 = .ok (.aload_n 0, 1) by decide +kernel) (by rfl) ?_
    refine go_getR (show decode cX2_unitsAt 23 = .ok (.getfield 28, 3) by decide +kernel) fl_X2_28 rfl q7 ?_
    refine go_sipush (show decode cX2_unitsAt 26 = .ok (.sipush 4608, 3) by decide +kernel) (by decide) ?_
    refine go_iload_n (show decode cX2_unitsAt 29 = .ok (.iload_n 2, 1) by decide +kernel) (by rfl) ?_
    obtain ⟨q15, h⟩ := h
    refine go_iadd (show decode cX2_unitsAt 30 = .ok (.iadd, 1) by decide +kernel) q15 ?_
    obtain ⟨q16, h⟩ := h
    obtain ⟨q17, h⟩ := h
    refine go_laload (show decode cX2_unitsAt 31 = .ok (.laload, 1) by decide +kernel) q8 q16 q17 ?_
    obtain ⟨q18, h⟩ := h
    refine go_ladd (show decode cX2_unitsAt 32 = .ok (.ladd, 1) by decide +kernel) q18 ?_
    exact go_lret (show decode cX2_unitsAt 33 = .ok (.lreturn, 1) by decide +kernel) rfl h
def V_X2_mostIn_73 (d : Nat) (S : AS) (F : AF) (G : AG) (Q : AQ) (a0 : Nat) (a1 : Int) (a2 : Nat) (a3 : Int) (a5 : Int) (a6 : Int) (a7 : Int) (a8 : Int) : Prop :=
  ((a5 < a8) →
    (r32 (a7 + 1)) ∧
    Go d MX2_mostIn 50 [some (vR a0), some (vI a1), some (vR a2), some (vJ a3), none, some (vI a5), some (vI a6), some (vI (a7 + 1)), none] [] S F G Q) ∧
  ((¬ a5 < a8) →
    (r32 (48 * a7)) ∧
    (r32 ((48 * a7) + a8)) ∧
    (1 ≤ d) ∧
    (sK S a0 = 2) ∧
    Ok (d - 1) MX2_unitsAt [vR a0, vI a1, vI ((48 * a7) + a8)] S F G (fun w5 S6 F7 G8 =>
    ∃ z10 : Int, w5 = some (vJ z10) ∧
    ∀ x11 : Int, x11 = max a3 z10 →
    (r32 (a8 + 1)) ∧
    Go d MX2_mostIn 73 [some (vR a0), some (vI a1), some (vR a2), some (vJ x11), none, some (vI a5), some (vI a6), some (vI a7), some (vI (a8 + 1))] [] S6 F7 G8 Q))
theorem R_X2_mostIn_73 {d : Nat} {S : AS} {F : AF} {G : AG} {Q : AQ} {a0 : Nat} {a1 : Int} {a2 : Nat} {a3 : Int} {a5 : Int} {a6 : Int} {a7 : Int} {a8 : Int} (h : V_X2_mostIn_73 d S F G Q a0 a1 a2 a3 a5 a6 a7 a8) : Go d MX2_mostIn 73 [some (vR a0), some (vI a1), some (vR a2), some (vJ a3), none, some (vI a5), some (vI a6), some (vI a7), some (vI a8)] [] S F G Q := by
  unfold V_X2_mostIn_73 at h
  refine go_iload (show decode cX2_mostIn 73 = .ok (.iload 8, 2) by decide +kernel) (by rfl) ?_
  refine go_iload (show decode cX2_mostIn 75 = .ok (.iload 5, 2) by decide +kernel) (by rfl) ?_
  obtain ⟨ht, hf⟩ := h
  refine go_icmpgt (tgt := 104) (show decode cX2_mostIn 77 = .ok (.if_icmp .gt 27, 3) by decide +kernel) (by decide) (fun hc => ?_) (fun hc => ?_)
  · have h := ht hc
    obtain ⟨q1, h⟩ := h
    refine go_iinc (show decode cX2_mostIn 104 = .ok (.iinc 7 1, 3) by decide +kernel) (by rfl) q1 (by decide) ?_
    show Go d MX2_mostIn 107 [some (vR a0), some (vI a1), some (vR a2), some (vJ a3), none, some (vI a5), some (vI a6), some (vI (a7 + 1)), some (vI a8)] [] S F G Q
    refine go_goto (tgt := 50) (show decode cX2_mostIn 107 = .ok (.goto (-57), 3) by decide +kernel) (by decide) ?_
    refine go_clr 8 ?_
    exact h
  · have h := hf hc
    refine go_lload_n (show decode cX2_mostIn 80 = .ok (.lload_n 3, 1) by decide +kernel) (by rfl) ?_
    refine go_aload_n (show decode cX2_mostIn 81 = .ok (.aload_n 0, 1) by decide +kernel) (by rfl) ?_
    refine go_iload_n (show decode cX2_mostIn 82 = .ok (.iload_n 1, 1) by decide +kernel) (by rfl) ?_
    refine go_bipush (show decode cX2_mostIn 83 = .ok (.bipush 48, 2) by decide +kernel) (by decide) ?_
    refine go_iload (show decode cX2_mostIn 85 = .ok (.iload 7, 2) by decide +kernel) (by rfl) ?_
    obtain ⟨q2, h⟩ := h
    refine go_imul (show decode cX2_mostIn 87 = .ok (.imul, 1) by decide +kernel) q2 ?_
    refine go_iload (show decode cX2_mostIn 88 = .ok (.iload 8, 2) by decide +kernel) (by rfl) ?_
    obtain ⟨q3, h⟩ := h
    refine go_iadd (show decode cX2_mostIn 90 = .ok (.iadd, 1) by decide +kernel) q3 ?_
    obtain ⟨q4, h⟩ := h
    obtain ⟨q9, h⟩ := h
    refine go_callV (d2 := d - 1) (M2 := MX2_unitsAt) (n := 2) (ci := 2) (av := [vI a1, vI ((48 * a7) + a8)]) (st := [vJ a3]) (show decode cX2_mostIn 91 = .ok (.invokevirtual 111, 3) by decide +kernel) ml_X2_111 mt_X2_unitsAt min_X2_unitsAt mse_X2_unitsAt (by decide) q9 rfl (Nat.le_of_ble_eq_true rfl) (by omega) (ok_mono h (fun w5 S6 F7 G8 h => ?_))
    obtain ⟨z10, e9, h⟩ := h
    subst e9
    show Go d MX2_mostIn 94 [some (vR a0), some (vI a1), some (vR a2), some (vJ a3), none, some (vI a5), some (vI a6), some (vI a7), some (vI a8)] [vJ z10, vJ a3] S6 F7 G8 Q
    refine go_maxJm (show decode cX2_mostIn 94 = .ok (.invokestatic 121, 3) by decide +kernel) ml_X2_121 mh_maxJ_s mh_i mh_maxJ_c (Nat.le_of_ble_eq_true rfl) q4 ?_
    obtain ⟨x11, x11e⟩ : ∃ x11 : Int, x11 = max a3 z10 := ⟨_, rfl⟩
    have h := h x11 x11e
    rw [← x11e]
    refine go_lstore_n (show decode cX2_mostIn 97 = .ok (.lstore_n 3, 1) by decide +kernel) (by decide) ?_
    show Go d MX2_mostIn 98 [some (vR a0), some (vI a1), some (vR a2), some (vJ x11), none, some (vI a5), some (vI a6), some (vI a7), some (vI a8)] [] S6 F7 G8 Q
    obtain ⟨q12, h⟩ := h
    refine go_iinc (show decode cX2_mostIn 98 = .ok (.iinc 8 1, 3) by decide +kernel) (by rfl) q12 (by decide) ?_
    show Go d MX2_mostIn 101 [some (vR a0), some (vI a1), some (vR a2), some (vJ x11), none, some (vI a5), some (vI a6), some (vI a7), some (vI (a8 + 1))] [] S6 F7 G8 Q
    refine go_goto (tgt := 73) (show decode cX2_mostIn 101 = .ok (.goto (-28), 3) by decide +kernel) (by decide) ?_
    exact h
def V_X2_mostIn_50 (d : Nat) (S : AS) (F : AF) (G : AG) (Q : AQ) (a0 : Nat) (a1 : Int) (a2 : Nat) (a3 : Int) (a5 : Int) (a6 : Int) (a7 : Int) : Prop :=
  ((a6 < a7) →
    Q (some (vJ a3)) S F G) ∧
  ((¬ a6 < a7) →
    (sK S a0 = 2) ∧
    (sK S (sR S a0 0) = 0) ∧
    (sK S a2 = 3) ∧
    (1 ≤ d) ∧
    (sK S (sR S (sR S a0 0) 0) = 1) ∧
    Ok (d - 1) MX1_bandOf [vR (sR S (sR S a0 0) 0), vI (F a2 0)] S F G (fun w5 S6 F7 G8 =>
    ∃ z10 : Int, w5 = some (vI z10) ∧
    Go d MX2_mostIn 73 [some (vR a0), some (vI a1), some (vR a2), some (vJ a3), none, some (vI a5), some (vI a6), some (vI a7), some (vI z10)] [] S6 F7 G8 Q))
theorem R_X2_mostIn_50 {d : Nat} {S : AS} {F : AF} {G : AG} {Q : AQ} {a0 : Nat} {a1 : Int} {a2 : Nat} {a3 : Int} {a5 : Int} {a6 : Int} {a7 : Int} (h : V_X2_mostIn_50 d S F G Q a0 a1 a2 a3 a5 a6 a7) : Go d MX2_mostIn 50 [some (vR a0), some (vI a1), some (vR a2), some (vJ a3), none, some (vI a5), some (vI a6), some (vI a7), none] [] S F G Q := by
  unfold V_X2_mostIn_50 at h
  refine go_iload (show decode cX2_mostIn 50 = .ok (.iload 7, 2) by decide +kernel) (by rfl) ?_
  refine go_iload (show decode cX2_mostIn 52 = .ok (.iload 6, 2) by decide +kernel) (by rfl) ?_
  obtain ⟨ht, hf⟩ := h
  refine go_icmpgt (tgt := 110) (show decode cX2_mostIn 54 = .ok (.if_icmp .gt 56, 3) by decide +kernel) (by decide) (fun hc => ?_) (fun hc => ?_)
  · have h := ht hc
    refine go_lload_n (show decode cX2_mostIn 110 = .ok (.lload_n 3, 1) by decide +kernel) (by rfl) ?_
    exact go_lret (show decode cX2_mostIn 111 = .ok (.lreturn, 1) by decide +kernel) rfl h
  · have h := hf hc
    refine go_aload_n (show decode cX2_mostIn 57 = .ok (.aload_n 0, 1) by decide +kernel) (by rfl) ?_
    obtain ⟨q1, h⟩ := h
    refine go_getR (show decode cX2_mostIn 58 = .ok (.getfield 12, 3) by decide +kernel) fl_X2_12 rfl q1 ?_
    obtain ⟨q2, h⟩ := h
    refine go_getR (show decode cX2_mostIn 61 = .ok (.getfield 90, 3) by decide +kernel) fl_X2_90 rfl q2 ?_
    refine go_aload_n (show decode cX2_mostIn 64 = .ok (.aload_n 2, 1) by decide +kernel) (by rfl) ?_
    obtain ⟨q3, h⟩ := h
    refine go_getI (show decode cX2_mostIn 65 = .ok (.getfield 74, 3) by decide +kernel) fl_X2_74 (Or.inl rfl) q3 ?_
    obtain ⟨q4, h⟩ := h
    obtain ⟨q9, h⟩ := h
    refine go_callV (d2 := d - 1) (M2 := MX1_bandOf) (n := 1) (ci := 1) (av := [vI (F a2 0)]) (st := []) (show decode cX2_mostIn 68 = .ok (.invokevirtual 99, 3) by decide +kernel) ml_X2_99 mt_X1_bandOf min_X1_bandOf mse_X1_bandOf (by decide) q9 rfl (Nat.le_of_ble_eq_true rfl) (by omega) (ok_mono h (fun w5 S6 F7 G8 h => ?_))
    obtain ⟨z10, e9, h⟩ := h
    subst e9
    show Go d MX2_mostIn 71 [some (vR a0), some (vI a1), some (vR a2), some (vJ a3), none, some (vI a5), some (vI a6), some (vI a7), none] [vI z10] S6 F7 G8 Q
    refine go_istore (show decode cX2_mostIn 71 = .ok (.istore 8, 2) by decide +kernel) (by decide) ?_
    show Go d MX2_mostIn 73 [some (vR a0), some (vI a1), some (vR a2), some (vJ a3), none, some (vI a5), some (vI a6), some (vI a7), some (vI z10)] [] S6 F7 G8 Q
    exact h
def V_X2_mostIn_0 (d : Nat) (S : AS) (F : AF) (G : AG) (Q : AQ) (a0 : Nat) (a1 : Int) (a2 : Nat) : Prop :=
  (sK S a0 = 2) ∧
  (sK S (sR S a0 0) = 0) ∧
  (sK S a2 = 3) ∧
  (1 ≤ d) ∧
  (sK S (sR S (sR S a0 0) 0) = 1) ∧
  Ok (d - 1) MX1_bandOf [vR (sR S (sR S a0 0) 0), vI (F a2 2)] S F G (fun w5 S6 F7 G8 =>
  ∃ z10 : Int, w5 = some (vI z10) ∧
  (sK S6 a0 = 2) ∧
  (sK S6 (sR S6 a0 1) = 0) ∧
  (sK S6 a2 = 3) ∧
  (sK S6 (sR S6 (sR S6 a0 1) 0) = 1) ∧
  Ok (d - 1) MX1_bandOf [vR (sR S6 (sR S6 a0 1) 0), vI (F7 a2 3)] S6 F7 G8 (fun w14 S15 F16 G17 =>
  ∃ z19 : Int, w14 = some (vI z19) ∧
  (sK S15 a0 = 2) ∧
  (sK S15 (sR S15 a0 1) = 0) ∧
  (sK S15 a2 = 3) ∧
  (sK S15 (sR S15 (sR S15 a0 1) 0) = 1) ∧
  Ok (d - 1) MX1_bandOf [vR (sR S15 (sR S15 a0 1) 0), vI (F16 a2 1)] S15 F16 G17 (fun w23 S24 F25 G26 =>
  ∃ z28 : Int, w23 = some (vI z28) ∧
  Go d MX2_mostIn 50 [some (vR a0), some (vI a1), some (vR a2), some (vJ 0), none, some (vI z10), some (vI z19), some (vI z28), none] [] S24 F25 G26 Q)))
theorem R_X2_mostIn_0 {d : Nat} {S : AS} {F : AF} {G : AG} {Q : AQ} {a0 : Nat} {a1 : Int} {a2 : Nat} (h : V_X2_mostIn_0 d S F G Q a0 a1 a2) : Go d MX2_mostIn 0 [some (vR a0), some (vI a1), some (vR a2), none, none, none, none, none, none] [] S F G Q := by
  unfold V_X2_mostIn_0 at h
  refine go_lconst (n := 0) (show decode cX2_mostIn 0 = .ok (.lconst 0, 1) by decide +kernel) ?_
  show Go d MX2_mostIn 1 [some (vR a0), some (vI a1), some (vR a2), none, none, none, none, none, none] [vJ 0] S F G Q
  refine go_lstore_n (show decode cX2_mostIn 1 = .ok (.lstore_n 3, 1) by decide +kernel) (by decide) ?_
  show Go d MX2_mostIn 2 [some (vR a0), some (vI a1), some (vR a2), some (vJ 0), none, none, none, none, none] [] S F G Q
  refine go_aload_n (show decode cX2_mostIn 2 = .ok (.aload_n 0, 1) by decide +kernel) (by rfl) ?_
  obtain ⟨q1, h⟩ := h
  refine go_getR (show decode cX2_mostIn 3 = .ok (.getfield 12, 3) by decide +kernel) fl_X2_12 rfl q1 ?_
  obtain ⟨q2, h⟩ := h
  refine go_getR (show decode cX2_mostIn 6 = .ok (.getfield 90, 3) by decide +kernel) fl_X2_90 rfl q2 ?_
  refine go_aload_n (show decode cX2_mostIn 9 = .ok (.aload_n 2, 1) by decide +kernel) (by rfl) ?_
  obtain ⟨q3, h⟩ := h
  refine go_getI (show decode cX2_mostIn 10 = .ok (.getfield 77, 3) by decide +kernel) fl_X2_77 (Or.inl rfl) q3 ?_
  obtain ⟨q4, h⟩ := h
  obtain ⟨q9, h⟩ := h
  refine go_callV (d2 := d - 1) (M2 := MX1_bandOf) (n := 1) (ci := 1) (av := [vI (F a2 2)]) (st := []) (show decode cX2_mostIn 13 = .ok (.invokevirtual 99, 3) by decide +kernel) ml_X2_99 mt_X1_bandOf min_X1_bandOf mse_X1_bandOf (by decide) q9 rfl (Nat.le_of_ble_eq_true rfl) (by omega) (ok_mono h (fun w5 S6 F7 G8 h => ?_))
  obtain ⟨z10, e9, h⟩ := h
  subst e9
  show Go d MX2_mostIn 16 [some (vR a0), some (vI a1), some (vR a2), some (vJ 0), none, none, none, none, none] [vI z10] S6 F7 G8 Q
  refine go_istore (show decode cX2_mostIn 16 = .ok (.istore 5, 2) by decide +kernel) (by decide) ?_
  show Go d MX2_mostIn 18 [some (vR a0), some (vI a1), some (vR a2), some (vJ 0), none, some (vI z10), none, none, none] [] S6 F7 G8 Q
  refine go_aload_n (show decode cX2_mostIn 18 = .ok (.aload_n 0, 1) by decide +kernel) (by rfl) ?_
  obtain ⟨q11, h⟩ := h
  refine go_getR (show decode cX2_mostIn 19 = .ok (.getfield 18, 3) by decide +kernel) fl_X2_18 rfl q11 ?_
  obtain ⟨q12, h⟩ := h
  refine go_getR (show decode cX2_mostIn 22 = .ok (.getfield 90, 3) by decide +kernel) fl_X2_90 rfl q12 ?_
  refine go_aload_n (show decode cX2_mostIn 25 = .ok (.aload_n 2, 1) by decide +kernel) (by rfl) ?_
  obtain ⟨q13, h⟩ := h
  refine go_getI (show decode cX2_mostIn 26 = .ok (.getfield 83, 3) by decide +kernel) fl_X2_83 (Or.inl rfl) q13 ?_
  obtain ⟨q18, h⟩ := h
  refine go_callV (d2 := d - 1) (M2 := MX1_bandOf) (n := 1) (ci := 1) (av := [vI (F7 a2 3)]) (st := []) (show decode cX2_mostIn 29 = .ok (.invokevirtual 99, 3) by decide +kernel) ml_X2_99 mt_X1_bandOf min_X1_bandOf mse_X1_bandOf (by decide) q18 rfl (Nat.le_of_ble_eq_true rfl) (by omega) (ok_mono h (fun w14 S15 F16 G17 h => ?_))
  obtain ⟨z19, e9, h⟩ := h
  subst e9
  show Go d MX2_mostIn 32 [some (vR a0), some (vI a1), some (vR a2), some (vJ 0), none, some (vI z10), none, none, none] [vI z19] S15 F16 G17 Q
  refine go_istore (show decode cX2_mostIn 32 = .ok (.istore 6, 2) by decide +kernel) (by decide) ?_
  show Go d MX2_mostIn 34 [some (vR a0), some (vI a1), some (vR a2), some (vJ 0), none, some (vI z10), some (vI z19), none, none] [] S15 F16 G17 Q
  refine go_aload_n (show decode cX2_mostIn 34 = .ok (.aload_n 0, 1) by decide +kernel) (by rfl) ?_
  obtain ⟨q20, h⟩ := h
  refine go_getR (show decode cX2_mostIn 35 = .ok (.getfield 18, 3) by decide +kernel) fl_X2_18 rfl q20 ?_
  obtain ⟨q21, h⟩ := h
  refine go_getR (show decode cX2_mostIn 38 = .ok (.getfield 90, 3) by decide +kernel) fl_X2_90 rfl q21 ?_
  refine go_aload_n (show decode cX2_mostIn 41 = .ok (.aload_n 2, 1) by decide +kernel) (by rfl) ?_
  obtain ⟨q22, h⟩ := h
  refine go_getI (show decode cX2_mostIn 42 = .ok (.getfield 80, 3) by decide +kernel) fl_X2_80 (Or.inl rfl) q22 ?_
  obtain ⟨q27, h⟩ := h
  refine go_callV (d2 := d - 1) (M2 := MX1_bandOf) (n := 1) (ci := 1) (av := [vI (F16 a2 1)]) (st := []) (show decode cX2_mostIn 45 = .ok (.invokevirtual 99, 3) by decide +kernel) ml_X2_99 mt_X1_bandOf min_X1_bandOf mse_X1_bandOf (by decide) q27 rfl (Nat.le_of_ble_eq_true rfl) (by omega) (ok_mono h (fun w23 S24 F25 G26 h => ?_))
  obtain ⟨z28, e9, h⟩ := h
  subst e9
  show Go d MX2_mostIn 48 [some (vR a0), some (vI a1), some (vR a2), some (vJ 0), none, some (vI z10), some (vI z19), none, none] [vI z28] S24 F25 G26 Q
  refine go_istore (show decode cX2_mostIn 48 = .ok (.istore 7, 2) by decide +kernel) (by decide) ?_
  show Go d MX2_mostIn 50 [some (vR a0), some (vI a1), some (vR a2), some (vJ 0), none, some (vI z10), some (vI z19), some (vI z28), none] [] S24 F25 G26 Q
  exact h
def V_X2_commonCells_0 (d : Nat) (S : AS) (F : AF) (G : AG) (Q : AQ) (a0 : Nat) (a1 : Nat) : Prop :=
  (sK S a0 = 3) ∧
  (sK S a1 = 3) ∧
  (1 ≤ d) ∧
  (r32 ((min (F a0 2) (F a1 2)) - (max (F a0 0) (F a1 0)))) ∧
  (r32 (((min (F a0 2) (F a1 2)) - (max (F a0 0) (F a1 0))) + 1)) ∧
  ∀ x6 : Int, x6 = ((min (F a0 2) (F a1 2)) - (max (F a0 0) (F a1 0))) + 1 →
  (r32 ((min (F a0 3) (F a1 3)) - (max (F a0 1) (F a1 1)))) ∧
  (r32 (((min (F a0 3) (F a1 3)) - (max (F a0 1) (F a1 1))) + 1)) ∧
  ∀ x9 : Int, x9 = ((min (F a0 3) (F a1 3)) - (max (F a0 1) (F a1 1))) + 1 →
  (r64 ((max 0 x6) * (max 0 x9))) ∧
  Q (some (vJ ((max 0 x6) * (max 0 x9)))) S F G
theorem R_X2_commonCells_0 {d : Nat} {S : AS} {F : AF} {G : AG} {Q : AQ} {a0 : Nat} {a1 : Nat} (h : V_X2_commonCells_0 d S F G Q a0 a1) : Go d MX2_commonCells 0 [some (vR a0), some (vR a1), none, none, none, none] [] S F G Q := by
  unfold V_X2_commonCells_0 at h
  refine go_aload_n (show decode cX2_commonCells 0 = .ok (.aload_n 0, 1) by decide +kernel) (by rfl) ?_
  obtain ⟨q1, h⟩ := h
  refine go_getI (show decode cX2_commonCells 1 = .ok (.getfield 77, 3) by decide +kernel) fl_X2_77 (Or.inl rfl) q1 ?_
  refine go_aload_n (show decode cX2_commonCells 4 = .ok (.aload_n 1, 1) by decide +kernel) (by rfl) ?_
  obtain ⟨q2, h⟩ := h
  refine go_getI (show decode cX2_commonCells 5 = .ok (.getfield 77, 3) by decide +kernel) fl_X2_77 (Or.inl rfl) q2 ?_
  obtain ⟨q3, h⟩ := h
  refine go_minIm (show decode cX2_commonCells 8 = .ok (.invokestatic 189, 3) by decide +kernel) ml_X2_189 mh_min_s mh_i mh_min_c (Nat.le_of_ble_eq_true rfl) q3 ?_
  refine go_aload_n (show decode cX2_commonCells 11 = .ok (.aload_n 0, 1) by decide +kernel) (by rfl) ?_
  refine go_getI (show decode cX2_commonCells 12 = .ok (.getfield 74, 3) by decide +kernel) fl_X2_74 (Or.inl rfl) q1 ?_
  refine go_aload_n (show decode cX2_commonCells 15 = .ok (.aload_n 1, 1) by decide +kernel) (by rfl) ?_
  refine go_getI (show decode cX2_commonCells 16 = .ok (.getfield 74, 3) by decide +kernel) fl_X2_74 (Or.inl rfl) q2 ?_
  refine go_maxIm (show decode cX2_commonCells 19 = .ok (.invokestatic 192, 3) by decide +kernel) ml_X2_192 mh_max_s mh_i mh_max_c (Nat.le_of_ble_eq_true rfl) q3 ?_
  obtain ⟨q4, h⟩ := h
  refine go_isub (show decode cX2_commonCells 22 = .ok (.isub, 1) by decide +kernel) q4 ?_
  refine go_iconst (show decode cX2_commonCells 23 = .ok (.iconst 1, 1) by decide +kernel) (by decide) ?_
  obtain ⟨q5, h⟩ := h
  refine go_iadd (show decode cX2_commonCells 24 = .ok (.iadd, 1) by decide +kernel) q5 ?_
  refine go_i2l (show decode cX2_commonCells 25 = .ok (.i2l, 1) by decide +kernel) ?_
  obtain ⟨x6, x6e⟩ : ∃ x6 : Int, x6 = ((min (F a0 2) (F a1 2)) - (max (F a0 0) (F a1 0))) + 1 := ⟨_, rfl⟩
  have h := h x6 x6e
  rw [← x6e]
  refine go_lstore_n (show decode cX2_commonCells 26 = .ok (.lstore_n 2, 1) by decide +kernel) (by decide) ?_
  show Go d MX2_commonCells 27 [some (vR a0), some (vR a1), some (vJ x6), none, none, none] [] S F G Q
  refine go_aload_n (show decode cX2_commonCells 27 = .ok (.aload_n 0, 1) by decide +kernel) (by rfl) ?_
  refine go_getI (show decode cX2_commonCells 28 = .ok (.getfield 83, 3) by decide +kernel) fl_X2_83 (Or.inl rfl) q1 ?_
  refine go_aload_n (show decode cX2_commonCells 31 = .ok (.aload_n 1, 1) by decide +kernel) (by rfl) ?_
  refine go_getI (show decode cX2_commonCells 32 = .ok (.getfield 83, 3) by decide +kernel) fl_X2_83 (Or.inl rfl) q2 ?_
  refine go_minIm (show decode cX2_commonCells 35 = .ok (.invokestatic 189, 3) by decide +kernel) ml_X2_189 mh_min_s mh_i mh_min_c (Nat.le_of_ble_eq_true rfl) q3 ?_
  refine go_aload_n (show decode cX2_commonCells 38 = .ok (.aload_n 0, 1) by decide +kernel) (by rfl) ?_
  refine go_getI (show decode cX2_commonCells 39 = .ok (.getfield 80, 3) by decide +kernel) fl_X2_80 (Or.inl rfl) q1 ?_
  refine go_aload_n (show decode cX2_commonCells 42 = .ok (.aload_n 1, 1) by decide +kernel) (by rfl) ?_
  refine go_getI (show decode cX2_commonCells 43 = .ok (.getfield 80, 3) by decide +kernel) fl_X2_80 (Or.inl rfl) q2 ?_
  refine go_maxIm (show decode cX2_commonCells 46 = .ok (.invokestatic 192, 3) by decide +kernel) ml_X2_192 mh_max_s mh_i mh_max_c (Nat.le_of_ble_eq_true rfl) q3 ?_
  obtain ⟨q7, h⟩ := h
  refine go_isub (show decode cX2_commonCells 49 = .ok (.isub, 1) by decide +kernel) q7 ?_
  refine go_iconst (show decode cX2_commonCells 50 = .ok (.iconst 1, 1) by decide +kernel) (by decide) ?_
  obtain ⟨q8, h⟩ := h
  refine go_iadd (show decode cX2_commonCells 51 = .ok (.iadd, 1) by decide +kernel) q8 ?_
  refine go_i2l (show decode cX2_commonCells 52 = .ok (.i2l, 1) by decide +kernel) ?_
  obtain ⟨x9, x9e⟩ : ∃ x9 : Int, x9 = ((min (F a0 3) (F a1 3)) - (max (F a0 1) (F a1 1))) + 1 := ⟨_, rfl⟩
  have h := h x9 x9e
  rw [← x9e]
  refine go_lstore (show decode cX2_commonCells 53 = .ok (.lstore 4, 2) by decide +kernel) (by decide) ?_
  show Go d MX2_commonCells 55 [some (vR a0), some (vR a1), some (vJ x6), none, some (vJ x9), none] [] S F G Q
  refine go_lconst (n := 0) (show decode cX2_commonCells 55 = .ok (.lconst 0, 1) by decide +kernel) ?_
  show Go d MX2_commonCells 56 [some (vR a0), some (vR a1), some (vJ x6), none, some (vJ x9), none] [vJ 0] S F G Q
  refine go_lload_n (show decode cX2_commonCells 56 = .ok (.lload_n 2, 1) by decide +kernel) (by rfl) ?_
  refine go_maxJm (show decode cX2_commonCells 57 = .ok (.invokestatic 121, 3) by decide +kernel) ml_X2_121 mh_maxJ_s mh_i mh_maxJ_c (Nat.le_of_ble_eq_true rfl) q3 ?_
  refine go_lconst (n := 0) (show decode cX2_commonCells 60 = .ok (.lconst 0, 1) by decide +kernel) ?_
  show Go d MX2_commonCells 61 [some (vR a0), some (vR a1), some (vJ x6), none, some (vJ x9), none] [vJ 0, vJ (max 0 x6)] S F G Q
  refine go_lload (show decode cX2_commonCells 61 = .ok (.lload 4, 2) by decide +kernel) (by rfl) ?_
  refine go_maxJm (show decode cX2_commonCells 63 = .ok (.invokestatic 121, 3) by decide +kernel) ml_X2_121 mh_maxJ_s mh_i mh_maxJ_c (Nat.le_of_ble_eq_true rfl) q3 ?_
  obtain ⟨q10, h⟩ := h
  refine go_lmul (show decode cX2_commonCells 66 = .ok (.lmul, 1) by decide +kernel) q10 ?_
  exact go_lret (show decode cX2_commonCells 67 = .ok (.lreturn, 1) by decide +kernel) rfl h
def V_X2_sumOf_39 (d : Nat) (S : AS) (F : AF) (G : AG) (Q : AQ) (a0 : Nat) (a1 : Int) (a2 : Nat) (a3 : Int) (a5 : Int) : Prop :=
  ((3 ≤ a5) →
    Q (some (vJ a3)) S F G) ∧
  ((¬ 3 ≤ a5) →
    (sK S a0 = 2) ∧
    (sK S (sR S a0 0) = 0) ∧
    (sK S (sR S a0 1) = 0) ∧
    (r32 (a5 * 2304)) ∧
    (1 ≤ d) ∧
    Ok (d - 1) MX2_sumBy [vR a0, vR (sR S (sR S a0 0) 0), vR (sR S (sR S a0 1) 0), vR (sR S a0 3), vI (a5 * 2304), vR a2] S F G (fun w6 S7 F8 G9 =>
    ∃ z10 : Int, w6 = some (vJ z10) ∧
    (r64 (a3 + z10)) ∧
    ∀ x12 : Int, x12 = a3 + z10 →
    (r32 (a5 + 1)) ∧
    Go d MX2_sumOf 39 [some (vR a0), some (vI a1), some (vR a2), some (vJ x12), none, some (vI (a5 + 1))] [] S7 F8 G9 Q))
theorem R_X2_sumOf_39 {d : Nat} {S : AS} {F : AF} {G : AG} {Q : AQ} {a0 : Nat} {a1 : Int} {a2 : Nat} {a3 : Int} {a5 : Int} (h : V_X2_sumOf_39 d S F G Q a0 a1 a2 a3 a5) : Go d MX2_sumOf 39 [some (vR a0), some (vI a1), some (vR a2), some (vJ a3), none, some (vI a5)] [] S F G Q := by
  unfold V_X2_sumOf_39 at h
  refine go_iload (show decode cX2_sumOf 39 = .ok (.iload 5, 2) by decide +kernel) (by rfl) ?_
  refine go_iconst (show decode cX2_sumOf 41 = .ok (.iconst 3, 1) by decide +kernel) (by decide) ?_
  obtain ⟨ht, hf⟩ := h
  refine go_icmpge (tgt := 83) (show decode cX2_sumOf 42 = .ok (.if_icmp .ge 41, 3) by decide +kernel) (by decide) (fun hc => ?_) (fun hc => ?_)
  · have h := ht hc
    refine go_lload_n (show decode cX2_sumOf 83 = .ok (.lload_n 3, 1) by decide +kernel) (by rfl) ?_
    exact go_lret (show decode cX2_sumOf 84 = .ok (.lreturn, 1) by decide +kernel) rfl h
  · have h := hf hc
    refine go_lload_n (show decode cX2_sumOf 45 = .ok (.lload_n 3, 1) by decide +kernel) (by rfl) ?_
    refine go_aload_n (show decode cX2_sumOf 46 = .ok (.aload_n 0, 1) by decide +kernel) (by rfl) ?_
    refine go_aload_n (show decode cX2_sumOf 47 = .ok (.aload_n 0, 1) by decide +kernel) (by rfl) ?_
    obtain ⟨q1, h⟩ := h
    refine go_getR (show decode cX2_sumOf 48 = .ok (.getfield 12, 3) by decide +kernel) fl_X2_12 rfl q1 ?_
    obtain ⟨q2, h⟩ := h
    refine go_getR (show decode cX2_sumOf 51 = .ok (.getfield 90, 3) by decide +kernel) fl_X2_90 rfl q2 ?_
    refine go_aload_n (show decode cX2_sumOf 54 = .ok (.aload_n 0, 1) by decide +kernel) (by rfl) ?_
    refine go_getR (show decode cX2_sumOf 55 = .ok (.getfield 18, 3) by decide +kernel) fl_X2_18 rfl q1 ?_
    obtain ⟨q3, h⟩ := h
    refine go_getR (show decode cX2_sumOf 58 = .ok (.getfield 90, 3) by decide +kernel) fl_X2_90 rfl q3 ?_
    refine go_aload_n (show decode cX2_sumOf 61 = .ok (.aload_n 0, 1) by decide +kernel) (by rfl) ?_
    refine go_getR (show decode cX2_sumOf 62 = .ok (.getfield 28, 3) by decide +kernel) fl_X2_28 rfl q1 ?_
    refine go_iload (show decode cX2_sumOf 65 = .ok (.iload 5, 2) by decide +kernel) (by rfl) ?_
    refine go_sipush (show decode cX2_sumOf 67 = .ok (.sipush 2304, 3) by decide +kernel) (by decide) ?_
    obtain ⟨q4, h⟩ := h
    refine go_imul (show decode cX2_sumOf 70 = .ok (.imul, 1) by decide +kernel) q4 ?_
    refine go_aload_n (show decode cX2_sumOf 71 = .ok (.aload_n 2, 1) by decide +kernel) (by rfl) ?_
    obtain ⟨q5, h⟩ := h
    refine go_callV (d2 := d - 1) (M2 := MX2_sumBy) (n := 5) (ci := 2) (av := [vR (sR S (sR S a0 0) 0), vR (sR S (sR S a0 1) 0), vR (sR S a0 3), vI (a5 * 2304), vR a2]) (st := [vJ a3]) (show decode cX2_sumOf 72 = .ok (.invokevirtual 94, 3) by decide +kernel) ml_X2_94 mt_X2_sumBy min_X2_sumBy mse_X2_sumBy (by decide) q1 rfl (Nat.le_of_ble_eq_true rfl) (by omega) (ok_mono h (fun w6 S7 F8 G9 h => ?_))
    obtain ⟨z10, e9, h⟩ := h
    subst e9
    show Go d MX2_sumOf 75 [some (vR a0), some (vI a1), some (vR a2), some (vJ a3), none, some (vI a5)] [vJ z10, vJ a3] S7 F8 G9 Q
    obtain ⟨q11, h⟩ := h
    refine go_ladd (show decode cX2_sumOf 75 = .ok (.ladd, 1) by decide +kernel) q11 ?_
    obtain ⟨x12, x12e⟩ : ∃ x12 : Int, x12 = a3 + z10 := ⟨_, rfl⟩
    have h := h x12 x12e
    rw [← x12e]
    refine go_lstore_n (show decode cX2_sumOf 76 = .ok (.lstore_n 3, 1) by decide +kernel) (by decide) ?_
    show Go d MX2_sumOf 77 [some (vR a0), some (vI a1), some (vR a2), some (vJ x12), none, some (vI a5)] [] S7 F8 G9 Q
    obtain ⟨q13, h⟩ := h
    refine go_iinc (show decode cX2_sumOf 77 = .ok (.iinc 5 1, 3) by decide +kernel) (by rfl) q13 (by decide) ?_
    show Go d MX2_sumOf 80 [some (vR a0), some (vI a1), some (vR a2), some (vJ x12), none, some (vI (a5 + 1))] [] S7 F8 G9 Q
    refine go_goto (tgt := 39) (show decode cX2_sumOf 80 = .ok (.goto (-41), 3) by decide +kernel) (by decide) ?_
    exact h
def V_X2_sumOf_0 (d : Nat) (S : AS) (F : AF) (G : AG) (Q : AQ) (a0 : Nat) (a1 : Int) (a2 : Nat) : Prop :=
  ((a1 = -1) →
    Go d MX2_sumOf 39 [some (vR a0), some (vI a1), some (vR a2), some (vJ 0), none, some (vI 0)] [] S F G Q) ∧
  ((¬ a1 = -1) →
    (sK S a0 = 2) ∧
    (sK S (sR S a0 0) = 0) ∧
    (sK S (sR S a0 1) = 0) ∧
    (r32 (a1 * 2304)) ∧
    (1 ≤ d) ∧
    Ok (d - 1) MX2_sumBy [vR a0, vR (sR S (sR S a0 0) 0), vR (sR S (sR S a0 1) 0), vR (sR S a0 3), vI (a1 * 2304), vR a2] S F G (fun w6 S7 F8 G9 =>
    ∃ z10 : Int, w6 = some (vJ z10) ∧
    Q (some (vJ z10)) S7 F8 G9))
theorem R_X2_sumOf_0 {d : Nat} {S : AS} {F : AF} {G : AG} {Q : AQ} {a0 : Nat} {a1 : Int} {a2 : Nat} (h : V_X2_sumOf_0 d S F G Q a0 a1 a2) : Go d MX2_sumOf 0 [some (vR a0), some (vI a1), some (vR a2), none, none, none] [] S F G Q := by
  unfold V_X2_sumOf_0 at h
  refine go_iload_n (show decode cX2_sumOf 0 = .ok (.iload_n 1, 1) by decide +kernel) (by rfl) ?_
  refine go_iconst (show decode cX2_sumOf 1 = .ok (.iconst (-1), 1) by decide +kernel) (by decide) ?_
  obtain ⟨ht, hf⟩ := h
  refine go_icmpeq (tgt := 34) (show decode cX2_sumOf 2 = .ok (.if_icmp .eq 32, 3) by decide +kernel) (by decide) (fun hc => ?_) (fun hc => ?_)
  · have h := ht hc
    refine go_lconst (n := 0) (show decode cX2_sumOf 34 = .ok (.lconst 0, 1) by decide +kernel) ?_
    show Go d MX2_sumOf 35 [some (vR a0), some (vI a1), some (vR a2), none, none, none] [vJ 0] S F G Q
    refine go_lstore_n (show decode cX2_sumOf 35 = .ok (.lstore_n 3, 1) by decide +kernel) (by decide) ?_
    show Go d MX2_sumOf 36 [some (vR a0), some (vI a1), some (vR a2), some (vJ 0), none, none] [] S F G Q
    refine go_iconst (show decode cX2_sumOf 36 = .ok (.iconst 0, 1) by decide +kernel) (by decide) ?_
    refine go_istore (show decode cX2_sumOf 37 = .ok (.istore 5, 2) by decide +kernel) (by decide) ?_
    show Go d MX2_sumOf 39 [some (vR a0), some (vI a1), some (vR a2), some (vJ 0), none, some (vI 0)] [] S F G Q
    exact h
  · have h := hf hc
    refine go_aload_n (show decode cX2_sumOf 5 = .ok (.aload_n 0, 1) by decide +kernel) (by rfl) ?_
    refine go_aload_n (show decode cX2_sumOf 6 = .ok (.aload_n 0, 1) by decide +kernel) (by rfl) ?_
    obtain ⟨q1, h⟩ := h
    refine go_getR (show decode cX2_sumOf 7 = .ok (.getfield 12, 3) by decide +kernel) fl_X2_12 rfl q1 ?_
    obtain ⟨q2, h⟩ := h
    refine go_getR (show decode cX2_sumOf 10 = .ok (.getfield 90, 3) by decide +kernel) fl_X2_90 rfl q2 ?_
    refine go_aload_n (show decode cX2_sumOf 13 = .ok (.aload_n 0, 1) by decide +kernel) (by rfl) ?_
    refine go_getR (show decode cX2_sumOf 14 = .ok (.getfield 18, 3) by decide +kernel) fl_X2_18 rfl q1 ?_
    obtain ⟨q3, h⟩ := h
    refine go_getR (show decode cX2_sumOf 17 = .ok (.getfield 90, 3) by decide +kernel) fl_X2_90 rfl q3 ?_
    refine go_aload_n (show decode cX2_sumOf 20 = .ok (.aload_n 0, 1) by decide +kernel) (by rfl) ?_
    refine go_getR (show decode cX2_sumOf 21 = .ok (.getfield 28, 3) by decide +kernel) fl_X2_28 rfl q1 ?_
    refine go_iload_n (show decode cX2_sumOf 24 = .ok (.iload_n 1, 1) by decide +kernel) (by rfl) ?_
    refine go_sipush (show decode cX2_sumOf 25 = .ok (.sipush 2304, 3) by decide +kernel) (by decide) ?_
    obtain ⟨q4, h⟩ := h
    refine go_imul (show decode cX2_sumOf 28 = .ok (.imul, 1) by decide +kernel) q4 ?_
    refine go_aload_n (show decode cX2_sumOf 29 = .ok (.aload_n 2, 1) by decide +kernel) (by rfl) ?_
    obtain ⟨q5, h⟩ := h
    refine go_callV (d2 := d - 1) (M2 := MX2_sumBy) (n := 5) (ci := 2) (av := [vR (sR S (sR S a0 0) 0), vR (sR S (sR S a0 1) 0), vR (sR S a0 3), vI (a1 * 2304), vR a2]) (st := []) (show decode cX2_sumOf 30 = .ok (.invokevirtual 94, 3) by decide +kernel) ml_X2_94 mt_X2_sumBy min_X2_sumBy mse_X2_sumBy (by decide) q1 rfl (Nat.le_of_ble_eq_true rfl) (by omega) (ok_mono h (fun w6 S7 F8 G9 h => ?_))
    obtain ⟨z10, e9, h⟩ := h
    subst e9
    show Go d MX2_sumOf 33 [some (vR a0), some (vI a1), some (vR a2), none, none, none] [vJ z10] S7 F8 G9 Q
    exact go_lret (show decode cX2_sumOf 33 = .ok (.lreturn, 1) by decide +kernel) rfl h
def V_X2_sumBy_99 (d : Nat) (S : AS) (F : AF) (G : AG) (Q : AQ) (a0 : Nat) (a1 : Nat) (a2 : Nat) (a3 : Nat) (a4 : Int) (a5 : Nat) (a6 : Int) (a8 : Int) (a9 : Int) (a10 : Int) (a11 : Int) (a12 : Int) (a13 : Int) (a15 : Int) : Prop :=
  ((a9 < a15) →
    (sK S a5 = 3) ∧
    (1 ≤ d) ∧
    (sK S a2 = 1) ∧
    Ok (d - 1) MX1_overlap [vR a2, vI a11, vI (F a5 1), vI (F a5 3)] S F G (fun w3 S4 F5 G6 =>
    ∃ z8 : Int, w3 = some (vI z8) ∧
    (r64 (a13 * z8)) ∧
    (r64 (a6 + (a13 * z8))) ∧
    ∀ x11 : Int, x11 = a6 + (a13 * z8) →
    (r32 (a11 + 1)) ∧
    Go d MX2_sumBy 75 [some (vR a0), some (vR a1), some (vR a2), some (vR a3), some (vI a4), some (vR a5), some (vJ x11), none, some (vI a8), some (vI a9), some (vI a10), some (vI (a11 + 1)), none, none, none, none] [] S4 F5 G6 Q)) ∧
  ((¬ a9 < a15) →
    (r32 (a12 + a15)) ∧
    (sK S a3 = 21) ∧
    ((0 : Int) ≤ a12 + a15) ∧
    ((a12 + a15 : Int) < (sN S a3 : Int)) ∧
    (sK S a5 = 3) ∧
    (1 ≤ d) ∧
    (sK S a1 = 1) ∧
    Ok (d - 1) MX1_overlap [vR a1, vI a15, vI (F a5 0), vI (F a5 2)] S F G (fun w19 S20 F21 G22 =>
    ∃ z24 : Int, w19 = some (vI z24) ∧
    (r64 ((G a3 (a12 + a15)) * z24)) ∧
    (r64 (a13 + ((G a3 (a12 + a15)) * z24))) ∧
    ∀ x27 : Int, x27 = a13 + ((G a3 (a12 + a15)) * z24) →
    (r32 (a15 + 1)) ∧
    Go d MX2_sumBy 99 [some (vR a0), some (vR a1), some (vR a2), some (vR a3), some (vI a4), some (vR a5), some (vJ a6), none, some (vI a8), some (vI a9), some (vI a10), some (vI a11), some (vI a12), some (vJ x27), none, some (vI (a15 + 1))] [] S20 F21 G22 Q))
theorem R_X2_sumBy_99 {d : Nat} {S : AS} {F : AF} {G : AG} {Q : AQ} {a0 : Nat} {a1 : Nat} {a2 : Nat} {a3 : Nat} {a4 : Int} {a5 : Nat} {a6 : Int} {a8 : Int} {a9 : Int} {a10 : Int} {a11 : Int} {a12 : Int} {a13 : Int} {a15 : Int} (h : V_X2_sumBy_99 d S F G Q a0 a1 a2 a3 a4 a5 a6 a8 a9 a10 a11 a12 a13 a15) : Go d MX2_sumBy 99 [some (vR a0), some (vR a1), some (vR a2), some (vR a3), some (vI a4), some (vR a5), some (vJ a6), none, some (vI a8), some (vI a9), some (vI a10), some (vI a11), some (vI a12), some (vJ a13), none, some (vI a15)] [] S F G Q := by
  unfold V_X2_sumBy_99 at h
  refine go_iload (show decode cX2_sumBy 99 = .ok (.iload 15, 2) by decide +kernel) (by rfl) ?_
  refine go_iload (show decode cX2_sumBy 101 = .ok (.iload 9, 2) by decide +kernel) (by rfl) ?_
  obtain ⟨ht, hf⟩ := h
  refine go_icmpgt (tgt := 142) (show decode cX2_sumBy 103 = .ok (.if_icmp .gt 39, 3) by decide +kernel) (by decide) (fun hc => ?_) (fun hc => ?_)
  · have h := ht hc
    refine go_lload (show decode cX2_sumBy 142 = .ok (.lload 6, 2) by decide +kernel) (by rfl) ?_
    refine go_lload (show decode cX2_sumBy 144 = .ok (.lload 13, 2) by decide +kernel) (by rfl) ?_
    refine go_aload_n (show decode cX2_sumBy 146 = .ok (.aload_n 2, 1) by decide +kernel) (by rfl) ?_
    refine go_iload (show decode cX2_sumBy 147 = .ok (.iload 11, 2) by decide +kernel) (by rfl) ?_
    refine go_aload (show decode cX2_sumBy 149 = .ok (.aload 5, 2) by decide +kernel) (by rfl) ?_
    obtain ⟨q1, h⟩ := h
    refine go_getI (show decode cX2_sumBy 151 = .ok (.getfield 80, 3) by decide +kernel) fl_X2_80 (Or.inl rfl) q1 ?_
    refine go_aload (show decode cX2_sumBy 154 = .ok (.aload 5, 2) by decide +kernel) (by rfl) ?_
    refine go_getI (show decode cX2_sumBy 156 = .ok (.getfield 83, 3) by decide +kernel) fl_X2_83 (Or.inl rfl) q1 ?_
    obtain ⟨q2, h⟩ := h
    obtain ⟨q7, h⟩ := h
    refine go_callV (d2 := d - 1) (M2 := MX1_overlap) (n := 3) (ci := 1) (av := [vI a11, vI (F a5 1), vI (F a5 3)]) (st := [vJ a13, vJ a6]) (show decode cX2_sumBy 159 = .ok (.invokevirtual 105, 3) by decide +kernel) ml_X2_105 mt_X1_overlap min_X1_overlap mse_X1_overlap (by decide) q7 rfl (Nat.le_of_ble_eq_true rfl) (by omega) (ok_mono h (fun w3 S4 F5 G6 h => ?_))
    obtain ⟨z8, e9, h⟩ := h
    subst e9
    show Go d MX2_sumBy 162 [some (vR a0), some (vR a1), some (vR a2), some (vR a3), some (vI a4), some (vR a5), some (vJ a6), none, some (vI a8), some (vI a9), some (vI a10), some (vI a11), some (vI a12), some (vJ a13), none, some (vI a15)] [vI z8, vJ a13, vJ a6] S4 F5 G6 Q
    refine go_i2l (show decode cX2_sumBy 162 = .ok (.i2l, 1) by decide +kernel) ?_
    obtain ⟨q9, h⟩ := h
    refine go_lmul (show decode cX2_sumBy 163 = .ok (.lmul, 1) by decide +kernel) q9 ?_
    obtain ⟨q10, h⟩ := h
    refine go_ladd (show decode cX2_sumBy 164 = .ok (.ladd, 1) by decide +kernel) q10 ?_
    obtain ⟨x11, x11e⟩ : ∃ x11 : Int, x11 = a6 + (a13 * z8) := ⟨_, rfl⟩
    have h := h x11 x11e
    rw [← x11e]
    refine go_lstore (show decode cX2_sumBy 165 = .ok (.lstore 6, 2) by decide +kernel) (by decide) ?_
    show Go d MX2_sumBy 167 [some (vR a0), some (vR a1), some (vR a2), some (vR a3), some (vI a4), some (vR a5), some (vJ x11), none, some (vI a8), some (vI a9), some (vI a10), some (vI a11), some (vI a12), some (vJ a13), none, some (vI a15)] [] S4 F5 G6 Q
    obtain ⟨q12, h⟩ := h
    refine go_iinc (show decode cX2_sumBy 167 = .ok (.iinc 11 1, 3) by decide +kernel) (by rfl) q12 (by decide) ?_
    show Go d MX2_sumBy 170 [some (vR a0), some (vR a1), some (vR a2), some (vR a3), some (vI a4), some (vR a5), some (vJ x11), none, some (vI a8), some (vI a9), some (vI a10), some (vI (a11 + 1)), some (vI a12), some (vJ a13), none, some (vI a15)] [] S4 F5 G6 Q
    refine go_goto (tgt := 75) (show decode cX2_sumBy 170 = .ok (.goto (-95), 3) by decide +kernel) (by decide) ?_
    refine go_clr 12 ?_
    refine go_clr 13 ?_
    refine go_clr 15 ?_
    exact h
  · have h := hf hc
    refine go_lload (show decode cX2_sumBy 106 = .ok (.lload 13, 2) by decide +kernel) (by rfl) ?_
    refine go_aload_n (show decode cX2_sumBy 108 = .ok (.aload_n 3, 1) by decide +kernel) (by rfl) ?_
    refine go_iload (show decode cX2_sumBy 109 = .ok (.iload 12, 2) by decide +kernel) (by rfl) ?_
    refine go_iload (show decode cX2_sumBy 111 = .ok (.iload 15, 2) by decide +kernel) (by rfl) ?_
    obtain ⟨q13, h⟩ := h
    refine go_iadd (show decode cX2_sumBy 113 = .ok (.iadd, 1) by decide +kernel) q13 ?_
    obtain ⟨q14, h⟩ := h
    obtain ⟨q15, h⟩ := h
    obtain ⟨q16, h⟩ := h
    refine go_laload (show decode cX2_sumBy 114 = .ok (.laload, 1) by decide +kernel) q14 q15 q16 ?_
    refine go_aload_n (show decode cX2_sumBy 115 = .ok (.aload_n 1, 1) by decide +kernel) (by rfl) ?_
    refine go_iload (show decode cX2_sumBy 116 = .ok (.iload 15, 2) by decide +kernel) (by rfl) ?_
    refine go_aload (show decode cX2_sumBy 118 = .ok (.aload 5, 2) by decide +kernel) (by rfl) ?_
    obtain ⟨q17, h⟩ := h
    refine go_getI (show decode cX2_sumBy 120 = .ok (.getfield 74, 3) by decide +kernel) fl_X2_74 (Or.inl rfl) q17 ?_
    refine go_aload (show decode cX2_sumBy 123 = .ok (.aload 5, 2) by decide +kernel) (by rfl) ?_
    refine go_getI (show decode cX2_sumBy 125 = .ok (.getfield 77, 3) by decide +kernel) fl_X2_77 (Or.inl rfl) q17 ?_
    obtain ⟨q18, h⟩ := h
    obtain ⟨q23, h⟩ := h
    refine go_callV (d2 := d - 1) (M2 := MX1_overlap) (n := 3) (ci := 1) (av := [vI a15, vI (F a5 0), vI (F a5 2)]) (st := [vJ (G a3 (a12 + a15)), vJ a13]) (show decode cX2_sumBy 128 = .ok (.invokevirtual 105, 3) by decide +kernel) ml_X2_105 mt_X1_overlap min_X1_overlap mse_X1_overlap (by decide) q23 rfl (Nat.le_of_ble_eq_true rfl) (by omega) (ok_mono h (fun w19 S20 F21 G22 h => ?_))
    obtain ⟨z24, e9, h⟩ := h
    subst e9
    show Go d MX2_sumBy 131 [some (vR a0), some (vR a1), some (vR a2), some (vR a3), some (vI a4), some (vR a5), some (vJ a6), none, some (vI a8), some (vI a9), some (vI a10), some (vI a11), some (vI a12), some (vJ a13), none, some (vI a15)] [vI z24, vJ (G a3 (a12 + a15)), vJ a13] S20 F21 G22 Q
    refine go_i2l (show decode cX2_sumBy 131 = .ok (.i2l, 1) by decide +kernel) ?_
    obtain ⟨q25, h⟩ := h
    refine go_lmul (show decode cX2_sumBy 132 = .ok (.lmul, 1) by decide +kernel) q25 ?_
    obtain ⟨q26, h⟩ := h
    refine go_ladd (show decode cX2_sumBy 133 = .ok (.ladd, 1) by decide +kernel) q26 ?_
    obtain ⟨x27, x27e⟩ : ∃ x27 : Int, x27 = a13 + ((G a3 (a12 + a15)) * z24) := ⟨_, rfl⟩
    have h := h x27 x27e
    rw [← x27e]
    refine go_lstore (show decode cX2_sumBy 134 = .ok (.lstore 13, 2) by decide +kernel) (by decide) ?_
    show Go d MX2_sumBy 136 [some (vR a0), some (vR a1), some (vR a2), some (vR a3), some (vI a4), some (vR a5), some (vJ a6), none, some (vI a8), some (vI a9), some (vI a10), some (vI a11), some (vI a12), some (vJ x27), none, some (vI a15)] [] S20 F21 G22 Q
    obtain ⟨q28, h⟩ := h
    refine go_iinc (show decode cX2_sumBy 136 = .ok (.iinc 15 1, 3) by decide +kernel) (by rfl) q28 (by decide) ?_
    show Go d MX2_sumBy 139 [some (vR a0), some (vR a1), some (vR a2), some (vR a3), some (vI a4), some (vR a5), some (vJ a6), none, some (vI a8), some (vI a9), some (vI a10), some (vI a11), some (vI a12), some (vJ x27), none, some (vI (a15 + 1))] [] S20 F21 G22 Q
    refine go_goto (tgt := 99) (show decode cX2_sumBy 139 = .ok (.goto (-40), 3) by decide +kernel) (by decide) ?_
    exact h
def V_X2_sumBy_75 (d : Nat) (S : AS) (F : AF) (G : AG) (Q : AQ) (a0 : Nat) (a1 : Nat) (a2 : Nat) (a3 : Nat) (a4 : Int) (a5 : Nat) (a6 : Int) (a8 : Int) (a9 : Int) (a10 : Int) (a11 : Int) : Prop :=
  ((a10 < a11) →
    Q (some (vJ a6)) S F G) ∧
  ((¬ a10 < a11) →
    (r32 (48 * a11)) ∧
    (r32 (a4 + (48 * a11))) ∧
    ∀ x3 : Int, x3 = a4 + (48 * a11) →
    Go d MX2_sumBy 99 [some (vR a0), some (vR a1), some (vR a2), some (vR a3), some (vI a4), some (vR a5), some (vJ a6), none, some (vI a8), some (vI a9), some (vI a10), some (vI a11), some (vI x3), some (vJ 0), none, some (vI a8)] [] S F G Q)
theorem R_X2_sumBy_75 {d : Nat} {S : AS} {F : AF} {G : AG} {Q : AQ} {a0 : Nat} {a1 : Nat} {a2 : Nat} {a3 : Nat} {a4 : Int} {a5 : Nat} {a6 : Int} {a8 : Int} {a9 : Int} {a10 : Int} {a11 : Int} (h : V_X2_sumBy_75 d S F G Q a0 a1 a2 a3 a4 a5 a6 a8 a9 a10 a11) : Go d MX2_sumBy 75 [some (vR a0), some (vR a1), some (vR a2), some (vR a3), some (vI a4), some (vR a5), some (vJ a6), none, some (vI a8), some (vI a9), some (vI a10), some (vI a11), none, none, none, none] [] S F G Q := by
  unfold V_X2_sumBy_75 at h
  refine go_iload (show decode cX2_sumBy 75 = .ok (.iload 11, 2) by decide +kernel) (by rfl) ?_
  refine go_iload (show decode cX2_sumBy 77 = .ok (.iload 10, 2) by decide +kernel) (by rfl) ?_
  obtain ⟨ht, hf⟩ := h
  refine go_icmpgt (tgt := 173) (show decode cX2_sumBy 79 = .ok (.if_icmp .gt 94, 3) by decide +kernel) (by decide) (fun hc => ?_) (fun hc => ?_)
  · have h := ht hc
    refine go_lload (show decode cX2_sumBy 173 = .ok (.lload 6, 2) by decide +kernel) (by rfl) ?_
    exact go_lret (show decode cX2_sumBy 175 = .ok (.lreturn, 1) by decide +kernel) rfl h
  · have h := hf hc
    refine go_iload (show decode cX2_sumBy 82 = .ok (.iload 4, 2) by decide +kernel) (by rfl) ?_
    refine go_bipush (show decode cX2_sumBy 84 = .ok (.bipush 48, 2) by decide +kernel) (by decide) ?_
    refine go_iload (show decode cX2_sumBy 86 = .ok (.iload 11, 2) by decide +kernel) (by rfl) ?_
    obtain ⟨q1, h⟩ := h
    refine go_imul (show decode cX2_sumBy 88 = .ok (.imul, 1) by decide +kernel) q1 ?_
    obtain ⟨q2, h⟩ := h
    refine go_iadd (show decode cX2_sumBy 89 = .ok (.iadd, 1) by decide +kernel) q2 ?_
    obtain ⟨x3, x3e⟩ : ∃ x3 : Int, x3 = a4 + (48 * a11) := ⟨_, rfl⟩
    have h := h x3 x3e
    rw [← x3e]
    refine go_istore (show decode cX2_sumBy 90 = .ok (.istore 12, 2) by decide +kernel) (by decide) ?_
    show Go d MX2_sumBy 92 [some (vR a0), some (vR a1), some (vR a2), some (vR a3), some (vI a4), some (vR a5), some (vJ a6), none, some (vI a8), some (vI a9), some (vI a10), some (vI a11), some (vI x3), none, none, none] [] S F G Q
    refine go_lconst (n := 0) (show decode cX2_sumBy 92 = .ok (.lconst 0, 1) by decide +kernel) ?_
    show Go d MX2_sumBy 93 [some (vR a0), some (vR a1), some (vR a2), some (vR a3), some (vI a4), some (vR a5), some (vJ a6), none, some (vI a8), some (vI a9), some (vI a10), some (vI a11), some (vI x3), none, none, none] [vJ 0] S F G Q
    refine go_lstore (show decode cX2_sumBy 93 = .ok (.lstore 13, 2) by decide +kernel) (by decide) ?_
    show Go d MX2_sumBy 95 [some (vR a0), some (vR a1), some (vR a2), some (vR a3), some (vI a4), some (vR a5), some (vJ a6), none, some (vI a8), some (vI a9), some (vI a10), some (vI a11), some (vI x3), some (vJ 0), none, none] [] S F G Q
    refine go_iload (show decode cX2_sumBy 95 = .ok (.iload 8, 2) by decide +kernel) (by rfl) ?_
    refine go_istore (show decode cX2_sumBy 97 = .ok (.istore 15, 2) by decide +kernel) (by decide) ?_
    show Go d MX2_sumBy 99 [some (vR a0), some (vR a1), some (vR a2), some (vR a3), some (vI a4), some (vR a5), some (vJ a6), none, some (vI a8), some (vI a9), some (vI a10), some (vI a11), some (vI x3), some (vJ 0), none, some (vI a8)] [] S F G Q
    exact h
def V_X2_sumBy_0 (d : Nat) (S : AS) (F : AF) (G : AG) (Q : AQ) (a0 : Nat) (a1 : Nat) (a2 : Nat) (a3 : Nat) (a4 : Int) (a5 : Nat) : Prop :=
  (sK S a5 = 3) ∧
  ((F a5 2 < F a5 0) →
    Q (some (vJ 0)) S F G) ∧
  ((¬ F a5 2 < F a5 0) →
    ((F a5 1 ≤ F a5 3) →
      (1 ≤ d) ∧
      (sK S a1 = 1) ∧
      Ok (d - 1) MX1_bandOf [vR a1, vI (F a5 0)] S F G (fun w3 S4 F5 G6 =>
      ∃ z8 : Int, w3 = some (vI z8) ∧
      (sK S4 a5 = 3) ∧
      (sK S4 a1 = 1) ∧
      Ok (d - 1) MX1_bandOf [vR a1, vI (F5 a5 2)] S4 F5 G6 (fun w10 S11 F12 G13 =>
      ∃ z15 : Int, w10 = some (vI z15) ∧
      (sK S11 a5 = 3) ∧
      (sK S11 a2 = 1) ∧
      Ok (d - 1) MX1_bandOf [vR a2, vI (F12 a5 3)] S11 F12 G13 (fun w17 S18 F19 G20 =>
      ∃ z22 : Int, w17 = some (vI z22) ∧
      (sK S18 a5 = 3) ∧
      (sK S18 a2 = 1) ∧
      Ok (d - 1) MX1_bandOf [vR a2, vI (F19 a5 1)] S18 F19 G20 (fun w24 S25 F26 G27 =>
      ∃ z29 : Int, w24 = some (vI z29) ∧
      Go d MX2_sumBy 75 [some (vR a0), some (vR a1), some (vR a2), some (vR a3), some (vI a4), some (vR a5), some (vJ 0), none, some (vI z8), some (vI z15), some (vI z22), some (vI z29), none, none, none, none] [] S25 F26 G27 Q))))) ∧
    ((¬ F a5 1 ≤ F a5 3) →
      Q (some (vJ 0)) S F G))
theorem R_X2_sumBy_0 {d : Nat} {S : AS} {F : AF} {G : AG} {Q : AQ} {a0 : Nat} {a1 : Nat} {a2 : Nat} {a3 : Nat} {a4 : Int} {a5 : Nat} (h : V_X2_sumBy_0 d S F G Q a0 a1 a2 a3 a4 a5) : Go d MX2_sumBy 0 [some (vR a0), some (vR a1), some (vR a2), some (vR a3), some (vI a4), some (vR a5), none, none, none, none, none, none, none, none, none, none] [] S F G Q := by
  unfold V_X2_sumBy_0 at h
  refine go_aload (show decode cX2_sumBy 0 = .ok (.aload 5, 2) by decide +kernel) (by rfl) ?_
  obtain ⟨q1, h⟩ := h
  refine go_getI (show decode cX2_sumBy 2 = .ok (.getfield 74, 3) by decide +kernel) fl_X2_74 (Or.inl rfl) q1 ?_
  refine go_aload (show decode cX2_sumBy 5 = .ok (.aload 5, 2) by decide +kernel) (by rfl) ?_
  refine go_getI (show decode cX2_sumBy 7 = .ok (.getfield 77, 3) by decide +kernel) fl_X2_77 (Or.inl rfl) q1 ?_
  obtain ⟨ht, hf⟩ := h
  refine go_icmpgt (tgt := 26) (show decode cX2_sumBy 10 = .ok (.if_icmp .gt 16, 3) by decide +kernel) (by decide) (fun hc => ?_) (fun hc => ?_)
  · have h := ht hc
    refine go_lconst (n := 0) (show decode cX2_sumBy 26 = .ok (.lconst 0, 1) by decide +kernel) ?_
    show Go d MX2_sumBy 27 [some (vR a0), some (vR a1), some (vR a2), some (vR a3), some (vI a4), some (vR a5), none, none, none, none, none, none, none, none, none, none] [vJ 0] S F G Q
    exact go_lret (show decode cX2_sumBy 27 = .ok (.lreturn, 1) by decide +kernel) rfl h
  · have h := hf hc
    refine go_aload (show decode cX2_sumBy 13 = .ok (.aload 5, 2) by decide +kernel) (by rfl) ?_
    refine go_getI (show decode cX2_sumBy 15 = .ok (.getfield 80, 3) by decide +kernel) fl_X2_80 (Or.inl rfl) q1 ?_
    refine go_aload (show decode cX2_sumBy 18 = .ok (.aload 5, 2) by decide +kernel) (by rfl) ?_
    refine go_getI (show decode cX2_sumBy 20 = .ok (.getfield 83, 3) by decide +kernel) fl_X2_83 (Or.inl rfl) q1 ?_
    obtain ⟨ht, hf⟩ := h
    refine go_icmple (tgt := 28) (show decode cX2_sumBy 23 = .ok (.if_icmp .le 5, 3) by decide +kernel) (by decide) (fun hc => ?_) (fun hc => ?_)
    · have h := ht hc
      refine go_lconst (n := 0) (show decode cX2_sumBy 28 = .ok (.lconst 0, 1) by decide +kernel) ?_
      show Go d MX2_sumBy 29 [some (vR a0), some (vR a1), some (vR a2), some (vR a3), some (vI a4), some (vR a5), none, none, none, none, none, none, none, none, none, none] [vJ 0] S F G Q
      refine go_lstore (show decode cX2_sumBy 29 = .ok (.lstore 6, 2) by decide +kernel) (by decide) ?_
      show Go d MX2_sumBy 31 [some (vR a0), some (vR a1), some (vR a2), some (vR a3), some (vI a4), some (vR a5), some (vJ 0), none, none, none, none, none, none, none, none, none] [] S F G Q
      refine go_aload_n (show decode cX2_sumBy 31 = .ok (.aload_n 1, 1) by decide +kernel) (by rfl) ?_
      refine go_aload (show decode cX2_sumBy 32 = .ok (.aload 5, 2) by decide +kernel) (by rfl) ?_
      refine go_getI (show decode cX2_sumBy 34 = .ok (.getfield 74, 3) by decide +kernel) fl_X2_74 (Or.inl rfl) q1 ?_
      obtain ⟨q2, h⟩ := h
      obtain ⟨q7, h⟩ := h
      refine go_callV (d2 := d - 1) (M2 := MX1_bandOf) (n := 1) (ci := 1) (av := [vI (F a5 0)]) (st := []) (show decode cX2_sumBy 37 = .ok (.invokevirtual 99, 3) by decide +kernel) ml_X2_99 mt_X1_bandOf min_X1_bandOf mse_X1_bandOf (by decide) q7 rfl (Nat.le_of_ble_eq_true rfl) (by omega) (ok_mono h (fun w3 S4 F5 G6 h => ?_))
      obtain ⟨z8, e9, h⟩ := h
      subst e9
      show Go d MX2_sumBy 40 [some (vR a0), some (vR a1), some (vR a2), some (vR a3), some (vI a4), some (vR a5), some (vJ 0), none, none, none, none, none, none, none, none, none] [vI z8] S4 F5 G6 Q
      refine go_istore (show decode cX2_sumBy 40 = .ok (.istore 8, 2) by decide +kernel) (by decide) ?_
      show Go d MX2_sumBy 42 [some (vR a0), some (vR a1), some (vR a2), some (vR a3), some (vI a4), some (vR a5), some (vJ 0), none, some (vI z8), none, none, none, none, none, none, none] [] S4 F5 G6 Q
      refine go_aload_n (show decode cX2_sumBy 42 = .ok (.aload_n 1, 1) by decide +kernel) (by rfl) ?_
      refine go_aload (show decode cX2_sumBy 43 = .ok (.aload 5, 2) by decide +kernel) (by rfl) ?_
      obtain ⟨q9, h⟩ := h
      refine go_getI (show decode cX2_sumBy 45 = .ok (.getfield 77, 3) by decide +kernel) fl_X2_77 (Or.inl rfl) q9 ?_
      obtain ⟨q14, h⟩ := h
      refine go_callV (d2 := d - 1) (M2 := MX1_bandOf) (n := 1) (ci := 1) (av := [vI (F5 a5 2)]) (st := []) (show decode cX2_sumBy 48 = .ok (.invokevirtual 99, 3) by decide +kernel) ml_X2_99 mt_X1_bandOf min_X1_bandOf mse_X1_bandOf (by decide) q14 rfl (Nat.le_of_ble_eq_true rfl) (by omega) (ok_mono h (fun w10 S11 F12 G13 h => ?_))
      obtain ⟨z15, e9, h⟩ := h
      subst e9
      show Go d MX2_sumBy 51 [some (vR a0), some (vR a1), some (vR a2), some (vR a3), some (vI a4), some (vR a5), some (vJ 0), none, some (vI z8), none, none, none, none, none, none, none] [vI z15] S11 F12 G13 Q
      refine go_istore (show decode cX2_sumBy 51 = .ok (.istore 9, 2) by decide +kernel) (by decide) ?_
      show Go d MX2_sumBy 53 [some (vR a0), some (vR a1), some (vR a2), some (vR a3), some (vI a4), some (vR a5), some (vJ 0), none, some (vI z8), some (vI z15), none, none, none, none, none, none] [] S11 F12 G13 Q
      refine go_aload_n (show decode cX2_sumBy 53 = .ok (.aload_n 2, 1) by decide +kernel) (by rfl) ?_
      refine go_aload (show decode cX2_sumBy 54 = .ok (.aload 5, 2) by decide +kernel) (by rfl) ?_
      obtain ⟨q16, h⟩ := h
      refine go_getI (show decode cX2_sumBy 56 = .ok (.getfield 83, 3) by decide +kernel) fl_X2_83 (Or.inl rfl) q16 ?_
      obtain ⟨q21, h⟩ := h
      refine go_callV (d2 := d - 1) (M2 := MX1_bandOf) (n := 1) (ci := 1) (av := [vI (F12 a5 3)]) (st := []) (show decode cX2_sumBy 59 = .ok (.invokevirtual 99, 3) by decide +kernel) ml_X2_99 mt_X1_bandOf min_X1_bandOf mse_X1_bandOf (by decide) q21 rfl (Nat.le_of_ble_eq_true rfl) (by omega) (ok_mono h (fun w17 S18 F19 G20 h => ?_))
      obtain ⟨z22, e9, h⟩ := h
      subst e9
      show Go d MX2_sumBy 62 [some (vR a0), some (vR a1), some (vR a2), some (vR a3), some (vI a4), some (vR a5), some (vJ 0), none, some (vI z8), some (vI z15), none, none, none, none, none, none] [vI z22] S18 F19 G20 Q
      refine go_istore (show decode cX2_sumBy 62 = .ok (.istore 10, 2) by decide +kernel) (by decide) ?_
      show Go d MX2_sumBy 64 [some (vR a0), some (vR a1), some (vR a2), some (vR a3), some (vI a4), some (vR a5), some (vJ 0), none, some (vI z8), some (vI z15), some (vI z22), none, none, none, none, none] [] S18 F19 G20 Q
      refine go_aload_n (show decode cX2_sumBy 64 = .ok (.aload_n 2, 1) by decide +kernel) (by rfl) ?_
      refine go_aload (show decode cX2_sumBy 65 = .ok (.aload 5, 2) by decide +kernel) (by rfl) ?_
      obtain ⟨q23, h⟩ := h
      refine go_getI (show decode cX2_sumBy 67 = .ok (.getfield 80, 3) by decide +kernel) fl_X2_80 (Or.inl rfl) q23 ?_
      obtain ⟨q28, h⟩ := h
      refine go_callV (d2 := d - 1) (M2 := MX1_bandOf) (n := 1) (ci := 1) (av := [vI (F19 a5 1)]) (st := []) (show decode cX2_sumBy 70 = .ok (.invokevirtual 99, 3) by decide +kernel) ml_X2_99 mt_X1_bandOf min_X1_bandOf mse_X1_bandOf (by decide) q28 rfl (Nat.le_of_ble_eq_true rfl) (by omega) (ok_mono h (fun w24 S25 F26 G27 h => ?_))
      obtain ⟨z29, e9, h⟩ := h
      subst e9
      show Go d MX2_sumBy 73 [some (vR a0), some (vR a1), some (vR a2), some (vR a3), some (vI a4), some (vR a5), some (vJ 0), none, some (vI z8), some (vI z15), some (vI z22), none, none, none, none, none] [vI z29] S25 F26 G27 Q
      refine go_istore (show decode cX2_sumBy 73 = .ok (.istore 11, 2) by decide +kernel) (by decide) ?_
      show Go d MX2_sumBy 75 [some (vR a0), some (vR a1), some (vR a2), some (vR a3), some (vI a4), some (vR a5), some (vJ 0), none, some (vI z8), some (vI z15), some (vI z22), some (vI z29), none, none, none, none] [] S25 F26 G27 Q
      exact h
    · have h := hf hc
      refine go_lconst (n := 0) (show decode cX2_sumBy 26 = .ok (.lconst 0, 1) by decide +kernel) ?_
      show Go d MX2_sumBy 27 [some (vR a0), some (vR a1), some (vR a2), some (vR a3), some (vI a4), some (vR a5), none, none, none, none, none, none, none, none, none, none] [vJ 0] S F G Q
      exact go_lret (show decode cX2_sumBy 27 = .ok (.lreturn, 1) by decide +kernel) rfl h
def V_X2_plan_0 (d : Nat) (S : AS) (F : AF) (G : AG) (Q : AQ) (a0 : Nat) (a1 : Nat) : Prop :=
  (sK S a0 = 2) ∧
  (sK S (sR S a0 0) = 0) ∧
  (1 ≤ d) ∧
  (sK S (sR S (sR S a0 0) 1) = 1) ∧
  Ok (d - 1) MX1_copy [vR (sR S (sR S a0 0) 1), vR (sR S (sR S a0 0) 0)] S F G (fun w4 S5 F6 G7 =>
  w4 = none ∧
  (sK S5 a0 = 2) ∧
  (sK S5 (sR S5 a0 1) = 0) ∧
  (sK S5 (sR S5 (sR S5 a0 1) 1) = 1) ∧
  Ok (d - 1) MX1_copy [vR (sR S5 (sR S5 a0 1) 1), vR (sR S5 (sR S5 a0 1) 0)] S5 F6 G7 (fun w11 S12 F13 G14 =>
  w11 = none ∧
  (sK S12 a0 = 2) ∧
  Ok (d - 1) MX2_planMore [vR a0, vR a1] S12 F13 G14 (fun w16 S17 F18 G19 =>
  w16 = none ∧
  Q none S17 F18 G19)))
theorem R_X2_plan_0 {d : Nat} {S : AS} {F : AF} {G : AG} {Q : AQ} {a0 : Nat} {a1 : Nat} (h : V_X2_plan_0 d S F G Q a0 a1) : Go d MX2_plan 0 [some (vR a0), some (vR a1)] [] S F G Q := by
  unfold V_X2_plan_0 at h
  refine go_aload_n (show decode cX2_plan 0 = .ok (.aload_n 0, 1) by decide +kernel) (by rfl) ?_
  obtain ⟨q1, h⟩ := h
  refine go_getR (show decode cX2_plan 1 = .ok (.getfield 12, 3) by decide +kernel) fl_X2_12 rfl q1 ?_
  obtain ⟨q2, h⟩ := h
  refine go_getR (show decode cX2_plan 4 = .ok (.getfield 155, 3) by decide +kernel) fl_X2_155 rfl q2 ?_
  refine go_aload_n (show decode cX2_plan 7 = .ok (.aload_n 0, 1) by decide +kernel) (by rfl) ?_
  refine go_getR (show decode cX2_plan 8 = .ok (.getfield 12, 3) by decide +kernel) fl_X2_12 rfl q1 ?_
  refine go_getR (show decode cX2_plan 11 = .ok (.getfield 90, 3) by decide +kernel) fl_X2_90 rfl q2 ?_
  obtain ⟨q3, h⟩ := h
  obtain ⟨q8, h⟩ := h
  refine go_callV (d2 := d - 1) (M2 := MX1_copy) (n := 1) (ci := 1) (av := [vR (sR S (sR S a0 0) 0)]) (st := []) (show decode cX2_plan 14 = .ok (.invokevirtual 158, 3) by decide +kernel) ml_X2_158 mt_X1_copy min_X1_copy mse_X1_copy (by decide) q8 rfl (Nat.le_of_ble_eq_true rfl) (by omega) (ok_mono h (fun w4 S5 F6 G7 h => ?_))
  obtain ⟨e9, h⟩ := h
  subst e9
  show Go d MX2_plan 17 [some (vR a0), some (vR a1)] [] S5 F6 G7 Q
  refine go_aload_n (show decode cX2_plan 17 = .ok (.aload_n 0, 1) by decide +kernel) (by rfl) ?_
  obtain ⟨q9, h⟩ := h
  refine go_getR (show decode cX2_plan 18 = .ok (.getfield 18, 3) by decide +kernel) fl_X2_18 rfl q9 ?_
  obtain ⟨q10, h⟩ := h
  refine go_getR (show decode cX2_plan 21 = .ok (.getfield 155, 3) by decide +kernel) fl_X2_155 rfl q10 ?_
  refine go_aload_n (show decode cX2_plan 24 = .ok (.aload_n 0, 1) by decide +kernel) (by rfl) ?_
  refine go_getR (show decode cX2_plan 25 = .ok (.getfield 18, 3) by decide +kernel) fl_X2_18 rfl q9 ?_
  refine go_getR (show decode cX2_plan 28 = .ok (.getfield 90, 3) by decide +kernel) fl_X2_90 rfl q10 ?_
  obtain ⟨q15, h⟩ := h
  refine go_callV (d2 := d - 1) (M2 := MX1_copy) (n := 1) (ci := 1) (av := [vR (sR S5 (sR S5 a0 1) 0)]) (st := []) (show decode cX2_plan 31 = .ok (.invokevirtual 158, 3) by decide +kernel) ml_X2_158 mt_X1_copy min_X1_copy mse_X1_copy (by decide) q15 rfl (Nat.le_of_ble_eq_true rfl) (by omega) (ok_mono h (fun w11 S12 F13 G14 h => ?_))
  obtain ⟨e9, h⟩ := h
  subst e9
  show Go d MX2_plan 34 [some (vR a0), some (vR a1)] [] S12 F13 G14 Q
  refine go_aload_n (show decode cX2_plan 34 = .ok (.aload_n 0, 1) by decide +kernel) (by rfl) ?_
  refine go_aload_n (show decode cX2_plan 35 = .ok (.aload_n 1, 1) by decide +kernel) (by rfl) ?_
  obtain ⟨q20, h⟩ := h
  refine go_callV (d2 := d - 1) (M2 := MX2_planMore) (n := 1) (ci := 2) (av := [vR a1]) (st := []) (show decode cX2_plan 36 = .ok (.invokevirtual 162, 3) by decide +kernel) ml_X2_162 mt_X2_planMore min_X2_planMore mse_X2_planMore (by decide) q20 rfl (Nat.le_of_ble_eq_true rfl) (by omega) (ok_mono h (fun w16 S17 F18 G19 h => ?_))
  obtain ⟨e9, h⟩ := h
  subst e9
  show Go d MX2_plan 39 [some (vR a0), some (vR a1)] [] S17 F18 G19 Q
  exact go_vret (show decode cX2_plan 39 = .ok (.return_, 1) by decide +kernel) rfl h
def V_X2_planMore_0 (d : Nat) (S : AS) (F : AF) (G : AG) (Q : AQ) (a0 : Nat) (a1 : Nat) : Prop :=
  (sK S a0 = 2) ∧
  (sK S a1 = 3) ∧
  (1 ≤ d) ∧
  (sK S (sR S a0 0) = 0) ∧
  Ok (d - 1) MX0_planSpan [vR (sR S a0 0), vI (F a1 0), vI (F a1 2)] S F G (fun w4 S5 F6 G7 =>
  w4 = none ∧
  (sK S5 a0 = 2) ∧
  (sK S5 a1 = 3) ∧
  (sK S5 (sR S5 a0 1) = 0) ∧
  Ok (d - 1) MX0_planSpan [vR (sR S5 a0 1), vI (F6 a1 1), vI (F6 a1 3)] S5 F6 G7 (fun w11 S12 F13 G14 =>
  w11 = none ∧
  Q none S12 F13 G14))
theorem R_X2_planMore_0 {d : Nat} {S : AS} {F : AF} {G : AG} {Q : AQ} {a0 : Nat} {a1 : Nat} (h : V_X2_planMore_0 d S F G Q a0 a1) : Go d MX2_planMore 0 [some (vR a0), some (vR a1)] [] S F G Q := by
  unfold V_X2_planMore_0 at h
  refine go_aload_n (show decode cX2_planMore 0 = .ok (.aload_n 0, 1) by decide +kernel) (by rfl) ?_
  obtain ⟨q1, h⟩ := h
  refine go_getR (show decode cX2_planMore 1 = .ok (.getfield 12, 3) by decide +kernel) fl_X2_12 rfl q1 ?_
  refine go_aload_n (show decode cX2_planMore 4 = .ok (.aload_n 1, 1) by decide +kernel) (by rfl) ?_
  obtain ⟨q2, h⟩ := h
  refine go_getI (show decode cX2_planMore 5 = .ok (.getfield 74, 3) by decide +kernel) fl_X2_74 (Or.inl rfl) q2 ?_
  refine go_aload_n (show decode cX2_planMore 8 = .ok (.aload_n 1, 1) by decide +kernel) (by rfl) ?_
  refine go_getI (show decode cX2_planMore 9 = .ok (.getfield 77, 3) by decide +kernel) fl_X2_77 (Or.inl rfl) q2 ?_
  obtain ⟨q3, h⟩ := h
  obtain ⟨q8, h⟩ := h
  refine go_callV (d2 := d - 1) (M2 := MX0_planSpan) (n := 2) (ci := 0) (av := [vI (F a1 0), vI (F a1 2)]) (st := []) (show decode cX2_planMore 12 = .ok (.invokevirtual 166, 3) by decide +kernel) ml_X2_166 mt_X0_planSpan min_X0_planSpan mse_X0_planSpan (by decide) q8 rfl (Nat.le_of_ble_eq_true rfl) (by omega) (ok_mono h (fun w4 S5 F6 G7 h => ?_))
  obtain ⟨e9, h⟩ := h
  subst e9
  show Go d MX2_planMore 15 [some (vR a0), some (vR a1)] [] S5 F6 G7 Q
  refine go_aload_n (show decode cX2_planMore 15 = .ok (.aload_n 0, 1) by decide +kernel) (by rfl) ?_
  obtain ⟨q9, h⟩ := h
  refine go_getR (show decode cX2_planMore 16 = .ok (.getfield 18, 3) by decide +kernel) fl_X2_18 rfl q9 ?_
  refine go_aload_n (show decode cX2_planMore 19 = .ok (.aload_n 1, 1) by decide +kernel) (by rfl) ?_
  obtain ⟨q10, h⟩ := h
  refine go_getI (show decode cX2_planMore 20 = .ok (.getfield 80, 3) by decide +kernel) fl_X2_80 (Or.inl rfl) q10 ?_
  refine go_aload_n (show decode cX2_planMore 23 = .ok (.aload_n 1, 1) by decide +kernel) (by rfl) ?_
  refine go_getI (show decode cX2_planMore 24 = .ok (.getfield 83, 3) by decide +kernel) fl_X2_83 (Or.inl rfl) q10 ?_
  obtain ⟨q15, h⟩ := h
  refine go_callV (d2 := d - 1) (M2 := MX0_planSpan) (n := 2) (ci := 0) (av := [vI (F6 a1 1), vI (F6 a1 3)]) (st := []) (show decode cX2_planMore 27 = .ok (.invokevirtual 166, 3) by decide +kernel) ml_X2_166 mt_X0_planSpan min_X0_planSpan mse_X0_planSpan (by decide) q15 rfl (Nat.le_of_ble_eq_true rfl) (by omega) (ok_mono h (fun w11 S12 F13 G14 h => ?_))
  obtain ⟨e9, h⟩ := h
  subst e9
  show Go d MX2_planMore 30 [some (vR a0), some (vR a1)] [] S12 F13 G14 Q
  exact go_vret (show decode cX2_planMore 30 = .ok (.return_, 1) by decide +kernel) rfl h
def V_X2_plansTooMany_0 (d : Nat) (S : AS) (F : AF) (G : AG) (Q : AQ) (a0 : Nat) : Prop :=
  (sK S a0 = 2) ∧
  (1 ≤ d) ∧
  (sK S (sR S a0 0) = 0) ∧
  Ok (d - 1) MX0_plansTooMany [vR (sR S a0 0)] S F G (fun w3 S4 F5 G6 =>
  ∃ z8 : Int, w3 = some (vI z8) ∧
  ((¬ z8 = 0) →
    Q (some (vI 1)) S4 F5 G6) ∧
  ((z8 = 0) →
    (sK S4 a0 = 2) ∧
    (sK S4 (sR S4 a0 1) = 0) ∧
    Ok (d - 1) MX0_plansTooMany [vR (sR S4 a0 1)] S4 F5 G6 (fun w10 S11 F12 G13 =>
    ∃ z15 : Int, w10 = some (vI z15) ∧
    ((z15 = 0) →
      Q (some (vI 0)) S11 F12 G13) ∧
    ((¬ z15 = 0) →
      Q (some (vI 1)) S11 F12 G13))))
theorem R_X2_plansTooMany_0 {d : Nat} {S : AS} {F : AF} {G : AG} {Q : AQ} {a0 : Nat} (h : V_X2_plansTooMany_0 d S F G Q a0) : Go d MX2_plansTooMany 0 [some (vR a0)] [] S F G Q := by
  unfold V_X2_plansTooMany_0 at h
  refine go_aload_n (show decode cX2_plansTooMany 0 = .ok (.aload_n 0, 1) by decide +kernel) (by rfl) ?_
  obtain ⟨q1, h⟩ := h
  refine go_getR (show decode cX2_plansTooMany 1 = .ok (.getfield 12, 3) by decide +kernel) fl_X2_12 rfl q1 ?_
  obtain ⟨q2, h⟩ := h
  obtain ⟨q7, h⟩ := h
  refine go_callV (d2 := d - 1) (M2 := MX0_plansTooMany) (n := 0) (ci := 0) (av := []) (st := []) (show decode cX2_plansTooMany 4 = .ok (.invokevirtual 170, 3) by decide +kernel) ml_X2_170 mt_X0_plansTooMany min_X0_plansTooMany mse_X0_plansTooMany (by decide) q7 rfl (Nat.le_of_ble_eq_true rfl) (by omega) (ok_mono h (fun w3 S4 F5 G6 h => ?_))
  obtain ⟨z8, e9, h⟩ := h
  subst e9
  show Go d MX2_plansTooMany 7 [some (vR a0)] [vI z8] S4 F5 G6 Q
  obtain ⟨ht, hf⟩ := h
  refine go_ifne (tgt := 20) (show decode cX2_plansTooMany 7 = .ok (.ifCond .ne 13, 3) by decide +kernel) (by decide) (fun hc => ?_) (fun hc => ?_)
  · have h := ht hc
    refine go_iconst (show decode cX2_plansTooMany 20 = .ok (.iconst 1, 1) by decide +kernel) (by decide) ?_
    refine go_goto (tgt := 25) (show decode cX2_plansTooMany 21 = .ok (.goto 4, 3) by decide +kernel) (by decide) ?_
    exact go_zret (show decode cX2_plansTooMany 25 = .ok (.ireturn, 1) by decide +kernel) rfl (by decide) h
  · have h := hf hc
    refine go_aload_n (show decode cX2_plansTooMany 10 = .ok (.aload_n 0, 1) by decide +kernel) (by rfl) ?_
    obtain ⟨q9, h⟩ := h
    refine go_getR (show decode cX2_plansTooMany 11 = .ok (.getfield 18, 3) by decide +kernel) fl_X2_18 rfl q9 ?_
    obtain ⟨q14, h⟩ := h
    refine go_callV (d2 := d - 1) (M2 := MX0_plansTooMany) (n := 0) (ci := 0) (av := []) (st := []) (show decode cX2_plansTooMany 14 = .ok (.invokevirtual 170, 3) by decide +kernel) ml_X2_170 mt_X0_plansTooMany min_X0_plansTooMany mse_X0_plansTooMany (by decide) q14 rfl (Nat.le_of_ble_eq_true rfl) (by omega) (ok_mono h (fun w10 S11 F12 G13 h => ?_))
    obtain ⟨z15, e9, h⟩ := h
    subst e9
    show Go d MX2_plansTooMany 17 [some (vR a0)] [vI z15] S11 F12 G13 Q
    obtain ⟨ht, hf⟩ := h
    refine go_ifeq (tgt := 24) (show decode cX2_plansTooMany 17 = .ok (.ifCond .eq 7, 3) by decide +kernel) (by decide) (fun hc => ?_) (fun hc => ?_)
    · have h := ht hc
      refine go_iconst (show decode cX2_plansTooMany 24 = .ok (.iconst 0, 1) by decide +kernel) (by decide) ?_
      exact go_zret (show decode cX2_plansTooMany 25 = .ok (.ireturn, 1) by decide +kernel) rfl (by decide) h
    · have h := hf hc
      refine go_iconst (show decode cX2_plansTooMany 20 = .ok (.iconst 1, 1) by decide +kernel) (by decide) ?_
      refine go_goto (tgt := 25) (show decode cX2_plansTooMany 21 = .ok (.goto 4, 3) by decide +kernel) (by decide) ?_
      exact go_zret (show decode cX2_plansTooMany 25 = .ok (.ireturn, 1) by decide +kernel) rfl (by decide) h
def V_X2_startTrial_52 (d : Nat) (S : AS) (F : AF) (G : AG) (Q : AQ) (a0 : Nat) (a1 : Int) (a2 : Int) (a3 : Int) (a4 : Int) : Prop :=
  (sK S a0 = 2) ∧
  (sK S (sR S a0 0) = 0) ∧
  (sK S (sR S (sR S a0 0) 1) = 1) ∧
  ((F (sR S (sR S a0 0) 1) 1 ≤ a4) →
    (r32 (a2 + 1)) ∧
    Go d MX2_startTrial 16 [some (vR a0), some (vI a1), some (vI (a2 + 1)), none, none] [] S F G Q) ∧
  ((¬ F (sR S (sR S a0 0) 1) 1 ≤ a4) →
    (r32 (48 * a2)) ∧
    (r32 ((48 * a2) + a4)) ∧
    (sK S (sR S (sR S a0 0) 2) = 20) ∧
    ((0 : Int) ≤ a4) ∧
    ((a4 : Int) < (sN S (sR S (sR S a0 0) 2) : Int)) ∧
    (r32 (a3 + (G (sR S (sR S a0 0) 2) a4))) ∧
    (sK S (sR S a0 3) = 21) ∧
    ((0 : Int) ≤ a3 + (G (sR S (sR S a0 0) 2) a4)) ∧
    ((a3 + (G (sR S (sR S a0 0) 2) a4) : Int) < (sN S (sR S a0 3) : Int)) ∧
    (sK S (sR S a0 4) = 21) ∧
    ((0 : Int) ≤ (48 * a2) + a4) ∧
    (((48 * a2) + a4 : Int) < (sN S (sR S a0 4) : Int)) ∧
    ∀ G17 : AG, G17 = gu G (sR S a0 4) ((48 * a2) + a4) (G (sR S a0 3) (a3 + (G (sR S (sR S a0 0) 2) a4))) →
    (r32 (a4 + 1)) ∧
    Go d MX2_startTrial 52 [some (vR a0), some (vI a1), some (vI a2), some (vI a3), some (vI (a4 + 1))] [] S F G17 Q)
theorem R_X2_startTrial_52 {d : Nat} {S : AS} {F : AF} {G : AG} {Q : AQ} {a0 : Nat} {a1 : Int} {a2 : Int} {a3 : Int} {a4 : Int} (h : V_X2_startTrial_52 d S F G Q a0 a1 a2 a3 a4) : Go d MX2_startTrial 52 [some (vR a0), some (vI a1), some (vI a2), some (vI a3), some (vI a4)] [] S F G Q := by
  unfold V_X2_startTrial_52 at h
  refine go_iload (show decode cX2_startTrial 52 = .ok (.iload 4, 2) by decide +kernel) (by rfl) ?_
  refine go_aload_n (show decode cX2_startTrial 54 = .ok (.aload_n 0, 1) by decide +kernel) (by rfl) ?_
  obtain ⟨q1, h⟩ := h
  refine go_getR (show decode cX2_startTrial 55 = .ok (.getfield 12, 3) by decide +kernel) fl_X2_12 rfl q1 ?_
  obtain ⟨q2, h⟩ := h
  refine go_getR (show decode cX2_startTrial 58 = .ok (.getfield 155, 3) by decide +kernel) fl_X2_155 rfl q2 ?_
  obtain ⟨q3, h⟩ := h
  refine go_getI (show decode cX2_startTrial 61 = .ok (.getfield 197, 3) by decide +kernel) fl_X2_197 (Or.inl rfl) q3 ?_
  obtain ⟨ht, hf⟩ := h
  refine go_icmpge (tgt := 102) (show decode cX2_startTrial 64 = .ok (.if_icmp .ge 38, 3) by decide +kernel) (by decide) (fun hc => ?_) (fun hc => ?_)
  · have h := ht hc
    obtain ⟨q4, h⟩ := h
    refine go_iinc (show decode cX2_startTrial 102 = .ok (.iinc 2 1, 3) by decide +kernel) (by rfl) q4 (by decide) ?_
    show Go d MX2_startTrial 105 [some (vR a0), some (vI a1), some (vI (a2 + 1)), some (vI a3), some (vI a4)] [] S F G Q
    refine go_goto (tgt := 16) (show decode cX2_startTrial 105 = .ok (.goto (-89), 3) by decide +kernel) (by decide) ?_
    refine go_clr 3 ?_
    refine go_clr 4 ?_
    exact h
  · have h := hf hc
    refine go_aload_n (show decode cX2_startTrial 67 = .ok (.aload_n 0, 1) by decide +kernel) (by rfl) ?_
    refine go_getR (show decode cX2_startTrial 68 = .ok (.getfield 32, 3) by decide +kernel) fl_X2_32 rfl q1 ?_
    refine go_bipush (show decode cX2_startTrial 71 = .ok (.bipush 48, 2) by decide +kernel) (by decide) ?_
    refine go_iload_n (show decode cX2_startTrial 73 = .ok (.iload_n 2, 1) by decide +kernel) (by rfl) ?_
    obtain ⟨q5, h⟩ := h
    refine go_imul (show decode cX2_startTrial 74 = .ok (.imul, 1) by decide +kernel) q5 ?_
    refine go_iload (show decode cX2_startTrial 75 = .ok (.iload 4, 2) by decide +kernel) (by rfl) ?_
    obtain ⟨q6, h⟩ := h
    refine go_iadd (show decode cX2_startTrial 77 = .ok (.iadd, 1) by decide +kernel) q6 ?_
    refine go_aload_n (show decode cX2_startTrial 78 = .ok (.aload_n 0, 1) by decide +kernel) (by rfl) ?_
    refine go_getR (show decode cX2_startTrial 79 = .ok (.getfield 28, 3) by decide +kernel) fl_X2_28 rfl q1 ?_
    refine go_iload_n (show decode cX2_startTrial 82 = .ok (.iload_n 3, 1) by decide +kernel) (by rfl) ?_
    refine go_aload_n (show decode cX2_startTrial 83 = .ok (.aload_n 0, 1) by decide +kernel) (by rfl) ?_
    refine go_getR (show decode cX2_startTrial 84 = .ok (.getfield 12, 3) by decide +kernel) fl_X2_12 rfl q1 ?_
    refine go_getR (show decode cX2_startTrial 87 = .ok (.getfield 200, 3) by decide +kernel) fl_X2_200 rfl q2 ?_
    refine go_iload (show decode cX2_startTrial 90 = .ok (.iload 4, 2) by decide +kernel) (by rfl) ?_
    obtain ⟨q7, h⟩ := h
    obtain ⟨q8, h⟩ := h
    obtain ⟨q9, h⟩ := h
    refine go_iaload (show decode cX2_startTrial 92 = .ok (.iaload, 1) by decide +kernel) q7 q8 q9 ?_
    obtain ⟨q10, h⟩ := h
    refine go_iadd (show decode cX2_startTrial 93 = .ok (.iadd, 1) by decide +kernel) q10 ?_
    obtain ⟨q11, h⟩ := h
    obtain ⟨q12, h⟩ := h
    obtain ⟨q13, h⟩ := h
    refine go_laload (show decode cX2_startTrial 94 = .ok (.laload, 1) by decide +kernel) q11 q12 q13 ?_
    obtain ⟨q14, h⟩ := h
    obtain ⟨q15, h⟩ := h
    obtain ⟨q16, h⟩ := h
    refine go_lastore (show decode cX2_startTrial 95 = .ok (.lastore, 1) by decide +kernel) q14 q15 q16  ?_
    obtain ⟨G17, G17e⟩ : ∃ G17 : AG, G17 = gu G (sR S a0 4) ((48 * a2) + a4) (G (sR S a0 3) (a3 + (G (sR S (sR S a0 0) 2) a4))) := ⟨_, rfl⟩
    have h := h G17 G17e
    rw [← G17e]
    obtain ⟨q18, h⟩ := h
    refine go_iinc (show decode cX2_startTrial 96 = .ok (.iinc 4 1, 3) by decide +kernel) (by rfl) q18 (by decide) ?_
    show Go d MX2_startTrial 99 [some (vR a0), some (vI a1), some (vI a2), some (vI a3), some (vI (a4 + 1))] [] S F G17 Q
    refine go_goto (tgt := 52) (show decode cX2_startTrial 99 = .ok (.goto (-47), 3) by decide +kernel) (by decide) ?_
    exact h
def V_X2_startTrial_16 (d : Nat) (S : AS) (F : AF) (G : AG) (Q : AQ) (a0 : Nat) (a1 : Int) (a2 : Int) : Prop :=
  (sK S a0 = 2) ∧
  (sK S (sR S a0 1) = 0) ∧
  (sK S (sR S (sR S a0 1) 1) = 1) ∧
  ((F (sR S (sR S a0 1) 1) 1 ≤ a2) →
    Q none S F G) ∧
  ((¬ F (sR S (sR S a0 1) 1) 1 ≤ a2) →
    (r32 (a1 * 2304)) ∧
    (sK S (sR S (sR S a0 1) 2) = 20) ∧
    ((0 : Int) ≤ a2) ∧
    ((a2 : Int) < (sN S (sR S (sR S a0 1) 2) : Int)) ∧
    (r32 (48 * (G (sR S (sR S a0 1) 2) a2))) ∧
    (r32 ((a1 * 2304) + (48 * (G (sR S (sR S a0 1) 2) a2)))) ∧
    ∀ x10 : Int, x10 = (a1 * 2304) + (48 * (G (sR S (sR S a0 1) 2) a2)) →
    Go d MX2_startTrial 52 [some (vR a0), some (vI a1), some (vI a2), some (vI x10), some (vI 0)] [] S F G Q)
theorem R_X2_startTrial_16 {d : Nat} {S : AS} {F : AF} {G : AG} {Q : AQ} {a0 : Nat} {a1 : Int} {a2 : Int} (h : V_X2_startTrial_16 d S F G Q a0 a1 a2) : Go d MX2_startTrial 16 [some (vR a0), some (vI a1), some (vI a2), none, none] [] S F G Q := by
  unfold V_X2_startTrial_16 at h
  refine go_iload_n (show decode cX2_startTrial 16 = .ok (.iload_n 2, 1) by decide +kernel) (by rfl) ?_
  refine go_aload_n (show decode cX2_startTrial 17 = .ok (.aload_n 0, 1) by decide +kernel) (by rfl) ?_
  obtain ⟨q1, h⟩ := h
  refine go_getR (show decode cX2_startTrial 18 = .ok (.getfield 18, 3) by decide +kernel) fl_X2_18 rfl q1 ?_
  obtain ⟨q2, h⟩ := h
  refine go_getR (show decode cX2_startTrial 21 = .ok (.getfield 155, 3) by decide +kernel) fl_X2_155 rfl q2 ?_
  obtain ⟨q3, h⟩ := h
  refine go_getI (show decode cX2_startTrial 24 = .ok (.getfield 197, 3) by decide +kernel) fl_X2_197 (Or.inl rfl) q3 ?_
  obtain ⟨ht, hf⟩ := h
  refine go_icmpge (tgt := 108) (show decode cX2_startTrial 27 = .ok (.if_icmp .ge 81, 3) by decide +kernel) (by decide) (fun hc => ?_) (fun hc => ?_)
  · have h := ht hc
    exact go_vret (show decode cX2_startTrial 108 = .ok (.return_, 1) by decide +kernel) rfl h
  · have h := hf hc
    refine go_iload_n (show decode cX2_startTrial 30 = .ok (.iload_n 1, 1) by decide +kernel) (by rfl) ?_
    refine go_sipush (show decode cX2_startTrial 31 = .ok (.sipush 2304, 3) by decide +kernel) (by decide) ?_
    obtain ⟨q4, h⟩ := h
    refine go_imul (show decode cX2_startTrial 34 = .ok (.imul, 1) by decide +kernel) q4 ?_
    refine go_bipush (show decode cX2_startTrial 35 = .ok (.bipush 48, 2) by decide +kernel) (by decide) ?_
    refine go_aload_n (show decode cX2_startTrial 37 = .ok (.aload_n 0, 1) by decide +kernel) (by rfl) ?_
    refine go_getR (show decode cX2_startTrial 38 = .ok (.getfield 18, 3) by decide +kernel) fl_X2_18 rfl q1 ?_
    refine go_getR (show decode cX2_startTrial 41 = .ok (.getfield 200, 3) by decide +kernel) fl_X2_200 rfl q2 ?_
    refine go_iload_n (show decode cX2_startTrial 44 = .ok (.iload_n 2, 1) by decide +kernel) (by rfl) ?_
    obtain ⟨q5, h⟩ := h
    obtain ⟨q6, h⟩ := h
    obtain ⟨q7, h⟩ := h
    refine go_iaload (show decode cX2_startTrial 45 = .ok (.iaload, 1) by decide +kernel) q5 q6 q7 ?_
    obtain ⟨q8, h⟩ := h
    refine go_imul (show decode cX2_startTrial 46 = .ok (.imul, 1) by decide +kernel) q8 ?_
    obtain ⟨q9, h⟩ := h
    refine go_iadd (show decode cX2_startTrial 47 = .ok (.iadd, 1) by decide +kernel) q9 ?_
    obtain ⟨x10, x10e⟩ : ∃ x10 : Int, x10 = (a1 * 2304) + (48 * (G (sR S (sR S a0 1) 2) a2)) := ⟨_, rfl⟩
    have h := h x10 x10e
    rw [← x10e]
    refine go_istore_n (show decode cX2_startTrial 48 = .ok (.istore_n 3, 1) by decide +kernel) (by decide) ?_
    show Go d MX2_startTrial 49 [some (vR a0), some (vI a1), some (vI a2), some (vI x10), none] [] S F G Q
    refine go_iconst (show decode cX2_startTrial 49 = .ok (.iconst 0, 1) by decide +kernel) (by decide) ?_
    refine go_istore (show decode cX2_startTrial 50 = .ok (.istore 4, 2) by decide +kernel) (by decide) ?_
    show Go d MX2_startTrial 52 [some (vR a0), some (vI a1), some (vI a2), some (vI x10), some (vI 0)] [] S F G Q
    exact h
def V_X2_startTrial_0 (d : Nat) (S : AS) (F : AF) (G : AG) (Q : AQ) (a0 : Nat) (a1 : Int) : Prop :=
  (sK S a0 = 2) ∧
  (1 ≤ d) ∧
  (sK S (sR S a0 0) = 0) ∧
  Ok (d - 1) MX0_traceOrigins [vR (sR S a0 0)] S F G (fun w3 S4 F5 G6 =>
  w3 = none ∧
  (sK S4 a0 = 2) ∧
  (sK S4 (sR S4 a0 1) = 0) ∧
  Ok (d - 1) MX0_traceOrigins [vR (sR S4 a0 1)] S4 F5 G6 (fun w9 S10 F11 G12 =>
  w9 = none ∧
  Go d MX2_startTrial 16 [some (vR a0), some (vI a1), some (vI 0), none, none] [] S10 F11 G12 Q))
theorem R_X2_startTrial_0 {d : Nat} {S : AS} {F : AF} {G : AG} {Q : AQ} {a0 : Nat} {a1 : Int} (h : V_X2_startTrial_0 d S F G Q a0 a1) : Go d MX2_startTrial 0 [some (vR a0), some (vI a1), none, none, none] [] S F G Q := by
  unfold V_X2_startTrial_0 at h
  refine go_aload_n (show decode cX2_startTrial 0 = .ok (.aload_n 0, 1) by decide +kernel) (by rfl) ?_
  obtain ⟨q1, h⟩ := h
  refine go_getR (show decode cX2_startTrial 1 = .ok (.getfield 12, 3) by decide +kernel) fl_X2_12 rfl q1 ?_
  obtain ⟨q2, h⟩ := h
  obtain ⟨q7, h⟩ := h
  refine go_callV (d2 := d - 1) (M2 := MX0_traceOrigins) (n := 0) (ci := 0) (av := []) (st := []) (show decode cX2_startTrial 4 = .ok (.invokevirtual 194, 3) by decide +kernel) ml_X2_194 mt_X0_traceOrigins min_X0_traceOrigins mse_X0_traceOrigins (by decide) q7 rfl (Nat.le_of_ble_eq_true rfl) (by omega) (ok_mono h (fun w3 S4 F5 G6 h => ?_))
  obtain ⟨e9, h⟩ := h
  subst e9
  show Go d MX2_startTrial 7 [some (vR a0), some (vI a1), none, none, none] [] S4 F5 G6 Q
  refine go_aload_n (show decode cX2_startTrial 7 = .ok (.aload_n 0, 1) by decide +kernel) (by rfl) ?_
  obtain ⟨q8, h⟩ := h
  refine go_getR (show decode cX2_startTrial 8 = .ok (.getfield 18, 3) by decide +kernel) fl_X2_18 rfl q8 ?_
  obtain ⟨q13, h⟩ := h
  refine go_callV (d2 := d - 1) (M2 := MX0_traceOrigins) (n := 0) (ci := 0) (av := []) (st := []) (show decode cX2_startTrial 11 = .ok (.invokevirtual 194, 3) by decide +kernel) ml_X2_194 mt_X0_traceOrigins min_X0_traceOrigins mse_X0_traceOrigins (by decide) q13 rfl (Nat.le_of_ble_eq_true rfl) (by omega) (ok_mono h (fun w9 S10 F11 G12 h => ?_))
  obtain ⟨e9, h⟩ := h
  subst e9
  show Go d MX2_startTrial 14 [some (vR a0), some (vI a1), none, none, none] [] S10 F11 G12 Q
  refine go_iconst (show decode cX2_startTrial 14 = .ok (.iconst 0, 1) by decide +kernel) (by decide) ?_
  refine go_istore_n (show decode cX2_startTrial 15 = .ok (.istore_n 2, 1) by decide +kernel) (by decide) ?_
  show Go d MX2_startTrial 16 [some (vR a0), some (vI a1), some (vI 0), none, none] [] S10 F11 G12 Q
  exact h
def V_X2_raise_71 (d : Nat) (S : AS) (F : AF) (G : AG) (Q : AQ) (a0 : Nat) (a1 : Nat) (a2 : Int) (a4 : Int) (a5 : Int) (a6 : Int) (a7 : Int) : Prop :=
  ((a4 < a7) →
    (r32 (a6 + 1)) ∧
    Go d MX2_raise 48 [some (vR a0), some (vR a1), some (vJ a2), none, some (vI a4), some (vI a5), some (vI (a6 + 1)), none] [] S F G Q) ∧
  ((¬ a4 < a7) →
    (sK S a0 = 2) ∧
    (r32 (48 * a6)) ∧
    (r32 ((48 * a6) + a7)) ∧
    (sK S (sR S a0 4) = 21) ∧
    ((0 : Int) ≤ (48 * a6) + a7) ∧
    (((48 * a6) + a7 : Int) < (sN S (sR S a0 4) : Int)) ∧
    (r64 ((G (sR S a0 4) ((48 * a6) + a7)) + a2)) ∧
    ∀ G9 : AG, G9 = gu G (sR S a0 4) ((48 * a6) + a7) ((G (sR S a0 4) ((48 * a6) + a7)) + a2) →
    (r32 (a7 + 1)) ∧
    Go d MX2_raise 71 [some (vR a0), some (vR a1), some (vJ a2), none, some (vI a4), some (vI a5), some (vI a6), some (vI (a7 + 1))] [] S F G9 Q)
theorem R_X2_raise_71 {d : Nat} {S : AS} {F : AF} {G : AG} {Q : AQ} {a0 : Nat} {a1 : Nat} {a2 : Int} {a4 : Int} {a5 : Int} {a6 : Int} {a7 : Int} (h : V_X2_raise_71 d S F G Q a0 a1 a2 a4 a5 a6 a7) : Go d MX2_raise 71 [some (vR a0), some (vR a1), some (vJ a2), none, some (vI a4), some (vI a5), some (vI a6), some (vI a7)] [] S F G Q := by
  unfold V_X2_raise_71 at h
  refine go_iload (show decode cX2_raise 71 = .ok (.iload 7, 2) by decide +kernel) (by rfl) ?_
  refine go_iload (show decode cX2_raise 73 = .ok (.iload 4, 2) by decide +kernel) (by rfl) ?_
  obtain ⟨ht, hf⟩ := h
  refine go_icmpgt (tgt := 101) (show decode cX2_raise 75 = .ok (.if_icmp .gt 26, 3) by decide +kernel) (by decide) (fun hc => ?_) (fun hc => ?_)
  · have h := ht hc
    obtain ⟨q1, h⟩ := h
    refine go_iinc (show decode cX2_raise 101 = .ok (.iinc 6 1, 3) by decide +kernel) (by rfl) q1 (by decide) ?_
    show Go d MX2_raise 104 [some (vR a0), some (vR a1), some (vJ a2), none, some (vI a4), some (vI a5), some (vI (a6 + 1)), some (vI a7)] [] S F G Q
    refine go_goto (tgt := 48) (show decode cX2_raise 104 = .ok (.goto (-56), 3) by decide +kernel) (by decide) ?_
    refine go_clr 7 ?_
    exact h
  · have h := hf hc
    refine go_aload_n (show decode cX2_raise 78 = .ok (.aload_n 0, 1) by decide +kernel) (by rfl) ?_
    obtain ⟨q2, h⟩ := h
    refine go_getR (show decode cX2_raise 79 = .ok (.getfield 32, 3) by decide +kernel) fl_X2_32 rfl q2 ?_
    refine go_bipush (show decode cX2_raise 82 = .ok (.bipush 48, 2) by decide +kernel) (by decide) ?_
    refine go_iload (show decode cX2_raise 84 = .ok (.iload 6, 2) by decide +kernel) (by rfl) ?_
    obtain ⟨q3, h⟩ := h
    refine go_imul (show decode cX2_raise 86 = .ok (.imul, 1) by decide +kernel) q3 ?_
    refine go_iload (show decode cX2_raise 87 = .ok (.iload 7, 2) by decide +kernel) (by rfl) ?_
    obtain ⟨q4, h⟩ := h
    refine go_iadd (show decode cX2_raise 89 = .ok (.iadd, 1) by decide +kernel) q4 ?_
    refine go_dup2 (show decode cX2_raise 90 = .ok (.dup2, 1) by decide +kernel) ?_
    obtain ⟨q5, h⟩ := h
    obtain ⟨q6, h⟩ := h
    obtain ⟨q7, h⟩ := h
    refine go_laload (show decode cX2_raise 91 = .ok (.laload, 1) by decide +kernel) q5 q6 q7 ?_
    refine go_lload_n (show decode cX2_raise 92 = .ok (.lload_n 2, 1) by decide +kernel) (by rfl) ?_
    obtain ⟨q8, h⟩ := h
    refine go_ladd (show decode cX2_raise 93 = .ok (.ladd, 1) by decide +kernel) q8 ?_
    refine go_lastore (show decode cX2_raise 94 = .ok (.lastore, 1) by decide +kernel) q5 q6 q7  ?_
    obtain ⟨G9, G9e⟩ : ∃ G9 : AG, G9 = gu G (sR S a0 4) ((48 * a6) + a7) ((G (sR S a0 4) ((48 * a6) + a7)) + a2) := ⟨_, rfl⟩
    have h := h G9 G9e
    rw [← G9e]
    obtain ⟨q10, h⟩ := h
    refine go_iinc (show decode cX2_raise 95 = .ok (.iinc 7 1, 3) by decide +kernel) (by rfl) q10 (by decide) ?_
    show Go d MX2_raise 98 [some (vR a0), some (vR a1), some (vJ a2), none, some (vI a4), some (vI a5), some (vI a6), some (vI (a7 + 1))] [] S F G9 Q
    refine go_goto (tgt := 71) (show decode cX2_raise 98 = .ok (.goto (-27), 3) by decide +kernel) (by decide) ?_
    exact h
def V_X2_raise_48 (d : Nat) (S : AS) (F : AF) (G : AG) (Q : AQ) (a0 : Nat) (a1 : Nat) (a2 : Int) (a4 : Int) (a5 : Int) (a6 : Int) : Prop :=
  ((a5 < a6) →
    Q none S F G) ∧
  ((¬ a5 < a6) →
    (sK S a0 = 2) ∧
    (sK S (sR S a0 0) = 0) ∧
    (sK S a1 = 3) ∧
    (1 ≤ d) ∧
    (sK S (sR S (sR S a0 0) 1) = 1) ∧
    Ok (d - 1) MX1_bandOf [vR (sR S (sR S a0 0) 1), vI (F a1 0)] S F G (fun w5 S6 F7 G8 =>
    ∃ z10 : Int, w5 = some (vI z10) ∧
    Go d MX2_raise 71 [some (vR a0), some (vR a1), some (vJ a2), none, some (vI a4), some (vI a5), some (vI a6), some (vI z10)] [] S6 F7 G8 Q))
theorem R_X2_raise_48 {d : Nat} {S : AS} {F : AF} {G : AG} {Q : AQ} {a0 : Nat} {a1 : Nat} {a2 : Int} {a4 : Int} {a5 : Int} {a6 : Int} (h : V_X2_raise_48 d S F G Q a0 a1 a2 a4 a5 a6) : Go d MX2_raise 48 [some (vR a0), some (vR a1), some (vJ a2), none, some (vI a4), some (vI a5), some (vI a6), none] [] S F G Q := by
  unfold V_X2_raise_48 at h
  refine go_iload (show decode cX2_raise 48 = .ok (.iload 6, 2) by decide +kernel) (by rfl) ?_
  refine go_iload (show decode cX2_raise 50 = .ok (.iload 5, 2) by decide +kernel) (by rfl) ?_
  obtain ⟨ht, hf⟩ := h
  refine go_icmpgt (tgt := 107) (show decode cX2_raise 52 = .ok (.if_icmp .gt 55, 3) by decide +kernel) (by decide) (fun hc => ?_) (fun hc => ?_)
  · have h := ht hc
    exact go_vret (show decode cX2_raise 107 = .ok (.return_, 1) by decide +kernel) rfl h
  · have h := hf hc
    refine go_aload_n (show decode cX2_raise 55 = .ok (.aload_n 0, 1) by decide +kernel) (by rfl) ?_
    obtain ⟨q1, h⟩ := h
    refine go_getR (show decode cX2_raise 56 = .ok (.getfield 12, 3) by decide +kernel) fl_X2_12 rfl q1 ?_
    obtain ⟨q2, h⟩ := h
    refine go_getR (show decode cX2_raise 59 = .ok (.getfield 155, 3) by decide +kernel) fl_X2_155 rfl q2 ?_
    refine go_aload_n (show decode cX2_raise 62 = .ok (.aload_n 1, 1) by decide +kernel) (by rfl) ?_
    obtain ⟨q3, h⟩ := h
    refine go_getI (show decode cX2_raise 63 = .ok (.getfield 74, 3) by decide +kernel) fl_X2_74 (Or.inl rfl) q3 ?_
    obtain ⟨q4, h⟩ := h
    obtain ⟨q9, h⟩ := h
    refine go_callV (d2 := d - 1) (M2 := MX1_bandOf) (n := 1) (ci := 1) (av := [vI (F a1 0)]) (st := []) (show decode cX2_raise 66 = .ok (.invokevirtual 99, 3) by decide +kernel) ml_X2_99 mt_X1_bandOf min_X1_bandOf mse_X1_bandOf (by decide) q9 rfl (Nat.le_of_ble_eq_true rfl) (by omega) (ok_mono h (fun w5 S6 F7 G8 h => ?_))
    obtain ⟨z10, e9, h⟩ := h
    subst e9
    show Go d MX2_raise 69 [some (vR a0), some (vR a1), some (vJ a2), none, some (vI a4), some (vI a5), some (vI a6), none] [vI z10] S6 F7 G8 Q
    refine go_istore (show decode cX2_raise 69 = .ok (.istore 7, 2) by decide +kernel) (by decide) ?_
    show Go d MX2_raise 71 [some (vR a0), some (vR a1), some (vJ a2), none, some (vI a4), some (vI a5), some (vI a6), some (vI z10)] [] S6 F7 G8 Q
    exact h
def V_X2_raise_0 (d : Nat) (S : AS) (F : AF) (G : AG) (Q : AQ) (a0 : Nat) (a1 : Nat) (a2 : Int) : Prop :=
  (sK S a0 = 2) ∧
  (sK S (sR S a0 0) = 0) ∧
  (sK S a1 = 3) ∧
  (1 ≤ d) ∧
  (sK S (sR S (sR S a0 0) 1) = 1) ∧
  Ok (d - 1) MX1_bandOf [vR (sR S (sR S a0 0) 1), vI (F a1 2)] S F G (fun w5 S6 F7 G8 =>
  ∃ z10 : Int, w5 = some (vI z10) ∧
  (sK S6 a0 = 2) ∧
  (sK S6 (sR S6 a0 1) = 0) ∧
  (sK S6 a1 = 3) ∧
  (sK S6 (sR S6 (sR S6 a0 1) 1) = 1) ∧
  Ok (d - 1) MX1_bandOf [vR (sR S6 (sR S6 a0 1) 1), vI (F7 a1 3)] S6 F7 G8 (fun w14 S15 F16 G17 =>
  ∃ z19 : Int, w14 = some (vI z19) ∧
  (sK S15 a0 = 2) ∧
  (sK S15 (sR S15 a0 1) = 0) ∧
  (sK S15 a1 = 3) ∧
  (sK S15 (sR S15 (sR S15 a0 1) 1) = 1) ∧
  Ok (d - 1) MX1_bandOf [vR (sR S15 (sR S15 a0 1) 1), vI (F16 a1 1)] S15 F16 G17 (fun w23 S24 F25 G26 =>
  ∃ z28 : Int, w23 = some (vI z28) ∧
  Go d MX2_raise 48 [some (vR a0), some (vR a1), some (vJ a2), none, some (vI z10), some (vI z19), some (vI z28), none] [] S24 F25 G26 Q)))
theorem R_X2_raise_0 {d : Nat} {S : AS} {F : AF} {G : AG} {Q : AQ} {a0 : Nat} {a1 : Nat} {a2 : Int} (h : V_X2_raise_0 d S F G Q a0 a1 a2) : Go d MX2_raise 0 [some (vR a0), some (vR a1), some (vJ a2), none, none, none, none, none] [] S F G Q := by
  unfold V_X2_raise_0 at h
  refine go_aload_n (show decode cX2_raise 0 = .ok (.aload_n 0, 1) by decide +kernel) (by rfl) ?_
  obtain ⟨q1, h⟩ := h
  refine go_getR (show decode cX2_raise 1 = .ok (.getfield 12, 3) by decide +kernel) fl_X2_12 rfl q1 ?_
  obtain ⟨q2, h⟩ := h
  refine go_getR (show decode cX2_raise 4 = .ok (.getfield 155, 3) by decide +kernel) fl_X2_155 rfl q2 ?_
  refine go_aload_n (show decode cX2_raise 7 = .ok (.aload_n 1, 1) by decide +kernel) (by rfl) ?_
  obtain ⟨q3, h⟩ := h
  refine go_getI (show decode cX2_raise 8 = .ok (.getfield 77, 3) by decide +kernel) fl_X2_77 (Or.inl rfl) q3 ?_
  obtain ⟨q4, h⟩ := h
  obtain ⟨q9, h⟩ := h
  refine go_callV (d2 := d - 1) (M2 := MX1_bandOf) (n := 1) (ci := 1) (av := [vI (F a1 2)]) (st := []) (show decode cX2_raise 11 = .ok (.invokevirtual 99, 3) by decide +kernel) ml_X2_99 mt_X1_bandOf min_X1_bandOf mse_X1_bandOf (by decide) q9 rfl (Nat.le_of_ble_eq_true rfl) (by omega) (ok_mono h (fun w5 S6 F7 G8 h => ?_))
  obtain ⟨z10, e9, h⟩ := h
  subst e9
  show Go d MX2_raise 14 [some (vR a0), some (vR a1), some (vJ a2), none, none, none, none, none] [vI z10] S6 F7 G8 Q
  refine go_istore (show decode cX2_raise 14 = .ok (.istore 4, 2) by decide +kernel) (by decide) ?_
  show Go d MX2_raise 16 [some (vR a0), some (vR a1), some (vJ a2), none, some (vI z10), none, none, none] [] S6 F7 G8 Q
  refine go_aload_n (show decode cX2_raise 16 = .ok (.aload_n 0, 1) by decide +kernel) (by rfl) ?_
  obtain ⟨q11, h⟩ := h
  refine go_getR (show decode cX2_raise 17 = .ok (.getfield 18, 3) by decide +kernel) fl_X2_18 rfl q11 ?_
  obtain ⟨q12, h⟩ := h
  refine go_getR (show decode cX2_raise 20 = .ok (.getfield 155, 3) by decide +kernel) fl_X2_155 rfl q12 ?_
  refine go_aload_n (show decode cX2_raise 23 = .ok (.aload_n 1, 1) by decide +kernel) (by rfl) ?_
  obtain ⟨q13, h⟩ := h
  refine go_getI (show decode cX2_raise 24 = .ok (.getfield 83, 3) by decide +kernel) fl_X2_83 (Or.inl rfl) q13 ?_
  obtain ⟨q18, h⟩ := h
  refine go_callV (d2 := d - 1) (M2 := MX1_bandOf) (n := 1) (ci := 1) (av := [vI (F7 a1 3)]) (st := []) (show decode cX2_raise 27 = .ok (.invokevirtual 99, 3) by decide +kernel) ml_X2_99 mt_X1_bandOf min_X1_bandOf mse_X1_bandOf (by decide) q18 rfl (Nat.le_of_ble_eq_true rfl) (by omega) (ok_mono h (fun w14 S15 F16 G17 h => ?_))
  obtain ⟨z19, e9, h⟩ := h
  subst e9
  show Go d MX2_raise 30 [some (vR a0), some (vR a1), some (vJ a2), none, some (vI z10), none, none, none] [vI z19] S15 F16 G17 Q
  refine go_istore (show decode cX2_raise 30 = .ok (.istore 5, 2) by decide +kernel) (by decide) ?_
  show Go d MX2_raise 32 [some (vR a0), some (vR a1), some (vJ a2), none, some (vI z10), some (vI z19), none, none] [] S15 F16 G17 Q
  refine go_aload_n (show decode cX2_raise 32 = .ok (.aload_n 0, 1) by decide +kernel) (by rfl) ?_
  obtain ⟨q20, h⟩ := h
  refine go_getR (show decode cX2_raise 33 = .ok (.getfield 18, 3) by decide +kernel) fl_X2_18 rfl q20 ?_
  obtain ⟨q21, h⟩ := h
  refine go_getR (show decode cX2_raise 36 = .ok (.getfield 155, 3) by decide +kernel) fl_X2_155 rfl q21 ?_
  refine go_aload_n (show decode cX2_raise 39 = .ok (.aload_n 1, 1) by decide +kernel) (by rfl) ?_
  obtain ⟨q22, h⟩ := h
  refine go_getI (show decode cX2_raise 40 = .ok (.getfield 80, 3) by decide +kernel) fl_X2_80 (Or.inl rfl) q22 ?_
  obtain ⟨q27, h⟩ := h
  refine go_callV (d2 := d - 1) (M2 := MX1_bandOf) (n := 1) (ci := 1) (av := [vI (F16 a1 1)]) (st := []) (show decode cX2_raise 43 = .ok (.invokevirtual 99, 3) by decide +kernel) ml_X2_99 mt_X1_bandOf min_X1_bandOf mse_X1_bandOf (by decide) q27 rfl (Nat.le_of_ble_eq_true rfl) (by omega) (ok_mono h (fun w23 S24 F25 G26 h => ?_))
  obtain ⟨z28, e9, h⟩ := h
  subst e9
  show Go d MX2_raise 46 [some (vR a0), some (vR a1), some (vJ a2), none, some (vI z10), some (vI z19), none, none] [vI z28] S24 F25 G26 Q
  refine go_istore (show decode cX2_raise 46 = .ok (.istore 6, 2) by decide +kernel) (by decide) ?_
  show Go d MX2_raise 48 [some (vR a0), some (vR a1), some (vJ a2), none, some (vI z10), some (vI z19), some (vI z28), none] [] S24 F25 G26 Q
  exact h
def V_X2_adopt_62 (d : Nat) (S : AS) (F : AF) (G : AG) (Q : AQ) (a0 : Nat) (a1 : Int) : Prop :=
  (sK S a0 = 2) ∧
  (1 ≤ d) ∧
  (sK S (sR S a0 0) = 0) ∧
  Ok (d - 1) MX0_adopt [vR (sR S a0 0)] S F G (fun w3 S4 F5 G6 =>
  w3 = none ∧
  (sK S4 a0 = 2) ∧
  (sK S4 (sR S4 a0 1) = 0) ∧
  Ok (d - 1) MX0_adopt [vR (sR S4 a0 1)] S4 F5 G6 (fun w9 S10 F11 G12 =>
  w9 = none ∧
  (sK S10 a0 = 2) ∧
  (r32 (a1 * 2304)) ∧
  (sK S10 (sR S10 a0 4) = 21) ∧
  (sK S10 (sR S10 a0 3) = 21) ∧
  ((0 : Int) ≤ a1 * 2304) ∧
  ((0 + 2304 : Int) ≤ (sN S10 (sR S10 a0 4) : Int)) ∧
  (((a1 * 2304) + 2304 : Int) ≤ (sN S10 (sR S10 a0 3) : Int)) ∧
  ∀ G21 : AG, G21 = gcp G12 (sR S10 a0 4) (sR S10 a0 3) 0 (a1 * 2304) 2304 →
  (r32 ((F11 a0 8) - 1)) ∧
  Ok (d - 1) MX2_savedAt [vR a0, vI ((F11 a0 8) - 1)] S10 F11 G21 (fun w23 S24 F25 G26 =>
  ∃ z27 : Nat, w23 = some (vR z27) ∧
  ((z27 = 0) →
    Q none S24 F25 G26) ∧
  ((¬ z27 = 0) →
    (sK S24 z27 = 4) ∧
    (r32 ((F25 z27 1) + 1)) ∧
    ∀ F30 : AF, F30 = fu F25 z27 1 ((F25 z27 1) + 1) →
    Q none S24 F30 G26))))
theorem R_X2_adopt_62 {d : Nat} {S : AS} {F : AF} {G : AG} {Q : AQ} {a0 : Nat} {a1 : Int} (h : V_X2_adopt_62 d S F G Q a0 a1) : Go d MX2_adopt 62 [some (vR a0), some (vI a1), none, none] [] S F G Q := by
  unfold V_X2_adopt_62 at h
  refine go_aload_n (show decode cX2_adopt 62 = .ok (.aload_n 0, 1) by decide +kernel) (by rfl) ?_
  obtain ⟨q1, h⟩ := h
  refine go_getR (show decode cX2_adopt 63 = .ok (.getfield 12, 3) by decide +kernel) fl_X2_12 rfl q1 ?_
  obtain ⟨q2, h⟩ := h
  obtain ⟨q7, h⟩ := h
  refine go_callV (d2 := d - 1) (M2 := MX0_adopt) (n := 0) (ci := 0) (av := []) (st := []) (show decode cX2_adopt 66 = .ok (.invokevirtual 221, 3) by decide +kernel) ml_X2_221 mt_X0_adopt min_X0_adopt mse_X0_adopt (by decide) q7 rfl (Nat.le_of_ble_eq_true rfl) (by omega) (ok_mono h (fun w3 S4 F5 G6 h => ?_))
  obtain ⟨e9, h⟩ := h
  subst e9
  show Go d MX2_adopt 69 [some (vR a0), some (vI a1), none, none] [] S4 F5 G6 Q
  refine go_aload_n (show decode cX2_adopt 69 = .ok (.aload_n 0, 1) by decide +kernel) (by rfl) ?_
  obtain ⟨q8, h⟩ := h
  refine go_getR (show decode cX2_adopt 70 = .ok (.getfield 18, 3) by decide +kernel) fl_X2_18 rfl q8 ?_
  obtain ⟨q13, h⟩ := h
  refine go_callV (d2 := d - 1) (M2 := MX0_adopt) (n := 0) (ci := 0) (av := []) (st := []) (show decode cX2_adopt 73 = .ok (.invokevirtual 221, 3) by decide +kernel) ml_X2_221 mt_X0_adopt min_X0_adopt mse_X0_adopt (by decide) q13 rfl (Nat.le_of_ble_eq_true rfl) (by omega) (ok_mono h (fun w9 S10 F11 G12 h => ?_))
  obtain ⟨e9, h⟩ := h
  subst e9
  show Go d MX2_adopt 76 [some (vR a0), some (vI a1), none, none] [] S10 F11 G12 Q
  refine go_aload_n (show decode cX2_adopt 76 = .ok (.aload_n 0, 1) by decide +kernel) (by rfl) ?_
  obtain ⟨q14, h⟩ := h
  refine go_getR (show decode cX2_adopt 77 = .ok (.getfield 32, 3) by decide +kernel) fl_X2_32 rfl q14 ?_
  refine go_iconst (show decode cX2_adopt 80 = .ok (.iconst 0, 1) by decide +kernel) (by decide) ?_
  refine go_aload_n (show decode cX2_adopt 81 = .ok (.aload_n 0, 1) by decide +kernel) (by rfl) ?_
  refine go_getR (show decode cX2_adopt 82 = .ok (.getfield 28, 3) by decide +kernel) fl_X2_28 rfl q14 ?_
  refine go_iload_n (show decode cX2_adopt 85 = .ok (.iload_n 1, 1) by decide +kernel) (by rfl) ?_
  refine go_sipush (show decode cX2_adopt 86 = .ok (.sipush 2304, 3) by decide +kernel) (by decide) ?_
  obtain ⟨q15, h⟩ := h
  refine go_imul (show decode cX2_adopt 89 = .ok (.imul, 1) by decide +kernel) q15 ?_
  refine go_sipush (show decode cX2_adopt 90 = .ok (.sipush 2304, 3) by decide +kernel) (by decide) ?_
  obtain ⟨q16, h⟩ := h
  obtain ⟨q17, h⟩ := h
  obtain ⟨q18, h⟩ := h
  obtain ⟨q19, h⟩ := h
  obtain ⟨q20, h⟩ := h
  refine go_copyJ (show decode cX2_adopt 93 = .ok (.invokestatic 142, 3) by decide +kernel) ml_X2_142 ac_n ac_s ac_i q16 q17 (by decide) q18 (by decide) q19 q20 (Nat.le_of_ble_eq_true rfl) q2 ?_
  obtain ⟨G21, G21e⟩ : ∃ G21 : AG, G21 = gcp G12 (sR S10 a0 4) (sR S10 a0 3) 0 (a1 * 2304) 2304 := ⟨_, rfl⟩
  have h := h G21 G21e
  rw [← G21e]
  refine go_aload_n (show decode cX2_adopt 96 = .ok (.aload_n 0, 1) by decide +kernel) (by rfl) ?_
  refine go_aload_n (show decode cX2_adopt 97 = .ok (.aload_n 0, 1) by decide +kernel) (by rfl) ?_
  refine go_getI (show decode cX2_adopt 98 = .ok (.getfield 60, 3) by decide +kernel) fl_X2_60 (Or.inl rfl) q14 ?_
  refine go_iconst (show decode cX2_adopt 101 = .ok (.iconst 1, 1) by decide +kernel) (by decide) ?_
  obtain ⟨q22, h⟩ := h
  refine go_isub (show decode cX2_adopt 102 = .ok (.isub, 1) by decide +kernel) q22 ?_
  refine go_callV (d2 := d - 1) (M2 := MX2_savedAt) (n := 1) (ci := 2) (av := [vI ((F11 a0 8) - 1)]) (st := []) (show decode cX2_adopt 103 = .ok (.invokevirtual 151, 3) by decide +kernel) ml_X2_151 mt_X2_savedAt min_X2_savedAt mse_X2_savedAt (by decide) q14 rfl (Nat.le_of_ble_eq_true rfl) (by omega) (ok_mono h (fun w23 S24 F25 G26 h => ?_))
  obtain ⟨z27, e9, h⟩ := h
  subst e9
  show Go d MX2_adopt 106 [some (vR a0), some (vI a1), none, none] [vR z27] S24 F25 G26 Q
  refine go_astore_n (show decode cX2_adopt 106 = .ok (.astore_n 2, 1) by decide +kernel) (by decide) ?_
  show Go d MX2_adopt 107 [some (vR a0), some (vI a1), some (vR z27), none] [] S24 F25 G26 Q
  refine go_aload_n (show decode cX2_adopt 107 = .ok (.aload_n 2, 1) by decide +kernel) (by rfl) ?_
  obtain ⟨ht, hf⟩ := h
  refine go_ifnull (tgt := 121) (show decode cX2_adopt 108 = .ok (.ifnull 13, 3) by decide +kernel) (by decide) (fun hc => ?_) (fun hc => ?_)
  · have h := ht hc
    exact go_vret (show decode cX2_adopt 121 = .ok (.return_, 1) by decide +kernel) rfl h
  · have h := hf hc
    refine go_aload_n (show decode cX2_adopt 111 = .ok (.aload_n 2, 1) by decide +kernel) (by rfl) ?_
    refine go_dup (show decode cX2_adopt 112 = .ok (.dup, 1) by decide +kernel) ?_
    obtain ⟨q28, h⟩ := h
    refine go_getI (show decode cX2_adopt 113 = .ok (.getfield 148, 3) by decide +kernel) fl_X2_148 (Or.inl rfl) q28 ?_
    refine go_iconst (show decode cX2_adopt 116 = .ok (.iconst 1, 1) by decide +kernel) (by decide) ?_
    obtain ⟨q29, h⟩ := h
    refine go_iadd (show decode cX2_adopt 117 = .ok (.iadd, 1) by decide +kernel) q29 ?_
    refine go_putI (show decode cX2_adopt 118 = .ok (.putfield 148, 3) by decide +kernel) fl_X2_148 rfl (Or.inl rfl) q28 ?_
    obtain ⟨F30, F30e⟩ : ∃ F30 : AF, F30 = fu F25 z27 1 ((F25 z27 1) + 1) := ⟨_, rfl⟩
    have h := h F30 F30e
    rw [← F30e]
    exact go_vret (show decode cX2_adopt 121 = .ok (.return_, 1) by decide +kernel) rfl h
def V_X2_adopt_56 (d : Nat) (S : AS) (F : AF) (G : AG) (Q : AQ) (a0 : Nat) (a1 : Int) (a2 : Int) (a3 : Nat) : Prop :=
  (r32 (a2 + 1)) ∧
  Go d MX2_adopt 30 [some (vR a0), some (vI a1), some (vI (a2 + 1)), none] [] S F G Q
theorem R_X2_adopt_56 {d : Nat} {S : AS} {F : AF} {G : AG} {Q : AQ} {a0 : Nat} {a1 : Int} {a2 : Int} {a3 : Nat} (h : V_X2_adopt_56 d S F G Q a0 a1 a2 a3) : Go d MX2_adopt 56 [some (vR a0), some (vI a1), some (vI a2), some (vR a3)] [] S F G Q := by
  unfold V_X2_adopt_56 at h
  obtain ⟨q1, h⟩ := h
  refine go_iinc (show decode cX2_adopt 56 = .ok (.iinc 2 1, 3) by decide +kernel) (by rfl) q1 (by decide) ?_
  show Go d MX2_adopt 59 [some (vR a0), some (vI a1), some (vI (a2 + 1)), some (vR a3)] [] S F G Q
  refine go_goto (tgt := 30) (show decode cX2_adopt 59 = .ok (.goto (-29), 3) by decide +kernel) (by decide) ?_
  refine go_clr 3 ?_
  exact h
def V_X2_adopt_30 (d : Nat) (S : AS) (F : AF) (G : AG) (Q : AQ) (a0 : Nat) (a1 : Int) (a2 : Int) : Prop :=
  (sK S a0 = 2) ∧
  ((F a0 8 ≤ a2) →
    V_X2_adopt_62 d S F G Q a0 a1) ∧
  ((¬ F a0 8 ≤ a2) →
    (1 ≤ d) ∧
    Ok (d - 1) MX2_savedAt [vR a0, vI a2] S F G (fun w3 S4 F5 G6 =>
    ∃ z7 : Nat, w3 = some (vR z7) ∧
    ((z7 = 0) →
      V_X2_adopt_56 d S4 F5 G6 Q a0 a1 a2 z7) ∧
    ((¬ z7 = 0) →
      (sK S4 z7 = 4) ∧
      (sK S4 a0 = 2) ∧
      Ok (d - 1) MX2_refine [vR a0, vR (sR S4 z7 0)] S4 F5 G6 (fun w9 S10 F11 G12 =>
      w9 = none ∧
      V_X2_adopt_56 d S10 F11 G12 Q a0 a1 a2 z7))))
theorem R_X2_adopt_30 {d : Nat} {S : AS} {F : AF} {G : AG} {Q : AQ} {a0 : Nat} {a1 : Int} {a2 : Int} (h : V_X2_adopt_30 d S F G Q a0 a1 a2) : Go d MX2_adopt 30 [some (vR a0), some (vI a1), some (vI a2), none] [] S F G Q := by
  unfold V_X2_adopt_30 at h
  refine go_iload_n (show decode cX2_adopt 30 = .ok (.iload_n 2, 1) by decide +kernel) (by rfl) ?_
  refine go_aload_n (show decode cX2_adopt 31 = .ok (.aload_n 0, 1) by decide +kernel) (by rfl) ?_
  obtain ⟨q1, h⟩ := h
  refine go_getI (show decode cX2_adopt 32 = .ok (.getfield 60, 3) by decide +kernel) fl_X2_60 (Or.inl rfl) q1 ?_
  obtain ⟨ht, hf⟩ := h
  refine go_icmpge (tgt := 62) (show decode cX2_adopt 35 = .ok (.if_icmp .ge 27, 3) by decide +kernel) (by decide) (fun hc => ?_) (fun hc => ?_)
  · have h := ht hc
    refine go_clr 2 ?_
    exact R_X2_adopt_62 h
  · have h := hf hc
    refine go_aload_n (show decode cX2_adopt 38 = .ok (.aload_n 0, 1) by decide +kernel) (by rfl) ?_
    refine go_iload_n (show decode cX2_adopt 39 = .ok (.iload_n 2, 1) by decide +kernel) (by rfl) ?_
    obtain ⟨q2, h⟩ := h
    refine go_callV (d2 := d - 1) (M2 := MX2_savedAt) (n := 1) (ci := 2) (av := [vI a2]) (st := []) (show decode cX2_adopt 40 = .ok (.invokevirtual 151, 3) by decide +kernel) ml_X2_151 mt_X2_savedAt min_X2_savedAt mse_X2_savedAt (by decide) q1 rfl (Nat.le_of_ble_eq_true rfl) (by omega) (ok_mono h (fun w3 S4 F5 G6 h => ?_))
    obtain ⟨z7, e9, h⟩ := h
    subst e9
    show Go d MX2_adopt 43 [some (vR a0), some (vI a1), some (vI a2), none] [vR z7] S4 F5 G6 Q
    refine go_astore_n (show decode cX2_adopt 43 = .ok (.astore_n 3, 1) by decide +kernel) (by decide) ?_
    show Go d MX2_adopt 44 [some (vR a0), some (vI a1), some (vI a2), some (vR z7)] [] S4 F5 G6 Q
    refine go_aload_n (show decode cX2_adopt 44 = .ok (.aload_n 3, 1) by decide +kernel) (by rfl) ?_
    obtain ⟨ht, hf⟩ := h
    refine go_ifnull (tgt := 56) (show decode cX2_adopt 45 = .ok (.ifnull 11, 3) by decide +kernel) (by decide) (fun hc => ?_) (fun hc => ?_)
    · have h := ht hc
      exact R_X2_adopt_56 h
    · have h := hf hc
      refine go_aload_n (show decode cX2_adopt 48 = .ok (.aload_n 0, 1) by decide +kernel) (by rfl) ?_
      refine go_aload_n (show decode cX2_adopt 49 = .ok (.aload_n 3, 1) by decide +kernel) (by rfl) ?_
      obtain ⟨q8, h⟩ := h
      refine go_getR (show decode cX2_adopt 50 = .ok (.getfield 98, 3) by decide +kernel) fl_X2_98 rfl q8 ?_
      obtain ⟨q13, h⟩ := h
      refine go_callV (d2 := d - 1) (M2 := MX2_refine) (n := 1) (ci := 2) (av := [vR (sR S4 z7 0)]) (st := []) (show decode cX2_adopt 53 = .ok (.invokevirtual 217, 3) by decide +kernel) ml_X2_217 mt_X2_refine min_X2_refine mse_X2_refine (by decide) q13 rfl (Nat.le_of_ble_eq_true rfl) (by omega) (ok_mono h (fun w9 S10 F11 G12 h => ?_))
      obtain ⟨e9, h⟩ := h
      subst e9
      show Go d MX2_adopt 56 [some (vR a0), some (vI a1), some (vI a2), some (vR z7)] [] S10 F11 G12 Q
      exact R_X2_adopt_56 h
def V_X2_adopt_20 (d : Nat) (S : AS) (F : AF) (G : AG) (Q : AQ) (a0 : Nat) (a1 : Int) : Prop :=
  (sK S a0 = 2) ∧
  (1 ≤ d) ∧
  Ok (d - 1) MX2_refine [vR a0, vR (sR S a0 3)] S F G (fun w3 S4 F5 G6 =>
  w3 = none ∧
  Go d MX2_adopt 30 [some (vR a0), some (vI a1), some (vI 0), none] [] S4 F5 G6 Q)
theorem R_X2_adopt_20 {d : Nat} {S : AS} {F : AF} {G : AG} {Q : AQ} {a0 : Nat} {a1 : Int} (h : V_X2_adopt_20 d S F G Q a0 a1) : Go d MX2_adopt 20 [some (vR a0), some (vI a1), none, none] [] S F G Q := by
  unfold V_X2_adopt_20 at h
  refine go_aload_n (show decode cX2_adopt 20 = .ok (.aload_n 0, 1) by decide +kernel) (by rfl) ?_
  refine go_aload_n (show decode cX2_adopt 21 = .ok (.aload_n 0, 1) by decide +kernel) (by rfl) ?_
  obtain ⟨q1, h⟩ := h
  refine go_getR (show decode cX2_adopt 22 = .ok (.getfield 28, 3) by decide +kernel) fl_X2_28 rfl q1 ?_
  obtain ⟨q2, h⟩ := h
  refine go_callV (d2 := d - 1) (M2 := MX2_refine) (n := 1) (ci := 2) (av := [vR (sR S a0 3)]) (st := []) (show decode cX2_adopt 25 = .ok (.invokevirtual 217, 3) by decide +kernel) ml_X2_217 mt_X2_refine min_X2_refine mse_X2_refine (by decide) q1 rfl (Nat.le_of_ble_eq_true rfl) (by omega) (ok_mono h (fun w3 S4 F5 G6 h => ?_))
  obtain ⟨e9, h⟩ := h
  subst e9
  show Go d MX2_adopt 28 [some (vR a0), some (vI a1), none, none] [] S4 F5 G6 Q
  refine go_iconst (show decode cX2_adopt 28 = .ok (.iconst 0, 1) by decide +kernel) (by decide) ?_
  refine go_istore_n (show decode cX2_adopt 29 = .ok (.istore_n 2, 1) by decide +kernel) (by decide) ?_
  show Go d MX2_adopt 30 [some (vR a0), some (vI a1), some (vI 0), none] [] S4 F5 G6 Q
  exact h
def V_X2_adopt_0 (d : Nat) (S : AS) (F : AF) (G : AG) (Q : AQ) (a0 : Nat) (a1 : Int) : Prop :=
  (sK S a0 = 2) ∧
  (1 ≤ d) ∧
  (sK S (sR S a0 0) = 0) ∧
  Ok (d - 1) MX0_grows [vR (sR S a0 0)] S F G (fun w3 S4 F5 G6 =>
  ∃ z8 : Int, w3 = some (vI z8) ∧
  ((¬ z8 = 0) →
    V_X2_adopt_20 d S4 F5 G6 Q a0 a1) ∧
  ((z8 = 0) →
    (sK S4 a0 = 2) ∧
    (sK S4 (sR S4 a0 1) = 0) ∧
    Ok (d - 1) MX0_grows [vR (sR S4 a0 1)] S4 F5 G6 (fun w10 S11 F12 G13 =>
    ∃ z15 : Int, w10 = some (vI z15) ∧
    ((z15 = 0) →
      V_X2_adopt_62 d S11 F12 G13 Q a0 a1) ∧
    ((¬ z15 = 0) →
      V_X2_adopt_20 d S11 F12 G13 Q a0 a1))))
theorem R_X2_adopt_0 {d : Nat} {S : AS} {F : AF} {G : AG} {Q : AQ} {a0 : Nat} {a1 : Int} (h : V_X2_adopt_0 d S F G Q a0 a1) : Go d MX2_adopt 0 [some (vR a0), some (vI a1), none, none] [] S F G Q := by
  unfold V_X2_adopt_0 at h
  refine go_aload_n (show decode cX2_adopt 0 = .ok (.aload_n 0, 1) by decide +kernel) (by rfl) ?_
  obtain ⟨q1, h⟩ := h
  refine go_getR (show decode cX2_adopt 1 = .ok (.getfield 12, 3) by decide +kernel) fl_X2_12 rfl q1 ?_
  obtain ⟨q2, h⟩ := h
  obtain ⟨q7, h⟩ := h
  refine go_callV (d2 := d - 1) (M2 := MX0_grows) (n := 0) (ci := 0) (av := []) (st := []) (show decode cX2_adopt 4 = .ok (.invokevirtual 214, 3) by decide +kernel) ml_X2_214 mt_X0_grows min_X0_grows mse_X0_grows (by decide) q7 rfl (Nat.le_of_ble_eq_true rfl) (by omega) (ok_mono h (fun w3 S4 F5 G6 h => ?_))
  obtain ⟨z8, e9, h⟩ := h
  subst e9
  show Go d MX2_adopt 7 [some (vR a0), some (vI a1), none, none] [vI z8] S4 F5 G6 Q
  obtain ⟨ht, hf⟩ := h
  refine go_ifne (tgt := 20) (show decode cX2_adopt 7 = .ok (.ifCond .ne 13, 3) by decide +kernel) (by decide) (fun hc => ?_) (fun hc => ?_)
  · have h := ht hc
    exact R_X2_adopt_20 h
  · have h := hf hc
    refine go_aload_n (show decode cX2_adopt 10 = .ok (.aload_n 0, 1) by decide +kernel) (by rfl) ?_
    obtain ⟨q9, h⟩ := h
    refine go_getR (show decode cX2_adopt 11 = .ok (.getfield 18, 3) by decide +kernel) fl_X2_18 rfl q9 ?_
    obtain ⟨q14, h⟩ := h
    refine go_callV (d2 := d - 1) (M2 := MX0_grows) (n := 0) (ci := 0) (av := []) (st := []) (show decode cX2_adopt 14 = .ok (.invokevirtual 214, 3) by decide +kernel) ml_X2_214 mt_X0_grows min_X0_grows mse_X0_grows (by decide) q14 rfl (Nat.le_of_ble_eq_true rfl) (by omega) (ok_mono h (fun w10 S11 F12 G13 h => ?_))
    obtain ⟨z15, e9, h⟩ := h
    subst e9
    show Go d MX2_adopt 17 [some (vR a0), some (vI a1), none, none] [vI z15] S11 F12 G13 Q
    obtain ⟨ht, hf⟩ := h
    refine go_ifeq (tgt := 62) (show decode cX2_adopt 17 = .ok (.ifCond .eq 45, 3) by decide +kernel) (by decide) (fun hc => ?_) (fun hc => ?_)
    · have h := ht hc
      exact R_X2_adopt_62 h
    · have h := hf hc
      exact R_X2_adopt_20 h
def V_X2_refine_63 (d : Nat) (S : AS) (F : AF) (G : AG) (Q : AQ) (a0 : Nat) (a1 : Nat) (a2 : Int) (a3 : Int) (a4 : Int) (a5 : Int) (a6 : Int) : Prop :=
  ((a6 < 0) →
    (r32 (a3 + (-1))) ∧
    Go d MX2_refine 21 [some (vR a0), some (vR a1), some (vI a2), some (vI (a3 + (-1))), none, none, none] [] S F G Q) ∧
  ((¬ a6 < 0) →
    (r32 (a4 + a6)) ∧
    (sK S a0 = 2) ∧
    (sK S (sR S a0 0) = 0) ∧
    (sK S (sR S (sR S a0 0) 2) = 20) ∧
    ((0 : Int) ≤ a6) ∧
    ((a6 : Int) < (sN S (sR S (sR S a0 0) 2) : Int)) ∧
    (r32 (a5 + (G (sR S (sR S a0 0) 2) a6))) ∧
    (sK S a1 = 21) ∧
    ((0 : Int) ≤ a5 + (G (sR S (sR S a0 0) 2) a6)) ∧
    ((a5 + (G (sR S (sR S a0 0) 2) a6) : Int) < (sN S a1 : Int)) ∧
    ((0 : Int) ≤ a4 + a6) ∧
    ((a4 + a6 : Int) < (sN S a1 : Int)) ∧
    ∀ G14 : AG, G14 = gu G a1 (a4 + a6) (G a1 (a5 + (G (sR S (sR S a0 0) 2) a6))) →
    (r32 (a6 + (-1))) ∧
    Go d MX2_refine 63 [some (vR a0), some (vR a1), some (vI a2), some (vI a3), some (vI a4), some (vI a5), some (vI (a6 + (-1)))] [] S F G14 Q)
theorem R_X2_refine_63 {d : Nat} {S : AS} {F : AF} {G : AG} {Q : AQ} {a0 : Nat} {a1 : Nat} {a2 : Int} {a3 : Int} {a4 : Int} {a5 : Int} {a6 : Int} (h : V_X2_refine_63 d S F G Q a0 a1 a2 a3 a4 a5 a6) : Go d MX2_refine 63 [some (vR a0), some (vR a1), some (vI a2), some (vI a3), some (vI a4), some (vI a5), some (vI a6)] [] S F G Q := by
  unfold V_X2_refine_63 at h
  refine go_iload (show decode cX2_refine 63 = .ok (.iload 6, 2) by decide +kernel) (by rfl) ?_
  obtain ⟨ht, hf⟩ := h
  refine go_iflt (tgt := 96) (show decode cX2_refine 65 = .ok (.ifCond .lt 31, 3) by decide +kernel) (by decide) (fun hc => ?_) (fun hc => ?_)
  · have h := ht hc
    obtain ⟨q1, h⟩ := h
    refine go_iinc (show decode cX2_refine 96 = .ok (.iinc 3 (-1), 3) by decide +kernel) (by rfl) q1 (by decide) ?_
    show Go d MX2_refine 99 [some (vR a0), some (vR a1), some (vI a2), some (vI (a3 + (-1))), some (vI a4), some (vI a5), some (vI a6)] [] S F G Q
    refine go_goto (tgt := 21) (show decode cX2_refine 99 = .ok (.goto (-78), 3) by decide +kernel) (by decide) ?_
    refine go_clr 4 ?_
    refine go_clr 5 ?_
    refine go_clr 6 ?_
    exact h
  · have h := hf hc
    refine go_aload_n (show decode cX2_refine 68 = .ok (.aload_n 1, 1) by decide +kernel) (by rfl) ?_
    refine go_iload (show decode cX2_refine 69 = .ok (.iload 4, 2) by decide +kernel) (by rfl) ?_
    refine go_iload (show decode cX2_refine 71 = .ok (.iload 6, 2) by decide +kernel) (by rfl) ?_
    obtain ⟨q2, h⟩ := h
    refine go_iadd (show decode cX2_refine 73 = .ok (.iadd, 1) by decide +kernel) q2 ?_
    refine go_aload_n (show decode cX2_refine 74 = .ok (.aload_n 1, 1) by decide +kernel) (by rfl) ?_
    refine go_iload (show decode cX2_refine 75 = .ok (.iload 5, 2) by decide +kernel) (by rfl) ?_
    refine go_aload_n (show decode cX2_refine 77 = .ok (.aload_n 0, 1) by decide +kernel) (by rfl) ?_
    obtain ⟨q3, h⟩ := h
    refine go_getR (show decode cX2_refine 78 = .ok (.getfield 12, 3) by decide +kernel) fl_X2_12 rfl q3 ?_
    obtain ⟨q4, h⟩ := h
    refine go_getR (show decode cX2_refine 81 = .ok (.getfield 200, 3) by decide +kernel) fl_X2_200 rfl q4 ?_
    refine go_iload (show decode cX2_refine 84 = .ok (.iload 6, 2) by decide +kernel) (by rfl) ?_
    obtain ⟨q5, h⟩ := h
    obtain ⟨q6, h⟩ := h
    obtain ⟨q7, h⟩ := h
    refine go_iaload (show decode cX2_refine 86 = .ok (.iaload, 1) by decide +kernel) q5 q6 q7 ?_
    obtain ⟨q8, h⟩ := h
    refine go_iadd (show decode cX2_refine 87 = .ok (.iadd, 1) by decide +kernel) q8 ?_
    obtain ⟨q9, h⟩ := h
    obtain ⟨q10, h⟩ := h
    obtain ⟨q11, h⟩ := h
    refine go_laload (show decode cX2_refine 88 = .ok (.laload, 1) by decide +kernel) q9 q10 q11 ?_
    obtain ⟨q12, h⟩ := h
    obtain ⟨q13, h⟩ := h
    refine go_lastore (show decode cX2_refine 89 = .ok (.lastore, 1) by decide +kernel) q9 q12 q13  ?_
    obtain ⟨G14, G14e⟩ : ∃ G14 : AG, G14 = gu G a1 (a4 + a6) (G a1 (a5 + (G (sR S (sR S a0 0) 2) a6))) := ⟨_, rfl⟩
    have h := h G14 G14e
    rw [← G14e]
    obtain ⟨q15, h⟩ := h
    refine go_iinc (show decode cX2_refine 90 = .ok (.iinc 6 (-1), 3) by decide +kernel) (by rfl) q15 (by decide) ?_
    show Go d MX2_refine 93 [some (vR a0), some (vR a1), some (vI a2), some (vI a3), some (vI a4), some (vI a5), some (vI (a6 + (-1)))] [] S F G14 Q
    refine go_goto (tgt := 63) (show decode cX2_refine 93 = .ok (.goto (-30), 3) by decide +kernel) (by decide) ?_
    exact h
def V_X2_refine_21 (d : Nat) (S : AS) (F : AF) (G : AG) (Q : AQ) (a0 : Nat) (a1 : Nat) (a2 : Int) (a3 : Int) : Prop :=
  ((a3 < 0) →
    (r32 (a2 + 2304)) ∧
    Go d MX2_refine 2 [some (vR a0), some (vR a1), some (vI (a2 + 2304)), none, none, none, none] [] S F G Q) ∧
  ((¬ a3 < 0) →
    (r32 (48 * a3)) ∧
    (r32 (a2 + (48 * a3))) ∧
    ∀ x4 : Int, x4 = a2 + (48 * a3) →
    (sK S a0 = 2) ∧
    (sK S (sR S a0 1) = 0) ∧
    (sK S (sR S (sR S a0 1) 2) = 20) ∧
    ((0 : Int) ≤ a3) ∧
    ((a3 : Int) < (sN S (sR S (sR S a0 1) 2) : Int)) ∧
    (r32 (48 * (G (sR S (sR S a0 1) 2) a3))) ∧
    (r32 (a2 + (48 * (G (sR S (sR S a0 1) 2) a3)))) ∧
    ∀ x12 : Int, x12 = a2 + (48 * (G (sR S (sR S a0 1) 2) a3)) →
    (sK S (sR S a0 0) = 0) ∧
    (sK S (sR S (sR S a0 0) 1) = 1) ∧
    (r32 ((F (sR S (sR S a0 0) 1) 1) - 1)) ∧
    ∀ x16 : Int, x16 = (F (sR S (sR S a0 0) 1) 1) - 1 →
    Go d MX2_refine 63 [some (vR a0), some (vR a1), some (vI a2), some (vI a3), some (vI x4), some (vI x12), some (vI x16)] [] S F G Q)
theorem R_X2_refine_21 {d : Nat} {S : AS} {F : AF} {G : AG} {Q : AQ} {a0 : Nat} {a1 : Nat} {a2 : Int} {a3 : Int} (h : V_X2_refine_21 d S F G Q a0 a1 a2 a3) : Go d MX2_refine 21 [some (vR a0), some (vR a1), some (vI a2), some (vI a3), none, none, none] [] S F G Q := by
  unfold V_X2_refine_21 at h
  refine go_iload_n (show decode cX2_refine 21 = .ok (.iload_n 3, 1) by decide +kernel) (by rfl) ?_
  obtain ⟨ht, hf⟩ := h
  refine go_iflt (tgt := 102) (show decode cX2_refine 22 = .ok (.ifCond .lt 80, 3) by decide +kernel) (by decide) (fun hc => ?_) (fun hc => ?_)
  · have h := ht hc
    obtain ⟨q1, h⟩ := h
    refine go_iincW (show decode cX2_refine 102 = .ok (.iinc 2 2304, 6) by decide +kernel) (by rfl) q1 (by decide) ?_
    show Go d MX2_refine 108 [some (vR a0), some (vR a1), some (vI (a2 + 2304)), some (vI a3), none, none, none] [] S F G Q
    refine go_goto (tgt := 2) (show decode cX2_refine 108 = .ok (.goto (-106), 3) by decide +kernel) (by decide) ?_
    refine go_clr 3 ?_
    exact h
  · have h := hf hc
    refine go_iload_n (show decode cX2_refine 25 = .ok (.iload_n 2, 1) by decide +kernel) (by rfl) ?_
    refine go_bipush (show decode cX2_refine 26 = .ok (.bipush 48, 2) by decide +kernel) (by decide) ?_
    refine go_iload_n (show decode cX2_refine 28 = .ok (.iload_n 3, 1) by decide +kernel) (by rfl) ?_
    obtain ⟨q2, h⟩ := h
    refine go_imul (show decode cX2_refine 29 = .ok (.imul, 1) by decide +kernel) q2 ?_
    obtain ⟨q3, h⟩ := h
    refine go_iadd (show decode cX2_refine 30 = .ok (.iadd, 1) by decide +kernel) q3 ?_
    obtain ⟨x4, x4e⟩ : ∃ x4 : Int, x4 = a2 + (48 * a3) := ⟨_, rfl⟩
    have h := h x4 x4e
    rw [← x4e]
    refine go_istore (show decode cX2_refine 31 = .ok (.istore 4, 2) by decide +kernel) (by decide) ?_
    show Go d MX2_refine 33 [some (vR a0), some (vR a1), some (vI a2), some (vI a3), some (vI x4), none, none] [] S F G Q
    refine go_iload_n (show decode cX2_refine 33 = .ok (.iload_n 2, 1) by decide +kernel) (by rfl) ?_
    refine go_bipush (show decode cX2_refine 34 = .ok (.bipush 48, 2) by decide +kernel) (by decide) ?_
    refine go_aload_n (show decode cX2_refine 36 = .ok (.aload_n 0, 1) by decide +kernel) (by rfl) ?_
    obtain ⟨q5, h⟩ := h
    refine go_getR (show decode cX2_refine 37 = .ok (.getfield 18, 3) by decide +kernel) fl_X2_18 rfl q5 ?_
    obtain ⟨q6, h⟩ := h
    refine go_getR (show decode cX2_refine 40 = .ok (.getfield 200, 3) by decide +kernel) fl_X2_200 rfl q6 ?_
    refine go_iload_n (show decode cX2_refine 43 = .ok (.iload_n 3, 1) by decide +kernel) (by rfl) ?_
    obtain ⟨q7, h⟩ := h
    obtain ⟨q8, h⟩ := h
    obtain ⟨q9, h⟩ := h
    refine go_iaload (show decode cX2_refine 44 = .ok (.iaload, 1) by decide +kernel) q7 q8 q9 ?_
    obtain ⟨q10, h⟩ := h
    refine go_imul (show decode cX2_refine 45 = .ok (.imul, 1) by decide +kernel) q10 ?_
    obtain ⟨q11, h⟩ := h
    refine go_iadd (show decode cX2_refine 46 = .ok (.iadd, 1) by decide +kernel) q11 ?_
    obtain ⟨x12, x12e⟩ : ∃ x12 : Int, x12 = a2 + (48 * (G (sR S (sR S a0 1) 2) a3)) := ⟨_, rfl⟩
    have h := h x12 x12e
    rw [← x12e]
    refine go_istore (show decode cX2_refine 47 = .ok (.istore 5, 2) by decide +kernel) (by decide) ?_
    show Go d MX2_refine 49 [some (vR a0), some (vR a1), some (vI a2), some (vI a3), some (vI x4), some (vI x12), none] [] S F G Q
    refine go_aload_n (show decode cX2_refine 49 = .ok (.aload_n 0, 1) by decide +kernel) (by rfl) ?_
    refine go_getR (show decode cX2_refine 50 = .ok (.getfield 12, 3) by decide +kernel) fl_X2_12 rfl q5 ?_
    obtain ⟨q13, h⟩ := h
    refine go_getR (show decode cX2_refine 53 = .ok (.getfield 155, 3) by decide +kernel) fl_X2_155 rfl q13 ?_
    obtain ⟨q14, h⟩ := h
    refine go_getI (show decode cX2_refine 56 = .ok (.getfield 197, 3) by decide +kernel) fl_X2_197 (Or.inl rfl) q14 ?_
    refine go_iconst (show decode cX2_refine 59 = .ok (.iconst 1, 1) by decide +kernel) (by decide) ?_
    obtain ⟨q15, h⟩ := h
    refine go_isub (show decode cX2_refine 60 = .ok (.isub, 1) by decide +kernel) q15 ?_
    obtain ⟨x16, x16e⟩ : ∃ x16 : Int, x16 = (F (sR S (sR S a0 0) 1) 1) - 1 := ⟨_, rfl⟩
    have h := h x16 x16e
    rw [← x16e]
    refine go_istore (show decode cX2_refine 61 = .ok (.istore 6, 2) by decide +kernel) (by decide) ?_
    show Go d MX2_refine 63 [some (vR a0), some (vR a1), some (vI a2), some (vI a3), some (vI x4), some (vI x12), some (vI x16)] [] S F G Q
    exact h
def V_X2_refine_2 (d : Nat) (S : AS) (F : AF) (G : AG) (Q : AQ) (a0 : Nat) (a1 : Nat) (a2 : Int) : Prop :=
  (sK S a1 = 21) ∧
  (((sN S a1 : Int) ≤ a2) →
    Q none S F G) ∧
  ((¬ (sN S a1 : Int) ≤ a2) →
    (sK S a0 = 2) ∧
    (sK S (sR S a0 1) = 0) ∧
    (sK S (sR S (sR S a0 1) 1) = 1) ∧
    (r32 ((F (sR S (sR S a0 1) 1) 1) - 1)) ∧
    ∀ x6 : Int, x6 = (F (sR S (sR S a0 1) 1) 1) - 1 →
    Go d MX2_refine 21 [some (vR a0), some (vR a1), some (vI a2), some (vI x6), none, none, none] [] S F G Q)
theorem R_X2_refine_2 {d : Nat} {S : AS} {F : AF} {G : AG} {Q : AQ} {a0 : Nat} {a1 : Nat} {a2 : Int} (h : V_X2_refine_2 d S F G Q a0 a1 a2) : Go d MX2_refine 2 [some (vR a0), some (vR a1), some (vI a2), none, none, none, none] [] S F G Q := by
  unfold V_X2_refine_2 at h
  refine go_iload_n (show decode cX2_refine 2 = .ok (.iload_n 2, 1) by decide +kernel) (by rfl) ?_
  refine go_aload_n (show decode cX2_refine 3 = .ok (.aload_n 1, 1) by decide +kernel) (by rfl) ?_
  obtain ⟨q1, h⟩ := h
  refine go_alen (show decode cX2_refine 4 = .ok (.arraylength, 1) by decide +kernel) (by omega) ?_
  obtain ⟨ht, hf⟩ := h
  refine go_icmpge (tgt := 111) (show decode cX2_refine 5 = .ok (.if_icmp .ge 106, 3) by decide +kernel) (by decide) (fun hc => ?_) (fun hc => ?_)
  · have h := ht hc
    exact go_vret (show decode cX2_refine 111 = .ok (.return_, 1) by decide +kernel) rfl h
  · have h := hf hc
    refine go_aload_n (show decode cX2_refine 8 = .ok (.aload_n 0, 1) by decide +kernel) (by rfl) ?_
    obtain ⟨q2, h⟩ := h
    refine go_getR (show decode cX2_refine 9 = .ok (.getfield 18, 3) by decide +kernel) fl_X2_18 rfl q2 ?_
    obtain ⟨q3, h⟩ := h
    refine go_getR (show decode cX2_refine 12 = .ok (.getfield 155, 3) by decide +kernel) fl_X2_155 rfl q3 ?_
    obtain ⟨q4, h⟩ := h
    refine go_getI (show decode cX2_refine 15 = .ok (.getfield 197, 3) by decide +kernel) fl_X2_197 (Or.inl rfl) q4 ?_
    refine go_iconst (show decode cX2_refine 18 = .ok (.iconst 1, 1) by decide +kernel) (by decide) ?_
    obtain ⟨q5, h⟩ := h
    refine go_isub (show decode cX2_refine 19 = .ok (.isub, 1) by decide +kernel) q5 ?_
    obtain ⟨x6, x6e⟩ : ∃ x6 : Int, x6 = (F (sR S (sR S a0 1) 1) 1) - 1 := ⟨_, rfl⟩
    have h := h x6 x6e
    rw [← x6e]
    refine go_istore_n (show decode cX2_refine 20 = .ok (.istore_n 3, 1) by decide +kernel) (by decide) ?_
    show Go d MX2_refine 21 [some (vR a0), some (vR a1), some (vI a2), some (vI x6), none, none, none] [] S F G Q
    exact h
def V_X2_refine_0 (d : Nat) (S : AS) (F : AF) (G : AG) (Q : AQ) (a0 : Nat) (a1 : Nat) : Prop :=
  Go d MX2_refine 2 [some (vR a0), some (vR a1), some (vI 0), none, none, none, none] [] S F G Q
theorem R_X2_refine_0 {d : Nat} {S : AS} {F : AF} {G : AG} {Q : AQ} {a0 : Nat} {a1 : Nat} (h : V_X2_refine_0 d S F G Q a0 a1) : Go d MX2_refine 0 [some (vR a0), some (vR a1), none, none, none, none, none] [] S F G Q := by
  unfold V_X2_refine_0 at h
  refine go_iconst (show decode cX2_refine 0 = .ok (.iconst 0, 1) by decide +kernel) (by decide) ?_
  refine go_istore_n (show decode cX2_refine 1 = .ok (.istore_n 2, 1) by decide +kernel) (by decide) ?_
  show Go d MX2_refine 2 [some (vR a0), some (vR a1), some (vI 0), none, none, none, none] [] S F G Q
  exact h
def V_X2_savedAt_0 (d : Nat) (S : AS) (F : AF) (G : AG) (Q : AQ) (a0 : Nat) (a1 : Int) : Prop :=
  ((a1 < 0) →
    Q (some (vR 0)) S F G) ∧
  ((¬ a1 < 0) →
    (sK S a0 = 2) ∧
    ((F a0 8 ≤ a1) →
      Q (some (vR 0)) S F G) ∧
    ((¬ F a0 8 ≤ a1) →
      (sK S (sR S a0 6) = 25) ∧
      (((sN S (sR S a0 6) : Int) ≤ a1) →
        Q (some (vR 0)) S F G) ∧
      ((¬ (sN S (sR S a0 6) : Int) ≤ a1) →
        ((0 : Int) ≤ a1) ∧
        ((a1 : Int) < (sN S (sR S a0 6) : Int)) ∧
        Q (some (vR (sR S (sR S a0 6) (Int.toNat a1)))) S F G)))
theorem R_X2_savedAt_0 {d : Nat} {S : AS} {F : AF} {G : AG} {Q : AQ} {a0 : Nat} {a1 : Int} (h : V_X2_savedAt_0 d S F G Q a0 a1) : Go d MX2_savedAt 0 [some (vR a0), some (vI a1)] [] S F G Q := by
  unfold V_X2_savedAt_0 at h
  refine go_iload_n (show decode cX2_savedAt 0 = .ok (.iload_n 1, 1) by decide +kernel) (by rfl) ?_
  obtain ⟨ht, hf⟩ := h
  refine go_iflt (tgt := 30) (show decode cX2_savedAt 1 = .ok (.ifCond .lt 29, 3) by decide +kernel) (by decide) (fun hc => ?_) (fun hc => ?_)
  · have h := ht hc
    refine go_null (show decode cX2_savedAt 30 = .ok (.aconst_null, 1) by decide +kernel) ?_
    exact go_aret (show decode cX2_savedAt 31 = .ok (.areturn, 1) by decide +kernel) rfl h
  · have h := hf hc
    refine go_iload_n (show decode cX2_savedAt 4 = .ok (.iload_n 1, 1) by decide +kernel) (by rfl) ?_
    refine go_aload_n (show decode cX2_savedAt 5 = .ok (.aload_n 0, 1) by decide +kernel) (by rfl) ?_
    obtain ⟨q1, h⟩ := h
    refine go_getI (show decode cX2_savedAt 6 = .ok (.getfield 60, 3) by decide +kernel) fl_X2_60 (Or.inl rfl) q1 ?_
    obtain ⟨ht, hf⟩ := h
    refine go_icmpge (tgt := 30) (show decode cX2_savedAt 9 = .ok (.if_icmp .ge 21, 3) by decide +kernel) (by decide) (fun hc => ?_) (fun hc => ?_)
    · have h := ht hc
      refine go_null (show decode cX2_savedAt 30 = .ok (.aconst_null, 1) by decide +kernel) ?_
      exact go_aret (show decode cX2_savedAt 31 = .ok (.areturn, 1) by decide +kernel) rfl h
    · have h := hf hc
      refine go_iload_n (show decode cX2_savedAt 12 = .ok (.iload_n 1, 1) by decide +kernel) (by rfl) ?_
      refine go_aload_n (show decode cX2_savedAt 13 = .ok (.aload_n 0, 1) by decide +kernel) (by rfl) ?_
      refine go_getR (show decode cX2_savedAt 14 = .ok (.getfield 43, 3) by decide +kernel) fl_X2_43 rfl q1 ?_
      obtain ⟨q2, h⟩ := h
      refine go_alen (show decode cX2_savedAt 17 = .ok (.arraylength, 1) by decide +kernel) (by omega) ?_
      obtain ⟨ht, hf⟩ := h
      refine go_icmpge (tgt := 30) (show decode cX2_savedAt 18 = .ok (.if_icmp .ge 12, 3) by decide +kernel) (by decide) (fun hc => ?_) (fun hc => ?_)
      · have h := ht hc
        refine go_null (show decode cX2_savedAt 30 = .ok (.aconst_null, 1) by decide +kernel) ?_
        exact go_aret (show decode cX2_savedAt 31 = .ok (.areturn, 1) by decide +kernel) rfl h
      · have h := hf hc
        refine go_aload_n (show decode cX2_savedAt 21 = .ok (.aload_n 0, 1) by decide +kernel) (by rfl) ?_
        refine go_getR (show decode cX2_savedAt 22 = .ok (.getfield 43, 3) by decide +kernel) fl_X2_43 rfl q1 ?_
        refine go_iload_n (show decode cX2_savedAt 25 = .ok (.iload_n 1, 1) by decide +kernel) (by rfl) ?_
        obtain ⟨q3, h⟩ := h
        obtain ⟨q4, h⟩ := h
        refine go_aaload (show decode cX2_savedAt 26 = .ok (.aaload, 1) by decide +kernel) (Or.inr q2) q3 q4 ?_
        refine go_goto (tgt := 31) (show decode cX2_savedAt 27 = .ok (.goto 4, 3) by decide +kernel) (by decide) ?_
        exact go_aret (show decode cX2_savedAt 31 = .ok (.areturn, 1) by decide +kernel) rfl h
def V_X2_fill_72 (d : Nat) (S : AS) (F : AF) (G : AG) (Q : AQ) (a0 : Nat) (a1 : Int) (a2 : Int) (a3 : Int) (a4 : Int) (a5 : Int) (a7 : Int) (a8 : Int) (a9 : Int) (a10 : Int) : Prop :=
  ((a7 < a10) →
    (r32 (a9 + 1)) ∧
    Go d MX2_fill 52 [some (vR a0), some (vI a1), some (vI a2), some (vI a3), some (vI a4), some (vJ a5), none, some (vI a7), some (vI a8), some (vI (a9 + 1)), none] [] S F G Q) ∧
  ((¬ a7 < a10) →
    (sK S a0 = 2) ∧
    (r32 (48 * a9)) ∧
    (r32 ((48 * a9) + a10)) ∧
    (sK S (sR S a0 4) = 21) ∧
    ((0 : Int) ≤ (48 * a9) + a10) ∧
    (((48 * a9) + a10 : Int) < (sN S (sR S a0 4) : Int)) ∧
    ∀ G8 : AG, G8 = gu G (sR S a0 4) ((48 * a9) + a10) a5 →
    (r32 (a10 + 1)) ∧
    Go d MX2_fill 72 [some (vR a0), some (vI a1), some (vI a2), some (vI a3), some (vI a4), some (vJ a5), none, some (vI a7), some (vI a8), some (vI a9), some (vI (a10 + 1))] [] S F G8 Q)
theorem R_X2_fill_72 {d : Nat} {S : AS} {F : AF} {G : AG} {Q : AQ} {a0 : Nat} {a1 : Int} {a2 : Int} {a3 : Int} {a4 : Int} {a5 : Int} {a7 : Int} {a8 : Int} {a9 : Int} {a10 : Int} (h : V_X2_fill_72 d S F G Q a0 a1 a2 a3 a4 a5 a7 a8 a9 a10) : Go d MX2_fill 72 [some (vR a0), some (vI a1), some (vI a2), some (vI a3), some (vI a4), some (vJ a5), none, some (vI a7), some (vI a8), some (vI a9), some (vI a10)] [] S F G Q := by
  unfold V_X2_fill_72 at h
  refine go_iload (show decode cX2_fill 72 = .ok (.iload 10, 2) by decide +kernel) (by rfl) ?_
  refine go_iload (show decode cX2_fill 74 = .ok (.iload 7, 2) by decide +kernel) (by rfl) ?_
  obtain ⟨ht, hf⟩ := h
  refine go_icmpgt (tgt := 100) (show decode cX2_fill 76 = .ok (.if_icmp .gt 24, 3) by decide +kernel) (by decide) (fun hc => ?_) (fun hc => ?_)
  · have h := ht hc
    obtain ⟨q1, h⟩ := h
    refine go_iinc (show decode cX2_fill 100 = .ok (.iinc 9 1, 3) by decide +kernel) (by rfl) q1 (by decide) ?_
    show Go d MX2_fill 103 [some (vR a0), some (vI a1), some (vI a2), some (vI a3), some (vI a4), some (vJ a5), none, some (vI a7), some (vI a8), some (vI (a9 + 1)), some (vI a10)] [] S F G Q
    refine go_goto (tgt := 52) (show decode cX2_fill 103 = .ok (.goto (-51), 3) by decide +kernel) (by decide) ?_
    refine go_clr 10 ?_
    exact h
  · have h := hf hc
    refine go_aload_n (show decode cX2_fill 79 = .ok (.aload_n 0, 1) by decide +kernel) (by rfl) ?_
    obtain ⟨q2, h⟩ := h
    refine go_getR (show decode cX2_fill 80 = .ok (.getfield 32, 3) by decide +kernel) fl_X2_32 rfl q2 ?_
    refine go_bipush (show decode cX2_fill 83 = .ok (.bipush 48, 2) by decide +kernel) (by decide) ?_
    refine go_iload (show decode cX2_fill 85 = .ok (.iload 9, 2) by decide +kernel) (by rfl) ?_
    obtain ⟨q3, h⟩ := h
    refine go_imul (show decode cX2_fill 87 = .ok (.imul, 1) by decide +kernel) q3 ?_
    refine go_iload (show decode cX2_fill 88 = .ok (.iload 10, 2) by decide +kernel) (by rfl) ?_
    obtain ⟨q4, h⟩ := h
    refine go_iadd (show decode cX2_fill 90 = .ok (.iadd, 1) by decide +kernel) q4 ?_
    refine go_lload (show decode cX2_fill 91 = .ok (.lload 5, 2) by decide +kernel) (by rfl) ?_
    obtain ⟨q5, h⟩ := h
    obtain ⟨q6, h⟩ := h
    obtain ⟨q7, h⟩ := h
    refine go_lastore (show decode cX2_fill 93 = .ok (.lastore, 1) by decide +kernel) q5 q6 q7  ?_
    obtain ⟨G8, G8e⟩ : ∃ G8 : AG, G8 = gu G (sR S a0 4) ((48 * a9) + a10) a5 := ⟨_, rfl⟩
    have h := h G8 G8e
    rw [← G8e]
    obtain ⟨q9, h⟩ := h
    refine go_iinc (show decode cX2_fill 94 = .ok (.iinc 10 1, 3) by decide +kernel) (by rfl) q9 (by decide) ?_
    show Go d MX2_fill 97 [some (vR a0), some (vI a1), some (vI a2), some (vI a3), some (vI a4), some (vJ a5), none, some (vI a7), some (vI a8), some (vI a9), some (vI (a10 + 1))] [] S F G8 Q
    refine go_goto (tgt := 72) (show decode cX2_fill 97 = .ok (.goto (-25), 3) by decide +kernel) (by decide) ?_
    exact h
def V_X2_fill_52 (d : Nat) (S : AS) (F : AF) (G : AG) (Q : AQ) (a0 : Nat) (a1 : Int) (a2 : Int) (a3 : Int) (a4 : Int) (a5 : Int) (a7 : Int) (a8 : Int) (a9 : Int) : Prop :=
  ((a8 < a9) →
    Q none S F G) ∧
  ((¬ a8 < a9) →
    (sK S a0 = 2) ∧
    (sK S (sR S a0 0) = 0) ∧
    (1 ≤ d) ∧
    (sK S (sR S (sR S a0 0) 1) = 1) ∧
    Ok (d - 1) MX1_bandOf [vR (sR S (sR S a0 0) 1), vI a1] S F G (fun w4 S5 F6 G7 =>
    ∃ z9 : Int, w4 = some (vI z9) ∧
    Go d MX2_fill 72 [some (vR a0), some (vI a1), some (vI a2), some (vI a3), some (vI a4), some (vJ a5), none, some (vI a7), some (vI a8), some (vI a9), some (vI z9)] [] S5 F6 G7 Q))
theorem R_X2_fill_52 {d : Nat} {S : AS} {F : AF} {G : AG} {Q : AQ} {a0 : Nat} {a1 : Int} {a2 : Int} {a3 : Int} {a4 : Int} {a5 : Int} {a7 : Int} {a8 : Int} {a9 : Int} (h : V_X2_fill_52 d S F G Q a0 a1 a2 a3 a4 a5 a7 a8 a9) : Go d MX2_fill 52 [some (vR a0), some (vI a1), some (vI a2), some (vI a3), some (vI a4), some (vJ a5), none, some (vI a7), some (vI a8), some (vI a9), none] [] S F G Q := by
  unfold V_X2_fill_52 at h
  refine go_iload (show decode cX2_fill 52 = .ok (.iload 9, 2) by decide +kernel) (by rfl) ?_
  refine go_iload (show decode cX2_fill 54 = .ok (.iload 8, 2) by decide +kernel) (by rfl) ?_
  obtain ⟨ht, hf⟩ := h
  refine go_icmpgt (tgt := 106) (show decode cX2_fill 56 = .ok (.if_icmp .gt 50, 3) by decide +kernel) (by decide) (fun hc => ?_) (fun hc => ?_)
  · have h := ht hc
    exact go_vret (show decode cX2_fill 106 = .ok (.return_, 1) by decide +kernel) rfl h
  · have h := hf hc
    refine go_aload_n (show decode cX2_fill 59 = .ok (.aload_n 0, 1) by decide +kernel) (by rfl) ?_
    obtain ⟨q1, h⟩ := h
    refine go_getR (show decode cX2_fill 60 = .ok (.getfield 12, 3) by decide +kernel) fl_X2_12 rfl q1 ?_
    obtain ⟨q2, h⟩ := h
    refine go_getR (show decode cX2_fill 63 = .ok (.getfield 155, 3) by decide +kernel) fl_X2_155 rfl q2 ?_
    refine go_iload_n (show decode cX2_fill 66 = .ok (.iload_n 1, 1) by decide +kernel) (by rfl) ?_
    obtain ⟨q3, h⟩ := h
    obtain ⟨q8, h⟩ := h
    refine go_callV (d2 := d - 1) (M2 := MX1_bandOf) (n := 1) (ci := 1) (av := [vI a1]) (st := []) (show decode cX2_fill 67 = .ok (.invokevirtual 99, 3) by decide +kernel) ml_X2_99 mt_X1_bandOf min_X1_bandOf mse_X1_bandOf (by decide) q8 rfl (Nat.le_of_ble_eq_true rfl) (by omega) (ok_mono h (fun w4 S5 F6 G7 h => ?_))
    obtain ⟨z9, e9, h⟩ := h
    subst e9
    show Go d MX2_fill 70 [some (vR a0), some (vI a1), some (vI a2), some (vI a3), some (vI a4), some (vJ a5), none, some (vI a7), some (vI a8), some (vI a9), none] [vI z9] S5 F6 G7 Q
    refine go_istore (show decode cX2_fill 70 = .ok (.istore 10, 2) by decide +kernel) (by decide) ?_
    show Go d MX2_fill 72 [some (vR a0), some (vI a1), some (vI a2), some (vI a3), some (vI a4), some (vJ a5), none, some (vI a7), some (vI a8), some (vI a9), some (vI z9)] [] S5 F6 G7 Q
    exact h
def V_X2_fill_0 (d : Nat) (S : AS) (F : AF) (G : AG) (Q : AQ) (a0 : Nat) (a1 : Int) (a2 : Int) (a3 : Int) (a4 : Int) (a5 : Int) : Prop :=
  ((a3 < a1) →
    Q none S F G) ∧
  ((¬ a3 < a1) →
    ((a2 ≤ a4) →
      (sK S a0 = 2) ∧
      (sK S (sR S a0 0) = 0) ∧
      (1 ≤ d) ∧
      (sK S (sR S (sR S a0 0) 1) = 1) ∧
      Ok (d - 1) MX1_bandOf [vR (sR S (sR S a0 0) 1), vI a3] S F G (fun w4 S5 F6 G7 =>
      ∃ z9 : Int, w4 = some (vI z9) ∧
      (sK S5 a0 = 2) ∧
      (sK S5 (sR S5 a0 1) = 0) ∧
      (sK S5 (sR S5 (sR S5 a0 1) 1) = 1) ∧
      Ok (d - 1) MX1_bandOf [vR (sR S5 (sR S5 a0 1) 1), vI a4] S5 F6 G7 (fun w12 S13 F14 G15 =>
      ∃ z17 : Int, w12 = some (vI z17) ∧
      (sK S13 a0 = 2) ∧
      (sK S13 (sR S13 a0 1) = 0) ∧
      (sK S13 (sR S13 (sR S13 a0 1) 1) = 1) ∧
      Ok (d - 1) MX1_bandOf [vR (sR S13 (sR S13 a0 1) 1), vI a2] S13 F14 G15 (fun w20 S21 F22 G23 =>
      ∃ z25 : Int, w20 = some (vI z25) ∧
      Go d MX2_fill 52 [some (vR a0), some (vI a1), some (vI a2), some (vI a3), some (vI a4), some (vJ a5), none, some (vI z9), some (vI z17), some (vI z25), none] [] S21 F22 G23 Q)))) ∧
    ((¬ a2 ≤ a4) →
      Q none S F G))
theorem R_X2_fill_0 {d : Nat} {S : AS} {F : AF} {G : AG} {Q : AQ} {a0 : Nat} {a1 : Int} {a2 : Int} {a3 : Int} {a4 : Int} {a5 : Int} (h : V_X2_fill_0 d S F G Q a0 a1 a2 a3 a4 a5) : Go d MX2_fill 0 [some (vR a0), some (vI a1), some (vI a2), some (vI a3), some (vI a4), some (vJ a5), none, none, none, none, none] [] S F G Q := by
  unfold V_X2_fill_0 at h
  refine go_iload_n (show decode cX2_fill 0 = .ok (.iload_n 1, 1) by decide +kernel) (by rfl) ?_
  refine go_iload_n (show decode cX2_fill 1 = .ok (.iload_n 3, 1) by decide +kernel) (by rfl) ?_
  obtain ⟨ht, hf⟩ := h
  refine go_icmpgt (tgt := 11) (show decode cX2_fill 2 = .ok (.if_icmp .gt 9, 3) by decide +kernel) (by decide) (fun hc => ?_) (fun hc => ?_)
  · have h := ht hc
    exact go_vret (show decode cX2_fill 11 = .ok (.return_, 1) by decide +kernel) rfl h
  · have h := hf hc
    refine go_iload_n (show decode cX2_fill 5 = .ok (.iload_n 2, 1) by decide +kernel) (by rfl) ?_
    refine go_iload (show decode cX2_fill 6 = .ok (.iload 4, 2) by decide +kernel) (by rfl) ?_
    obtain ⟨ht, hf⟩ := h
    refine go_icmple (tgt := 12) (show decode cX2_fill 8 = .ok (.if_icmp .le 4, 3) by decide +kernel) (by decide) (fun hc => ?_) (fun hc => ?_)
    · have h := ht hc
      refine go_aload_n (show decode cX2_fill 12 = .ok (.aload_n 0, 1) by decide +kernel) (by rfl) ?_
      obtain ⟨q1, h⟩ := h
      refine go_getR (show decode cX2_fill 13 = .ok (.getfield 12, 3) by decide +kernel) fl_X2_12 rfl q1 ?_
      obtain ⟨q2, h⟩ := h
      refine go_getR (show decode cX2_fill 16 = .ok (.getfield 155, 3) by decide +kernel) fl_X2_155 rfl q2 ?_
      refine go_iload_n (show decode cX2_fill 19 = .ok (.iload_n 3, 1) by decide +kernel) (by rfl) ?_
      obtain ⟨q3, h⟩ := h
      obtain ⟨q8, h⟩ := h
      refine go_callV (d2 := d - 1) (M2 := MX1_bandOf) (n := 1) (ci := 1) (av := [vI a3]) (st := []) (show decode cX2_fill 20 = .ok (.invokevirtual 99, 3) by decide +kernel) ml_X2_99 mt_X1_bandOf min_X1_bandOf mse_X1_bandOf (by decide) q8 rfl (Nat.le_of_ble_eq_true rfl) (by omega) (ok_mono h (fun w4 S5 F6 G7 h => ?_))
      obtain ⟨z9, e9, h⟩ := h
      subst e9
      show Go d MX2_fill 23 [some (vR a0), some (vI a1), some (vI a2), some (vI a3), some (vI a4), some (vJ a5), none, none, none, none, none] [vI z9] S5 F6 G7 Q
      refine go_istore (show decode cX2_fill 23 = .ok (.istore 7, 2) by decide +kernel) (by decide) ?_
      show Go d MX2_fill 25 [some (vR a0), some (vI a1), some (vI a2), some (vI a3), some (vI a4), some (vJ a5), none, some (vI z9), none, none, none] [] S5 F6 G7 Q
      refine go_aload_n (show decode cX2_fill 25 = .ok (.aload_n 0, 1) by decide +kernel) (by rfl) ?_
      obtain ⟨q10, h⟩ := h
      refine go_getR (show decode cX2_fill 26 = .ok (.getfield 18, 3) by decide +kernel) fl_X2_18 rfl q10 ?_
      obtain ⟨q11, h⟩ := h
      refine go_getR (show decode cX2_fill 29 = .ok (.getfield 155, 3) by decide +kernel) fl_X2_155 rfl q11 ?_
      refine go_iload (show decode cX2_fill 32 = .ok (.iload 4, 2) by decide +kernel) (by rfl) ?_
      obtain ⟨q16, h⟩ := h
      refine go_callV (d2 := d - 1) (M2 := MX1_bandOf) (n := 1) (ci := 1) (av := [vI a4]) (st := []) (show decode cX2_fill 34 = .ok (.invokevirtual 99, 3) by decide +kernel) ml_X2_99 mt_X1_bandOf min_X1_bandOf mse_X1_bandOf (by decide) q16 rfl (Nat.le_of_ble_eq_true rfl) (by omega) (ok_mono h (fun w12 S13 F14 G15 h => ?_))
      obtain ⟨z17, e9, h⟩ := h
      subst e9
      show Go d MX2_fill 37 [some (vR a0), some (vI a1), some (vI a2), some (vI a3), some (vI a4), some (vJ a5), none, some (vI z9), none, none, none] [vI z17] S13 F14 G15 Q
      refine go_istore (show decode cX2_fill 37 = .ok (.istore 8, 2) by decide +kernel) (by decide) ?_
      show Go d MX2_fill 39 [some (vR a0), some (vI a1), some (vI a2), some (vI a3), some (vI a4), some (vJ a5), none, some (vI z9), some (vI z17), none, none] [] S13 F14 G15 Q
      refine go_aload_n (show decode cX2_fill 39 = .ok (.aload_n 0, 1) by decide +kernel) (by rfl) ?_
      obtain ⟨q18, h⟩ := h
      refine go_getR (show decode cX2_fill 40 = .ok (.getfield 18, 3) by decide +kernel) fl_X2_18 rfl q18 ?_
      obtain ⟨q19, h⟩ := h
      refine go_getR (show decode cX2_fill 43 = .ok (.getfield 155, 3) by decide +kernel) fl_X2_155 rfl q19 ?_
      refine go_iload_n (show decode cX2_fill 46 = .ok (.iload_n 2, 1) by decide +kernel) (by rfl) ?_
      obtain ⟨q24, h⟩ := h
      refine go_callV (d2 := d - 1) (M2 := MX1_bandOf) (n := 1) (ci := 1) (av := [vI a2]) (st := []) (show decode cX2_fill 47 = .ok (.invokevirtual 99, 3) by decide +kernel) ml_X2_99 mt_X1_bandOf min_X1_bandOf mse_X1_bandOf (by decide) q24 rfl (Nat.le_of_ble_eq_true rfl) (by omega) (ok_mono h (fun w20 S21 F22 G23 h => ?_))
      obtain ⟨z25, e9, h⟩ := h
      subst e9
      show Go d MX2_fill 50 [some (vR a0), some (vI a1), some (vI a2), some (vI a3), some (vI a4), some (vJ a5), none, some (vI z9), some (vI z17), none, none] [vI z25] S21 F22 G23 Q
      refine go_istore (show decode cX2_fill 50 = .ok (.istore 9, 2) by decide +kernel) (by decide) ?_
      show Go d MX2_fill 52 [some (vR a0), some (vI a1), some (vI a2), some (vI a3), some (vI a4), some (vJ a5), none, some (vI z9), some (vI z17), some (vI z25), none] [] S21 F22 G23 Q
      exact h
    · have h := hf hc
      exact go_vret (show decode cX2_fill 11 = .ok (.return_, 1) by decide +kernel) rfl h
def V_X2_number_0 (d : Nat) (S : AS) (F : AF) (G : AG) (Q : AQ) (a0 : Nat) (a1 : Int) (a2 : Int) : Prop :=
  (sK S a0 = 2) ∧
  (1 ≤ d) ∧
  (sK S (sR S a0 2) = 3) ∧
  Ok (d - 1) MX3_width [vR (sR S a0 2)] S F G (fun w3 S4 F5 G6 =>
  ∃ z8 : Int, w3 = some (vI z8) ∧
  (r64 (z8 * a2)) ∧
  (r64 ((z8 * a2) + a1)) ∧
  Q (some (vJ ((z8 * a2) + a1))) S4 F5 G6)
theorem R_X2_number_0 {d : Nat} {S : AS} {F : AF} {G : AG} {Q : AQ} {a0 : Nat} {a1 : Int} {a2 : Int} (h : V_X2_number_0 d S F G Q a0 a1 a2) : Go d MX2_number 0 [some (vR a0), some (vI a1), some (vI a2)] [] S F G Q := by
  unfold V_X2_number_0 at h
  refine go_aload_n (show decode cX2_number 0 = .ok (.aload_n 0, 1) by decide +kernel) (by rfl) ?_
  obtain ⟨q1, h⟩ := h
  refine go_getR (show decode cX2_number 1 = .ok (.getfield 24, 3) by decide +kernel) fl_X2_24 rfl q1 ?_
  obtain ⟨q2, h⟩ := h
  obtain ⟨q7, h⟩ := h
  refine go_callV (d2 := d - 1) (M2 := MX3_width) (n := 0) (ci := 3) (av := []) (st := []) (show decode cX2_number 4 = .ok (.invokevirtual 86, 3) by decide +kernel) ml_X2_86 mt_X3_width min_X3_width mse_X3_width (by decide) q7 rfl (Nat.le_of_ble_eq_true rfl) (by omega) (ok_mono h (fun w3 S4 F5 G6 h => ?_))
  obtain ⟨z8, e9, h⟩ := h
  subst e9
  show Go d MX2_number 7 [some (vR a0), some (vI a1), some (vI a2)] [vI z8] S4 F5 G6 Q
  refine go_i2l (show decode cX2_number 7 = .ok (.i2l, 1) by decide +kernel) ?_
  refine go_iload_n (show decode cX2_number 8 = .ok (.iload_n 2, 1) by decide +kernel) (by rfl) ?_
  refine go_i2l (show decode cX2_number 9 = .ok (.i2l, 1) by decide +kernel) ?_
  obtain ⟨q9, h⟩ := h
  refine go_lmul (show decode cX2_number 10 = .ok (.lmul, 1) by decide +kernel) q9 ?_
  refine go_iload_n (show decode cX2_number 11 = .ok (.iload_n 1, 1) by decide +kernel) (by rfl) ?_
  refine go_i2l (show decode cX2_number 12 = .ok (.i2l, 1) by decide +kernel) ?_
  obtain ⟨q10, h⟩ := h
  refine go_ladd (show decode cX2_number 13 = .ok (.ladd, 1) by decide +kernel) q10 ?_
  exact go_lret (show decode cX2_number 14 = .ok (.lreturn, 1) by decide +kernel) rfl h
def V_X2_bring_147 (d : Nat) (S : AS) (F : AF) (G : AG) (Q : AQ) (a0 : Nat) (a1 : Int) (a2 : Nat) (a3 : Int) (a4 : Int) (a5 : Int) (a6 : Int) (a7 : Int) (a8 : Int) : Prop :=
  (r32 (a6 + 1)) ∧
  Go d MX2_bring 70 [some (vR a0), some (vI a1), some (vR a2), some (vI a3), some (vI a4), some (vI a5), some (vI (a6 + 1)), none, none] [] S F G Q
theorem R_X2_bring_147 {d : Nat} {S : AS} {F : AF} {G : AG} {Q : AQ} {a0 : Nat} {a1 : Int} {a2 : Nat} {a3 : Int} {a4 : Int} {a5 : Int} {a6 : Int} {a7 : Int} {a8 : Int} (h : V_X2_bring_147 d S F G Q a0 a1 a2 a3 a4 a5 a6 a7 a8) : Go d MX2_bring 147 [some (vR a0), some (vI a1), some (vR a2), some (vI a3), some (vI a4), some (vI a5), some (vI a6), some (vI a7), some (vI a8)] [] S F G Q := by
  unfold V_X2_bring_147 at h
  obtain ⟨q1, h⟩ := h
  refine go_iinc (show decode cX2_bring 147 = .ok (.iinc 6 1, 3) by decide +kernel) (by rfl) q1 (by decide) ?_
  show Go d MX2_bring 150 [some (vR a0), some (vI a1), some (vR a2), some (vI a3), some (vI a4), some (vI a5), some (vI (a6 + 1)), some (vI a7), some (vI a8)] [] S F G Q
  refine go_goto (tgt := 70) (show decode cX2_bring 150 = .ok (.goto (-80), 3) by decide +kernel) (by decide) ?_
  refine go_clr 7 ?_
  refine go_clr 8 ?_
  exact h
def V_X2_bring_70 (d : Nat) (S : AS) (F : AF) (G : AG) (Q : AQ) (a0 : Nat) (a1 : Int) (a2 : Nat) (a3 : Int) (a4 : Int) (a5 : Int) (a6 : Int) : Prop :=
  ((a3 < a6) →
    (r32 (a5 + 1)) ∧
    Go d MX2_bring 47 [some (vR a0), some (vI a1), some (vR a2), some (vI a3), some (vI a4), some (vI (a5 + 1)), none, none, none] [] S F G Q) ∧
  ((¬ a3 < a6) →
    (sK S a0 = 2) ∧
    (sK S (sR S a0 0) = 0) ∧
    (sK S (sR S (sR S a0 0) 3) = 20) ∧
    ((0 : Int) ≤ a6) ∧
    ((a6 : Int) < (sN S (sR S (sR S a0 0) 3) : Int)) ∧
    ∀ x7 : Int, x7 = G (sR S (sR S a0 0) 3) a6 →
    (sK S (sR S a0 1) = 0) ∧
    (sK S (sR S (sR S a0 1) 3) = 20) ∧
    ((0 : Int) ≤ a5) ∧
    ((a5 : Int) < (sN S (sR S (sR S a0 1) 3) : Int)) ∧
    ∀ x12 : Int, x12 = G (sR S (sR S a0 1) 3) a5 →
    ((x7 = -1) →
      V_X2_bring_147 d S F G Q a0 a1 a2 a3 a4 a5 a6 x7 x12) ∧
    ((¬ x7 = -1) →
      ((x12 = -1) →
        V_X2_bring_147 d S F G Q a0 a1 a2 a3 a4 a5 a6 x7 x12) ∧
      ((¬ x12 = -1) →
        (r32 (48 * a5)) ∧
        (r32 ((48 * a5) + a6)) ∧
        (sK S (sR S a0 4) = 21) ∧
        ((0 : Int) ≤ (48 * a5) + a6) ∧
        (((48 * a5) + a6 : Int) < (sN S (sR S a0 4) : Int)) ∧
        (r32 (a1 * 2304)) ∧
        (r32 (48 * x12)) ∧
        (r32 ((a1 * 2304) + (48 * x12))) ∧
        (r32 (((a1 * 2304) + (48 * x12)) + x7)) ∧
        (sK S (sR S a0 3) = 21) ∧
        ((0 : Int) ≤ ((a1 * 2304) + (48 * x12)) + x7) ∧
        ((((a1 * 2304) + (48 * x12)) + x7 : Int) < (sN S (sR S a0 3) : Int)) ∧
        (r64 ((G (sR S a0 4) ((48 * a5) + a6)) + (G (sR S a0 3) (((a1 * 2304) + (48 * x12)) + x7)))) ∧
        ∀ G26 : AG, G26 = gu G (sR S a0 4) ((48 * a5) + a6) ((G (sR S a0 4) ((48 * a5) + a6)) + (G (sR S a0 3) (((a1 * 2304) + (48 * x12)) + x7))) →
        V_X2_bring_147 d S F G26 Q a0 a1 a2 a3 a4 a5 a6 x7 x12)))
theorem R_X2_bring_70 {d : Nat} {S : AS} {F : AF} {G : AG} {Q : AQ} {a0 : Nat} {a1 : Int} {a2 : Nat} {a3 : Int} {a4 : Int} {a5 : Int} {a6 : Int} (h : V_X2_bring_70 d S F G Q a0 a1 a2 a3 a4 a5 a6) : Go d MX2_bring 70 [some (vR a0), some (vI a1), some (vR a2), some (vI a3), some (vI a4), some (vI a5), some (vI a6), none, none] [] S F G Q := by
  unfold V_X2_bring_70 at h
  refine go_iload (show decode cX2_bring 70 = .ok (.iload 6, 2) by decide +kernel) (by rfl) ?_
  refine go_iload_n (show decode cX2_bring 72 = .ok (.iload_n 3, 1) by decide +kernel) (by rfl) ?_
  obtain ⟨ht, hf⟩ := h
  refine go_icmpgt (tgt := 153) (show decode cX2_bring 73 = .ok (.if_icmp .gt 80, 3) by decide +kernel) (by decide) (fun hc => ?_) (fun hc => ?_)
  · have h := ht hc
    obtain ⟨q1, h⟩ := h
    refine go_iinc (show decode cX2_bring 153 = .ok (.iinc 5 1, 3) by decide +kernel) (by rfl) q1 (by decide) ?_
    show Go d MX2_bring 156 [some (vR a0), some (vI a1), some (vR a2), some (vI a3), some (vI a4), some (vI (a5 + 1)), some (vI a6), none, none] [] S F G Q
    refine go_goto (tgt := 47) (show decode cX2_bring 156 = .ok (.goto (-109), 3) by decide +kernel) (by decide) ?_
    refine go_clr 6 ?_
    exact h
  · have h := hf hc
    refine go_aload_n (show decode cX2_bring 76 = .ok (.aload_n 0, 1) by decide +kernel) (by rfl) ?_
    obtain ⟨q2, h⟩ := h
    refine go_getR (show decode cX2_bring 77 = .ok (.getfield 12, 3) by decide +kernel) fl_X2_12 rfl q2 ?_
    obtain ⟨q3, h⟩ := h
    refine go_getR (show decode cX2_bring 80 = .ok (.getfield 204, 3) by decide +kernel) fl_X2_204 rfl q3 ?_
    refine go_iload (show decode cX2_bring 83 = .ok (.iload 6, 2) by decide +kernel) (by rfl) ?_
    obtain ⟨q4, h⟩ := h
    obtain ⟨q5, h⟩ := h
    obtain ⟨q6, h⟩ := h
    refine go_iaload (show decode cX2_bring 85 = .ok (.iaload, 1) by decide +kernel) q4 q5 q6 ?_
    obtain ⟨x7, x7e⟩ : ∃ x7 : Int, x7 = G (sR S (sR S a0 0) 3) a6 := ⟨_, rfl⟩
    have h := h x7 x7e
    rw [← x7e]
    refine go_istore (show decode cX2_bring 86 = .ok (.istore 7, 2) by decide +kernel) (by decide) ?_
    show Go d MX2_bring 88 [some (vR a0), some (vI a1), some (vR a2), some (vI a3), some (vI a4), some (vI a5), some (vI a6), some (vI x7), none] [] S F G Q
    refine go_aload_n (show decode cX2_bring 88 = .ok (.aload_n 0, 1) by decide +kernel) (by rfl) ?_
    refine go_getR (show decode cX2_bring 89 = .ok (.getfield 18, 3) by decide +kernel) fl_X2_18 rfl q2 ?_
    obtain ⟨q8, h⟩ := h
    refine go_getR (show decode cX2_bring 92 = .ok (.getfield 204, 3) by decide +kernel) fl_X2_204 rfl q8 ?_
    refine go_iload (show decode cX2_bring 95 = .ok (.iload 5, 2) by decide +kernel) (by rfl) ?_
    obtain ⟨q9, h⟩ := h
    obtain ⟨q10, h⟩ := h
    obtain ⟨q11, h⟩ := h
    refine go_iaload (show decode cX2_bring 97 = .ok (.iaload, 1) by decide +kernel) q9 q10 q11 ?_
    obtain ⟨x12, x12e⟩ : ∃ x12 : Int, x12 = G (sR S (sR S a0 1) 3) a5 := ⟨_, rfl⟩
    have h := h x12 x12e
    rw [← x12e]
    refine go_istore (show decode cX2_bring 98 = .ok (.istore 8, 2) by decide +kernel) (by decide) ?_
    show Go d MX2_bring 100 [some (vR a0), some (vI a1), some (vR a2), some (vI a3), some (vI a4), some (vI a5), some (vI a6), some (vI x7), some (vI x12)] [] S F G Q
    refine go_iload (show decode cX2_bring 100 = .ok (.iload 7, 2) by decide +kernel) (by rfl) ?_
    refine go_iconst (show decode cX2_bring 102 = .ok (.iconst (-1), 1) by decide +kernel) (by decide) ?_
    obtain ⟨ht, hf⟩ := h
    refine go_icmpeq (tgt := 147) (show decode cX2_bring 103 = .ok (.if_icmp .eq 44, 3) by decide +kernel) (by decide) (fun hc => ?_) (fun hc => ?_)
    · have h := ht hc
      exact R_X2_bring_147 h
    · have h := hf hc
      refine go_iload (show decode cX2_bring 106 = .ok (.iload 8, 2) by decide +kernel) (by rfl) ?_
      refine go_iconst (show decode cX2_bring 108 = .ok (.iconst (-1), 1) by decide +kernel) (by decide) ?_
      obtain ⟨ht, hf⟩ := h
      refine go_icmpeq (tgt := 147) (show decode cX2_bring 109 = .ok (.if_icmp .eq 38, 3) by decide +kernel) (by decide) (fun hc => ?_) (fun hc => ?_)
      · have h := ht hc
        exact R_X2_bring_147 h
      · have h := hf hc
        refine go_aload_n (show decode cX2_bring 112 = .ok (.aload_n 0, 1) by decide +kernel) (by rfl) ?_
        refine go_getR (show decode cX2_bring 113 = .ok (.getfield 32, 3) by decide +kernel) fl_X2_32 rfl q2 ?_
        refine go_bipush (show decode cX2_bring 116 = .ok (.bipush 48, 2) by decide +kernel) (by decide) ?_
        refine go_iload (show decode cX2_bring 118 = .ok (.iload 5, 2) by decide +kernel) (by rfl) ?_
        obtain ⟨q13, h⟩ := h
        refine go_imul (show decode cX2_bring 120 = .ok (.imul, 1) by decide +kernel) q13 ?_
        refine go_iload (show decode cX2_bring 121 = .ok (.iload 6, 2) by decide +kernel) (by rfl) ?_
        obtain ⟨q14, h⟩ := h
        refine go_iadd (show decode cX2_bring 123 = .ok (.iadd, 1) by decide +kernel) q14 ?_
        refine go_dup2 (show decode cX2_bring 124 = .ok (.dup2, 1) by decide +kernel) ?_
        obtain ⟨q15, h⟩ := h
        obtain ⟨q16, h⟩ := h
        obtain ⟨q17, h⟩ := h
        refine go_laload (show decode cX2_bring 125 = .ok (.laload, 1) by decide +kernel) q15 q16 q17 ?_
        refine go_aload_n (show decode cX2_bring 126 = .ok (.aload_n 0, 1) by decide +kernel) (by rfl) ?_
        refine go_getR (show decode cX2_bring 127 = .ok (.getfield 28, 3) by decide +kernel) fl_X2_28 rfl q2 ?_
        refine go_iload_n (show decode cX2_bring 130 = .ok (.iload_n 1, 1) by decide +kernel) (by rfl) ?_
        refine go_sipush (show decode cX2_bring 131 = .ok (.sipush 2304, 3) by decide +kernel) (by decide) ?_
        obtain ⟨q18, h⟩ := h
        refine go_imul (show decode cX2_bring 134 = .ok (.imul, 1) by decide +kernel) q18 ?_
        refine go_bipush (show decode cX2_bring 135 = .ok (.bipush 48, 2) by decide +kernel) (by decide) ?_
        refine go_iload (show decode cX2_bring 137 = .ok (.iload 8, 2) by decide +kernel) (by rfl) ?_
        obtain ⟨q19, h⟩ := h
        refine go_imul (show decode cX2_bring 139 = .ok (.imul, 1) by decide +kernel) q19 ?_
        obtain ⟨q20, h⟩ := h
        refine go_iadd (show decode cX2_bring 140 = .ok (.iadd, 1) by decide +kernel) q20 ?_
        refine go_iload (show decode cX2_bring 141 = .ok (.iload 7, 2) by decide +kernel) (by rfl) ?_
        obtain ⟨q21, h⟩ := h
        refine go_iadd (show decode cX2_bring 143 = .ok (.iadd, 1) by decide +kernel) q21 ?_
        obtain ⟨q22, h⟩ := h
        obtain ⟨q23, h⟩ := h
        obtain ⟨q24, h⟩ := h
        refine go_laload (show decode cX2_bring 144 = .ok (.laload, 1) by decide +kernel) q22 q23 q24 ?_
        obtain ⟨q25, h⟩ := h
        refine go_ladd (show decode cX2_bring 145 = .ok (.ladd, 1) by decide +kernel) q25 ?_
        refine go_lastore (show decode cX2_bring 146 = .ok (.lastore, 1) by decide +kernel) q15 q16 q17  ?_
        obtain ⟨G26, G26e⟩ : ∃ G26 : AG, G26 = gu G (sR S a0 4) ((48 * a5) + a6) ((G (sR S a0 4) ((48 * a5) + a6)) + (G (sR S a0 3) (((a1 * 2304) + (48 * x12)) + x7))) := ⟨_, rfl⟩
        have h := h G26 G26e
        rw [← G26e]
        exact R_X2_bring_147 h
def V_X2_bring_47 (d : Nat) (S : AS) (F : AF) (G : AG) (Q : AQ) (a0 : Nat) (a1 : Int) (a2 : Nat) (a3 : Int) (a4 : Int) (a5 : Int) : Prop :=
  ((a4 < a5) →
    Q none S F G) ∧
  ((¬ a4 < a5) →
    (sK S a0 = 2) ∧
    (sK S (sR S a0 0) = 0) ∧
    (sK S a2 = 3) ∧
    (1 ≤ d) ∧
    (sK S (sR S (sR S a0 0) 1) = 1) ∧
    Ok (d - 1) MX1_bandOf [vR (sR S (sR S a0 0) 1), vI (F a2 0)] S F G (fun w5 S6 F7 G8 =>
    ∃ z10 : Int, w5 = some (vI z10) ∧
    Go d MX2_bring 70 [some (vR a0), some (vI a1), some (vR a2), some (vI a3), some (vI a4), some (vI a5), some (vI z10), none, none] [] S6 F7 G8 Q))
theorem R_X2_bring_47 {d : Nat} {S : AS} {F : AF} {G : AG} {Q : AQ} {a0 : Nat} {a1 : Int} {a2 : Nat} {a3 : Int} {a4 : Int} {a5 : Int} (h : V_X2_bring_47 d S F G Q a0 a1 a2 a3 a4 a5) : Go d MX2_bring 47 [some (vR a0), some (vI a1), some (vR a2), some (vI a3), some (vI a4), some (vI a5), none, none, none] [] S F G Q := by
  unfold V_X2_bring_47 at h
  refine go_iload (show decode cX2_bring 47 = .ok (.iload 5, 2) by decide +kernel) (by rfl) ?_
  refine go_iload (show decode cX2_bring 49 = .ok (.iload 4, 2) by decide +kernel) (by rfl) ?_
  obtain ⟨ht, hf⟩ := h
  refine go_icmpgt (tgt := 159) (show decode cX2_bring 51 = .ok (.if_icmp .gt 108, 3) by decide +kernel) (by decide) (fun hc => ?_) (fun hc => ?_)
  · have h := ht hc
    exact go_vret (show decode cX2_bring 159 = .ok (.return_, 1) by decide +kernel) rfl h
  · have h := hf hc
    refine go_aload_n (show decode cX2_bring 54 = .ok (.aload_n 0, 1) by decide +kernel) (by rfl) ?_
    obtain ⟨q1, h⟩ := h
    refine go_getR (show decode cX2_bring 55 = .ok (.getfield 12, 3) by decide +kernel) fl_X2_12 rfl q1 ?_
    obtain ⟨q2, h⟩ := h
    refine go_getR (show decode cX2_bring 58 = .ok (.getfield 155, 3) by decide +kernel) fl_X2_155 rfl q2 ?_
    refine go_aload_n (show decode cX2_bring 61 = .ok (.aload_n 2, 1) by decide +kernel) (by rfl) ?_
    obtain ⟨q3, h⟩ := h
    refine go_getI (show decode cX2_bring 62 = .ok (.getfield 74, 3) by decide +kernel) fl_X2_74 (Or.inl rfl) q3 ?_
    obtain ⟨q4, h⟩ := h
    obtain ⟨q9, h⟩ := h
    refine go_callV (d2 := d - 1) (M2 := MX1_bandOf) (n := 1) (ci := 1) (av := [vI (F a2 0)]) (st := []) (show decode cX2_bring 65 = .ok (.invokevirtual 99, 3) by decide +kernel) ml_X2_99 mt_X1_bandOf min_X1_bandOf mse_X1_bandOf (by decide) q9 rfl (Nat.le_of_ble_eq_true rfl) (by omega) (ok_mono h (fun w5 S6 F7 G8 h => ?_))
    obtain ⟨z10, e9, h⟩ := h
    subst e9
    show Go d MX2_bring 68 [some (vR a0), some (vI a1), some (vR a2), some (vI a3), some (vI a4), some (vI a5), none, none, none] [vI z10] S6 F7 G8 Q
    refine go_istore (show decode cX2_bring 68 = .ok (.istore 6, 2) by decide +kernel) (by decide) ?_
    show Go d MX2_bring 70 [some (vR a0), some (vI a1), some (vR a2), some (vI a3), some (vI a4), some (vI a5), some (vI z10), none, none] [] S6 F7 G8 Q
    exact h
def V_X2_bring_0 (d : Nat) (S : AS) (F : AF) (G : AG) (Q : AQ) (a0 : Nat) (a1 : Int) (a2 : Nat) : Prop :=
  (sK S a0 = 2) ∧
  (sK S (sR S a0 0) = 0) ∧
  (sK S a2 = 3) ∧
  (1 ≤ d) ∧
  (sK S (sR S (sR S a0 0) 1) = 1) ∧
  Ok (d - 1) MX1_bandOf [vR (sR S (sR S a0 0) 1), vI (F a2 2)] S F G (fun w5 S6 F7 G8 =>
  ∃ z10 : Int, w5 = some (vI z10) ∧
  (sK S6 a0 = 2) ∧
  (sK S6 (sR S6 a0 1) = 0) ∧
  (sK S6 a2 = 3) ∧
  (sK S6 (sR S6 (sR S6 a0 1) 1) = 1) ∧
  Ok (d - 1) MX1_bandOf [vR (sR S6 (sR S6 a0 1) 1), vI (F7 a2 3)] S6 F7 G8 (fun w14 S15 F16 G17 =>
  ∃ z19 : Int, w14 = some (vI z19) ∧
  (sK S15 a0 = 2) ∧
  (sK S15 (sR S15 a0 1) = 0) ∧
  (sK S15 a2 = 3) ∧
  (sK S15 (sR S15 (sR S15 a0 1) 1) = 1) ∧
  Ok (d - 1) MX1_bandOf [vR (sR S15 (sR S15 a0 1) 1), vI (F16 a2 1)] S15 F16 G17 (fun w23 S24 F25 G26 =>
  ∃ z28 : Int, w23 = some (vI z28) ∧
  Go d MX2_bring 47 [some (vR a0), some (vI a1), some (vR a2), some (vI z10), some (vI z19), some (vI z28), none, none, none] [] S24 F25 G26 Q)))
theorem R_X2_bring_0 {d : Nat} {S : AS} {F : AF} {G : AG} {Q : AQ} {a0 : Nat} {a1 : Int} {a2 : Nat} (h : V_X2_bring_0 d S F G Q a0 a1 a2) : Go d MX2_bring 0 [some (vR a0), some (vI a1), some (vR a2), none, none, none, none, none, none] [] S F G Q := by
  unfold V_X2_bring_0 at h
  refine go_aload_n (show decode cX2_bring 0 = .ok (.aload_n 0, 1) by decide +kernel) (by rfl) ?_
  obtain ⟨q1, h⟩ := h
  refine go_getR (show decode cX2_bring 1 = .ok (.getfield 12, 3) by decide +kernel) fl_X2_12 rfl q1 ?_
  obtain ⟨q2, h⟩ := h
  refine go_getR (show decode cX2_bring 4 = .ok (.getfield 155, 3) by decide +kernel) fl_X2_155 rfl q2 ?_
  refine go_aload_n (show decode cX2_bring 7 = .ok (.aload_n 2, 1) by decide +kernel) (by rfl) ?_
  obtain ⟨q3, h⟩ := h
  refine go_getI (show decode cX2_bring 8 = .ok (.getfield 77, 3) by decide +kernel) fl_X2_77 (Or.inl rfl) q3 ?_
  obtain ⟨q4, h⟩ := h
  obtain ⟨q9, h⟩ := h
  refine go_callV (d2 := d - 1) (M2 := MX1_bandOf) (n := 1) (ci := 1) (av := [vI (F a2 2)]) (st := []) (show decode cX2_bring 11 = .ok (.invokevirtual 99, 3) by decide +kernel) ml_X2_99 mt_X1_bandOf min_X1_bandOf mse_X1_bandOf (by decide) q9 rfl (Nat.le_of_ble_eq_true rfl) (by omega) (ok_mono h (fun w5 S6 F7 G8 h => ?_))
  obtain ⟨z10, e9, h⟩ := h
  subst e9
  show Go d MX2_bring 14 [some (vR a0), some (vI a1), some (vR a2), none, none, none, none, none, none] [vI z10] S6 F7 G8 Q
  refine go_istore_n (show decode cX2_bring 14 = .ok (.istore_n 3, 1) by decide +kernel) (by decide) ?_
  show Go d MX2_bring 15 [some (vR a0), some (vI a1), some (vR a2), some (vI z10), none, none, none, none, none] [] S6 F7 G8 Q
  refine go_aload_n (show decode cX2_bring 15 = .ok (.aload_n 0, 1) by decide +kernel) (by rfl) ?_
  obtain ⟨q11, h⟩ := h
  refine go_getR (show decode cX2_bring 16 = .ok (.getfield 18, 3) by decide +kernel) fl_X2_18 rfl q11 ?_
  obtain ⟨q12, h⟩ := h
  refine go_getR (show decode cX2_bring 19 = .ok (.getfield 155, 3) by decide +kernel) fl_X2_155 rfl q12 ?_
  refine go_aload_n (show decode cX2_bring 22 = .ok (.aload_n 2, 1) by decide +kernel) (by rfl) ?_
  obtain ⟨q13, h⟩ := h
  refine go_getI (show decode cX2_bring 23 = .ok (.getfield 83, 3) by decide +kernel) fl_X2_83 (Or.inl rfl) q13 ?_
  obtain ⟨q18, h⟩ := h
  refine go_callV (d2 := d - 1) (M2 := MX1_bandOf) (n := 1) (ci := 1) (av := [vI (F7 a2 3)]) (st := []) (show decode cX2_bring 26 = .ok (.invokevirtual 99, 3) by decide +kernel) ml_X2_99 mt_X1_bandOf min_X1_bandOf mse_X1_bandOf (by decide) q18 rfl (Nat.le_of_ble_eq_true rfl) (by omega) (ok_mono h (fun w14 S15 F16 G17 h => ?_))
  obtain ⟨z19, e9, h⟩ := h
  subst e9
  show Go d MX2_bring 29 [some (vR a0), some (vI a1), some (vR a2), some (vI z10), none, none, none, none, none] [vI z19] S15 F16 G17 Q
  refine go_istore (show decode cX2_bring 29 = .ok (.istore 4, 2) by decide +kernel) (by decide) ?_
  show Go d MX2_bring 31 [some (vR a0), some (vI a1), some (vR a2), some (vI z10), some (vI z19), none, none, none, none] [] S15 F16 G17 Q
  refine go_aload_n (show decode cX2_bring 31 = .ok (.aload_n 0, 1) by decide +kernel) (by rfl) ?_
  obtain ⟨q20, h⟩ := h
  refine go_getR (show decode cX2_bring 32 = .ok (.getfield 18, 3) by decide +kernel) fl_X2_18 rfl q20 ?_
  obtain ⟨q21, h⟩ := h
  refine go_getR (show decode cX2_bring 35 = .ok (.getfield 155, 3) by decide +kernel) fl_X2_155 rfl q21 ?_
  refine go_aload_n (show decode cX2_bring 38 = .ok (.aload_n 2, 1) by decide +kernel) (by rfl) ?_
  obtain ⟨q22, h⟩ := h
  refine go_getI (show decode cX2_bring 39 = .ok (.getfield 80, 3) by decide +kernel) fl_X2_80 (Or.inl rfl) q22 ?_
  obtain ⟨q27, h⟩ := h
  refine go_callV (d2 := d - 1) (M2 := MX1_bandOf) (n := 1) (ci := 1) (av := [vI (F16 a2 1)]) (st := []) (show decode cX2_bring 42 = .ok (.invokevirtual 99, 3) by decide +kernel) ml_X2_99 mt_X1_bandOf min_X1_bandOf mse_X1_bandOf (by decide) q27 rfl (Nat.le_of_ble_eq_true rfl) (by omega) (ok_mono h (fun w23 S24 F25 G26 h => ?_))
  obtain ⟨z28, e9, h⟩ := h
  subst e9
  show Go d MX2_bring 45 [some (vR a0), some (vI a1), some (vR a2), some (vI z10), some (vI z19), none, none, none, none] [vI z28] S24 F25 G26 Q
  refine go_istore (show decode cX2_bring 45 = .ok (.istore 5, 2) by decide +kernel) (by decide) ?_
  show Go d MX2_bring 47 [some (vR a0), some (vI a1), some (vR a2), some (vI z10), some (vI z19), some (vI z28), none, none, none] [] S24 F25 G26 Q
  exact h
def V_X2_trialRefusal_0 (d : Nat) (S : AS) (F : AF) (G : AG) (Q : AQ) (a0 : Nat) (a1 : Int) : Prop :=
  (1 ≤ d) ∧
  (sK S a0 = 2) ∧
  Ok (d - 1) MX2_trialOverCap [vR a0, vI a1] S F G (fun w2 S3 F4 G5 =>
  ∃ z7 : Int, w2 = some (vI z7) ∧
  ((z7 = 0) →
    (sK S3 a0 = 2) ∧
    Ok (d - 1) MX2_trialOverLimit [vR a0, vI a1] S3 F4 G5 (fun w8 S9 F10 G11 =>
    ∃ z13 : Int, w8 = some (vI z13) ∧
    ((z13 = 0) →
      Q (some (vI 0)) S9 F10 G11) ∧
    ((¬ z13 = 0) →
      Q (some (vI (-9))) S9 F10 G11))) ∧
  ((¬ z7 = 0) →
    Q (some (vI (-7))) S3 F4 G5))
theorem R_X2_trialRefusal_0 {d : Nat} {S : AS} {F : AF} {G : AG} {Q : AQ} {a0 : Nat} {a1 : Int} (h : V_X2_trialRefusal_0 d S F G Q a0 a1) : Go d MX2_trialRefusal 0 [some (vR a0), some (vI a1)] [] S F G Q := by
  unfold V_X2_trialRefusal_0 at h
  refine go_aload_n (show decode cX2_trialRefusal 0 = .ok (.aload_n 0, 1) by decide +kernel) (by rfl) ?_
  refine go_iload_n (show decode cX2_trialRefusal 1 = .ok (.iload_n 1, 1) by decide +kernel) (by rfl) ?_
  obtain ⟨q1, h⟩ := h
  obtain ⟨q6, h⟩ := h
  refine go_callV (d2 := d - 1) (M2 := MX2_trialOverCap) (n := 1) (ci := 2) (av := [vI a1]) (st := []) (show decode cX2_trialRefusal 2 = .ok (.invokevirtual 207, 3) by decide +kernel) ml_X2_207 mt_X2_trialOverCap min_X2_trialOverCap mse_X2_trialOverCap (by decide) q6 rfl (Nat.le_of_ble_eq_true rfl) (by omega) (ok_mono h (fun w2 S3 F4 G5 h => ?_))
  obtain ⟨z7, e9, h⟩ := h
  subst e9
  show Go d MX2_trialRefusal 5 [some (vR a0), some (vI a1)] [vI z7] S3 F4 G5 Q
  obtain ⟨ht, hf⟩ := h
  refine go_ifeq (tgt := 11) (show decode cX2_trialRefusal 5 = .ok (.ifCond .eq 6, 3) by decide +kernel) (by decide) (fun hc => ?_) (fun hc => ?_)
  · have h := ht hc
    refine go_aload_n (show decode cX2_trialRefusal 11 = .ok (.aload_n 0, 1) by decide +kernel) (by rfl) ?_
    refine go_iload_n (show decode cX2_trialRefusal 12 = .ok (.iload_n 1, 1) by decide +kernel) (by rfl) ?_
    obtain ⟨q12, h⟩ := h
    refine go_callV (d2 := d - 1) (M2 := MX2_trialOverLimit) (n := 1) (ci := 2) (av := [vI a1]) (st := []) (show decode cX2_trialRefusal 13 = .ok (.invokevirtual 211, 3) by decide +kernel) ml_X2_211 mt_X2_trialOverLimit min_X2_trialOverLimit mse_X2_trialOverLimit (by decide) q12 rfl (Nat.le_of_ble_eq_true rfl) (by omega) (ok_mono h (fun w8 S9 F10 G11 h => ?_))
    obtain ⟨z13, e9, h⟩ := h
    subst e9
    show Go d MX2_trialRefusal 16 [some (vR a0), some (vI a1)] [vI z13] S9 F10 G11 Q
    obtain ⟨ht, hf⟩ := h
    refine go_ifeq (tgt := 24) (show decode cX2_trialRefusal 16 = .ok (.ifCond .eq 8, 3) by decide +kernel) (by decide) (fun hc => ?_) (fun hc => ?_)
    · have h := ht hc
      refine go_iconst (show decode cX2_trialRefusal 24 = .ok (.iconst 0, 1) by decide +kernel) (by decide) ?_
      exact go_iret (show decode cX2_trialRefusal 25 = .ok (.ireturn, 1) by decide +kernel) rfl h
    · have h := hf hc
      refine go_bipush (show decode cX2_trialRefusal 19 = .ok (.bipush (-9), 2) by decide +kernel) (by decide) ?_
      refine go_goto (tgt := 25) (show decode cX2_trialRefusal 21 = .ok (.goto 4, 3) by decide +kernel) (by decide) ?_
      exact go_iret (show decode cX2_trialRefusal 25 = .ok (.ireturn, 1) by decide +kernel) rfl h
  · have h := hf hc
    refine go_bipush (show decode cX2_trialRefusal 8 = .ok (.bipush (-7), 2) by decide +kernel) (by decide) ?_
    exact go_iret (show decode cX2_trialRefusal 10 = .ok (.ireturn, 1) by decide +kernel) rfl h
def V_X2_trialOverCap_18 (d : Nat) (S : AS) (F : AF) (G : AG) (Q : AQ) (a0 : Nat) (a1 : Int) (a2 : Int) (a3 : Int) : Prop :=
  (sK S a0 = 2) ∧
  (sK S (sR S a0 0) = 0) ∧
  (sK S (sR S (sR S a0 0) 1) = 1) ∧
  ((F (sR S (sR S a0 0) 1) 1 ≤ a3) →
    (r32 (a2 + 1)) ∧
    Go d MX2_trialOverCap 2 [some (vR a0), some (vI a1), some (vI (a2 + 1)), none, none, none, none] [] S F G Q) ∧
  ((¬ F (sR S (sR S a0 0) 1) 1 ≤ a3) →
    (sK S (sR S a0 1) = 0) ∧
    (sK S (sR S (sR S a0 1) 2) = 20) ∧
    ((0 : Int) ≤ a2) ∧
    ((a2 : Int) < (sN S (sR S (sR S a0 1) 2) : Int)) ∧
    (r32 (48 * (G (sR S (sR S a0 1) 2) a2))) ∧
    (sK S (sR S (sR S a0 0) 2) = 20) ∧
    ((0 : Int) ≤ a3) ∧
    ((a3 : Int) < (sN S (sR S (sR S a0 0) 2) : Int)) ∧
    (r32 ((48 * (G (sR S (sR S a0 1) 2) a2)) + (G (sR S (sR S a0 0) 2) a3))) ∧
    ∀ x14 : Int, x14 = (48 * (G (sR S (sR S a0 1) 2) a2)) + (G (sR S (sR S a0 0) 2) a3) →
    (1 ≤ d) ∧
    Ok (d - 1) MX2_unitsAt [vR a0, vI (-1), vI x14] S F G (fun w16 S17 F18 G19 =>
    ∃ z20 : Int, w16 = some (vJ z20) ∧
    (sK S17 a0 = 2) ∧
    Ok (d - 1) MX2_unitsAt [vR a0, vI a1, vI x14] S17 F18 G19 (fun w21 S22 F23 G24 =>
    ∃ z26 : Int, w21 = some (vJ z26) ∧
    (r64 (z20 - z26)) ∧
    ∀ x28 : Int, x28 = z20 - z26 →
    (sK S22 a0 = 2) ∧
    (r32 (48 * a2)) ∧
    (r32 ((48 * a2) + a3)) ∧
    (sK S22 (sR S22 a0 4) = 21) ∧
    ((0 : Int) ≤ (48 * a2) + a3) ∧
    (((48 * a2) + a3 : Int) < (sN S22 (sR S22 a0 4) : Int)) ∧
    (r64 (x28 + (G24 (sR S22 a0 4) ((48 * a2) + a3)))) ∧
    ((x28 + (G24 (sR S22 a0 4) ((48 * a2) + a3)) ≤ F23 a0 7) →
      (r32 (a3 + 1)) ∧
      Go d MX2_trialOverCap 18 [some (vR a0), some (vI a1), some (vI a2), some (vI (a3 + 1)), none, none, none] [] S22 F23 G24 Q) ∧
    ((¬ x28 + (G24 (sR S22 a0 4) ((48 * a2) + a3)) ≤ F23 a0 7) →
      Q (some (vI 1)) S22 F23 G24))))
theorem R_X2_trialOverCap_18 {d : Nat} {S : AS} {F : AF} {G : AG} {Q : AQ} {a0 : Nat} {a1 : Int} {a2 : Int} {a3 : Int} (h : V_X2_trialOverCap_18 d S F G Q a0 a1 a2 a3) : Go d MX2_trialOverCap 18 [some (vR a0), some (vI a1), some (vI a2), some (vI a3), none, none, none] [] S F G Q := by
  unfold V_X2_trialOverCap_18 at h
  refine go_iload_n (show decode cX2_trialOverCap 18 = .ok (.iload_n 3, 1) by decide +kernel) (by rfl) ?_
  refine go_aload_n (show decode cX2_trialOverCap 19 = .ok (.aload_n 0, 1) by decide +kernel) (by rfl) ?_
  obtain ⟨q1, h⟩ := h
  refine go_getR (show decode cX2_trialOverCap 20 = .ok (.getfield 12, 3) by decide +kernel) fl_X2_12 rfl q1 ?_
  obtain ⟨q2, h⟩ := h
  refine go_getR (show decode cX2_trialOverCap 23 = .ok (.getfield 155, 3) by decide +kernel) fl_X2_155 rfl q2 ?_
  obtain ⟨q3, h⟩ := h
  refine go_getI (show decode cX2_trialOverCap 26 = .ok (.getfield 197, 3) by decide +kernel) fl_X2_197 (Or.inl rfl) q3 ?_
  obtain ⟨ht, hf⟩ := h
  refine go_icmpge (tgt := 103) (show decode cX2_trialOverCap 29 = .ok (.if_icmp .ge 74, 3) by decide +kernel) (by decide) (fun hc => ?_) (fun hc => ?_)
  · have h := ht hc
    obtain ⟨q4, h⟩ := h
    refine go_iinc (show decode cX2_trialOverCap 103 = .ok (.iinc 2 1, 3) by decide +kernel) (by rfl) q4 (by decide) ?_
    show Go d MX2_trialOverCap 106 [some (vR a0), some (vI a1), some (vI (a2 + 1)), some (vI a3), none, none, none] [] S F G Q
    refine go_goto (tgt := 2) (show decode cX2_trialOverCap 106 = .ok (.goto (-104), 3) by decide +kernel) (by decide) ?_
    refine go_clr 3 ?_
    exact h
  · have h := hf hc
    refine go_bipush (show decode cX2_trialOverCap 32 = .ok (.bipush 48, 2) by decide +kernel) (by decide) ?_
    refine go_aload_n (show decode cX2_trialOverCap 34 = .ok (.aload_n 0, 1) by decide +kernel) (by rfl) ?_
    refine go_getR (show decode cX2_trialOverCap 35 = .ok (.getfield 18, 3) by decide +kernel) fl_X2_18 rfl q1 ?_
    obtain ⟨q5, h⟩ := h
    refine go_getR (show decode cX2_trialOverCap 38 = .ok (.getfield 200, 3) by decide +kernel) fl_X2_200 rfl q5 ?_
    refine go_iload_n (show decode cX2_trialOverCap 41 = .ok (.iload_n 2, 1) by decide +kernel) (by rfl) ?_
    obtain ⟨q6, h⟩ := h
    obtain ⟨q7, h⟩ := h
    obtain ⟨q8, h⟩ := h
    refine go_iaload (show decode cX2_trialOverCap 42 = .ok (.iaload, 1) by decide +kernel) q6 q7 q8 ?_
    obtain ⟨q9, h⟩ := h
    refine go_imul (show decode cX2_trialOverCap 43 = .ok (.imul, 1) by decide +kernel) q9 ?_
    refine go_aload_n (show decode cX2_trialOverCap 44 = .ok (.aload_n 0, 1) by decide +kernel) (by rfl) ?_
    refine go_getR (show decode cX2_trialOverCap 45 = .ok (.getfield 12, 3) by decide +kernel) fl_X2_12 rfl q1 ?_
    refine go_getR (show decode cX2_trialOverCap 48 = .ok (.getfield 200, 3) by decide +kernel) fl_X2_200 rfl q2 ?_
    refine go_iload_n (show decode cX2_trialOverCap 51 = .ok (.iload_n 3, 1) by decide +kernel) (by rfl) ?_
    obtain ⟨q10, h⟩ := h
    obtain ⟨q11, h⟩ := h
    obtain ⟨q12, h⟩ := h
    refine go_iaload (show decode cX2_trialOverCap 52 = .ok (.iaload, 1) by decide +kernel) q10 q11 q12 ?_
    obtain ⟨q13, h⟩ := h
    refine go_iadd (show decode cX2_trialOverCap 53 = .ok (.iadd, 1) by decide +kernel) q13 ?_
    obtain ⟨x14, x14e⟩ : ∃ x14 : Int, x14 = (48 * (G (sR S (sR S a0 1) 2) a2)) + (G (sR S (sR S a0 0) 2) a3) := ⟨_, rfl⟩
    have h := h x14 x14e
    rw [← x14e]
    refine go_istore (show decode cX2_trialOverCap 54 = .ok (.istore 4, 2) by decide +kernel) (by decide) ?_
    show Go d MX2_trialOverCap 56 [some (vR a0), some (vI a1), some (vI a2), some (vI a3), some (vI x14), none, none] [] S F G Q
    refine go_aload_n (show decode cX2_trialOverCap 56 = .ok (.aload_n 0, 1) by decide +kernel) (by rfl) ?_
    refine go_iconst (show decode cX2_trialOverCap 57 = .ok (.iconst (-1), 1) by decide +kernel) (by decide) ?_
    refine go_iload (show decode cX2_trialOverCap 58 = .ok (.iload 4, 2) by decide +kernel) (by rfl) ?_
    obtain ⟨q15, h⟩ := h
    refine go_callV (d2 := d - 1) (M2 := MX2_unitsAt) (n := 2) (ci := 2) (av := [vI (-1), vI x14]) (st := []) (show decode cX2_trialOverCap 60 = .ok (.invokevirtual 111, 3) by decide +kernel) ml_X2_111 mt_X2_unitsAt min_X2_unitsAt mse_X2_unitsAt (by decide) q1 rfl (Nat.le_of_ble_eq_true rfl) (by omega) (ok_mono h (fun w16 S17 F18 G19 h => ?_))
    obtain ⟨z20, e9, h⟩ := h
    subst e9
    show Go d MX2_trialOverCap 63 [some (vR a0), some (vI a1), some (vI a2), some (vI a3), some (vI x14), none, none] [vJ z20] S17 F18 G19 Q
    refine go_aload_n (show decode cX2_trialOverCap 63 = .ok (.aload_n 0, 1) by decide +kernel) (by rfl) ?_
    refine go_iload_n (show decode cX2_trialOverCap 64 = .ok (.iload_n 1, 1) by decide +kernel) (by rfl) ?_
    refine go_iload (show decode cX2_trialOverCap 65 = .ok (.iload 4, 2) by decide +kernel) (by rfl) ?_
    obtain ⟨q25, h⟩ := h
    refine go_callV (d2 := d - 1) (M2 := MX2_unitsAt) (n := 2) (ci := 2) (av := [vI a1, vI x14]) (st := [vJ z20]) (show decode cX2_trialOverCap 67 = .ok (.invokevirtual 111, 3) by decide +kernel) ml_X2_111 mt_X2_unitsAt min_X2_unitsAt mse_X2_unitsAt (by decide) q25 rfl (Nat.le_of_ble_eq_true rfl) (by omega) (ok_mono h (fun w21 S22 F23 G24 h => ?_))
    obtain ⟨z26, e9, h⟩ := h
    subst e9
    show Go d MX2_trialOverCap 70 [some (vR a0), some (vI a1), some (vI a2), some (vI a3), some (vI x14), none, none] [vJ z26, vJ z20] S22 F23 G24 Q
    obtain ⟨q27, h⟩ := h
    refine go_lsub (show decode cX2_trialOverCap 70 = .ok (.lsub, 1) by decide +kernel) q27 ?_
    obtain ⟨x28, x28e⟩ : ∃ x28 : Int, x28 = z20 - z26 := ⟨_, rfl⟩
    have h := h x28 x28e
    rw [← x28e]
    refine go_lstore (show decode cX2_trialOverCap 71 = .ok (.lstore 5, 2) by decide +kernel) (by decide) ?_
    show Go d MX2_trialOverCap 73 [some (vR a0), some (vI a1), some (vI a2), some (vI a3), some (vI x14), some (vJ x28), none] [] S22 F23 G24 Q
    refine go_lload (show decode cX2_trialOverCap 73 = .ok (.lload 5, 2) by decide +kernel) (by rfl) ?_
    refine go_aload_n (show decode cX2_trialOverCap 75 = .ok (.aload_n 0, 1) by decide +kernel) (by rfl) ?_
    obtain ⟨q29, h⟩ := h
    refine go_getR (show decode cX2_trialOverCap 76 = .ok (.getfield 32, 3) by decide +kernel) fl_X2_32 rfl q29 ?_
    refine go_bipush (show decode cX2_trialOverCap 79 = .ok (.bipush 48, 2) by decide +kernel) (by decide) ?_
    refine go_iload_n (show decode cX2_trialOverCap 81 = .ok (.iload_n 2, 1) by decide +kernel) (by rfl) ?_
    obtain ⟨q30, h⟩ := h
    refine go_imul (show decode cX2_trialOverCap 82 = .ok (.imul, 1) by decide +kernel) q30 ?_
    refine go_iload_n (show decode cX2_trialOverCap 83 = .ok (.iload_n 3, 1) by decide +kernel) (by rfl) ?_
    obtain ⟨q31, h⟩ := h
    refine go_iadd (show decode cX2_trialOverCap 84 = .ok (.iadd, 1) by decide +kernel) q31 ?_
    obtain ⟨q32, h⟩ := h
    obtain ⟨q33, h⟩ := h
    obtain ⟨q34, h⟩ := h
    refine go_laload (show decode cX2_trialOverCap 85 = .ok (.laload, 1) by decide +kernel) q32 q33 q34 ?_
    obtain ⟨q35, h⟩ := h
    refine go_ladd (show decode cX2_trialOverCap 86 = .ok (.ladd, 1) by decide +kernel) q35 ?_
    refine go_aload_n (show decode cX2_trialOverCap 87 = .ok (.aload_n 0, 1) by decide +kernel) (by rfl) ?_
    refine go_getJ (show decode cX2_trialOverCap 88 = .ok (.getfield 56, 3) by decide +kernel) fl_X2_56 rfl q29 ?_
    obtain ⟨ht, hf⟩ := h
    refine go_jle (tgt := 97) (show decode cX2_trialOverCap 91 = .ok (.lcmp, 1) by decide +kernel) (show decode cX2_trialOverCap 92 = .ok (.ifCond .le 5, 3) by decide +kernel) (by decide) (fun hc => ?_) (fun hc => ?_)
    · have h := ht hc
      obtain ⟨q36, h⟩ := h
      refine go_iinc (show decode cX2_trialOverCap 97 = .ok (.iinc 3 1, 3) by decide +kernel) (by rfl) q36 (by decide) ?_
      show Go d MX2_trialOverCap 100 [some (vR a0), some (vI a1), some (vI a2), some (vI (a3 + 1)), some (vI x14), some (vJ x28), none] [] S22 F23 G24 Q
      refine go_goto (tgt := 18) (show decode cX2_trialOverCap 100 = .ok (.goto (-82), 3) by decide +kernel) (by decide) ?_
      refine go_clr 4 ?_
      refine go_clr 5 ?_
      exact h
    · have h := hf hc
      refine go_iconst (show decode cX2_trialOverCap 95 = .ok (.iconst 1, 1) by decide +kernel) (by decide) ?_
      exact go_zret (show decode cX2_trialOverCap 96 = .ok (.ireturn, 1) by decide +kernel) rfl (by decide) h
def V_X2_trialOverCap_2 (d : Nat) (S : AS) (F : AF) (G : AG) (Q : AQ) (a0 : Nat) (a1 : Int) (a2 : Int) : Prop :=
  (sK S a0 = 2) ∧
  (sK S (sR S a0 1) = 0) ∧
  (sK S (sR S (sR S a0 1) 1) = 1) ∧
  ((F (sR S (sR S a0 1) 1) 1 ≤ a2) →
    Q (some (vI 0)) S F G) ∧
  ((¬ F (sR S (sR S a0 1) 1) 1 ≤ a2) →
    Go d MX2_trialOverCap 18 [some (vR a0), some (vI a1), some (vI a2), some (vI 0), none, none, none] [] S F G Q)
theorem R_X2_trialOverCap_2 {d : Nat} {S : AS} {F : AF} {G : AG} {Q : AQ} {a0 : Nat} {a1 : Int} {a2 : Int} (h : V_X2_trialOverCap_2 d S F G Q a0 a1 a2) : Go d MX2_trialOverCap 2 [some (vR a0), some (vI a1), some (vI a2), none, none, none, none] [] S F G Q := by
  unfold V_X2_trialOverCap_2 at h
  refine go_iload_n (show decode cX2_trialOverCap 2 = .ok (.iload_n 2, 1) by decide +kernel) (by rfl) ?_
  refine go_aload_n (show decode cX2_trialOverCap 3 = .ok (.aload_n 0, 1) by decide +kernel) (by rfl) ?_
  obtain ⟨q1, h⟩ := h
  refine go_getR (show decode cX2_trialOverCap 4 = .ok (.getfield 18, 3) by decide +kernel) fl_X2_18 rfl q1 ?_
  obtain ⟨q2, h⟩ := h
  refine go_getR (show decode cX2_trialOverCap 7 = .ok (.getfield 155, 3) by decide +kernel) fl_X2_155 rfl q2 ?_
  obtain ⟨q3, h⟩ := h
  refine go_getI (show decode cX2_trialOverCap 10 = .ok (.getfield 197, 3) by decide +kernel) fl_X2_197 (Or.inl rfl) q3 ?_
  obtain ⟨ht, hf⟩ := h
  refine go_icmpge (tgt := 109) (show decode cX2_trialOverCap 13 = .ok (.if_icmp .ge 96, 3) by decide +kernel) (by decide) (fun hc => ?_) (fun hc => ?_)
  · have h := ht hc
    refine go_iconst (show decode cX2_trialOverCap 109 = .ok (.iconst 0, 1) by decide +kernel) (by decide) ?_
    exact go_zret (show decode cX2_trialOverCap 110 = .ok (.ireturn, 1) by decide +kernel) rfl (by decide) h
  · have h := hf hc
    refine go_iconst (show decode cX2_trialOverCap 16 = .ok (.iconst 0, 1) by decide +kernel) (by decide) ?_
    refine go_istore_n (show decode cX2_trialOverCap 17 = .ok (.istore_n 3, 1) by decide +kernel) (by decide) ?_
    show Go d MX2_trialOverCap 18 [some (vR a0), some (vI a1), some (vI a2), some (vI 0), none, none, none] [] S F G Q
    exact h
def V_X2_trialOverCap_0 (d : Nat) (S : AS) (F : AF) (G : AG) (Q : AQ) (a0 : Nat) (a1 : Int) : Prop :=
  Go d MX2_trialOverCap 2 [some (vR a0), some (vI a1), some (vI 0), none, none, none, none] [] S F G Q
theorem R_X2_trialOverCap_0 {d : Nat} {S : AS} {F : AF} {G : AG} {Q : AQ} {a0 : Nat} {a1 : Int} (h : V_X2_trialOverCap_0 d S F G Q a0 a1) : Go d MX2_trialOverCap 0 [some (vR a0), some (vI a1), none, none, none, none, none] [] S F G Q := by
  unfold V_X2_trialOverCap_0 at h
  refine go_iconst (show decode cX2_trialOverCap 0 = .ok (.iconst 0, 1) by decide +kernel) (by decide) ?_
  refine go_istore_n (show decode cX2_trialOverCap 1 = .ok (.istore_n 2, 1) by decide +kernel) (by decide) ?_
  show Go d MX2_trialOverCap 2 [some (vR a0), some (vI a1), some (vI 0), none, none, none, none] [] S F G Q
  exact h
def V_X2_trialOverLimit_93 (d : Nat) (S : AS) (F : AF) (G : AG) (Q : AQ) (a0 : Nat) (a1 : Int) (a2 : Int) (a3 : Nat) : Prop :=
  (r32 (a2 + 1)) ∧
  Go d MX2_trialOverLimit 2 [some (vR a0), some (vI a1), some (vI (a2 + 1)), none, none, none] [] S F G Q
theorem R_X2_trialOverLimit_93 {d : Nat} {S : AS} {F : AF} {G : AG} {Q : AQ} {a0 : Nat} {a1 : Int} {a2 : Int} {a3 : Nat} (h : V_X2_trialOverLimit_93 d S F G Q a0 a1 a2 a3) : Go d MX2_trialOverLimit 93 [some (vR a0), some (vI a1), some (vI a2), some (vR a3), none, none] [] S F G Q := by
  unfold V_X2_trialOverLimit_93 at h
  obtain ⟨q1, h⟩ := h
  refine go_iinc (show decode cX2_trialOverLimit 93 = .ok (.iinc 2 1, 3) by decide +kernel) (by rfl) q1 (by decide) ?_
  show Go d MX2_trialOverLimit 96 [some (vR a0), some (vI a1), some (vI (a2 + 1)), some (vR a3), none, none] [] S F G Q
  refine go_goto (tgt := 2) (show decode cX2_trialOverLimit 96 = .ok (.goto (-94), 3) by decide +kernel) (by decide) ?_
  refine go_clr 3 ?_
  exact h
def V_X2_trialOverLimit_2 (d : Nat) (S : AS) (F : AF) (G : AG) (Q : AQ) (a0 : Nat) (a1 : Int) (a2 : Int) : Prop :=
  (sK S a0 = 2) ∧
  (sK S (sR S a0 5) = 24) ∧
  (((sN S (sR S a0 5) : Int) ≤ a2) →
    Q (some (vI 0)) S F G) ∧
  ((¬ (sN S (sR S a0 5) : Int) ≤ a2) →
    ((0 : Int) ≤ a2) ∧
    ((a2 : Int) < (sN S (sR S a0 5) : Int)) ∧
    ∀ x5 : Nat, x5 = sR S (sR S a0 5) (Int.toNat a2) →
    (sK S x5 = 8) ∧
    ((F x5 2 = 0) →
      V_X2_trialOverLimit_93 d S F G Q a0 a1 a2 x5) ∧
    ((¬ F x5 2 = 0) →
      (sK S (sR S a0 0) = 0) ∧
      (sK S (sR S a0 1) = 0) ∧
      (1 ≤ d) ∧
      Ok (d - 1) MX2_sumBy [vR a0, vR (sR S (sR S a0 0) 1), vR (sR S (sR S a0 1) 1), vR (sR S a0 4), vI 0, vR (sR S x5 0)] S F G (fun w10 S11 F12 G13 =>
      ∃ z14 : Int, w10 = some (vJ z14) ∧
      (sK S11 x5 = 8) ∧
      (sK S11 a0 = 2) ∧
      Ok (d - 1) MX2_sumOf [vR a0, vI a1, vR (sR S11 x5 0)] S11 F12 G13 (fun w16 S17 F18 G19 =>
      ∃ z21 : Int, w16 = some (vJ z21) ∧
      (r64 (z14 - z21)) ∧
      ∀ x23 : Int, x23 = z14 - z21 →
      ((x23 ≤ 0) →
        V_X2_trialOverLimit_93 d S17 F18 G19 Q a0 a1 a2 x5) ∧
      ((¬ x23 ≤ 0) →
        (sK S17 x5 = 8) ∧
        (sK S17 a0 = 2) ∧
        Ok (d - 1) MX2_sumOf [vR a0, vI (-1), vR (sR S17 x5 0)] S17 F18 G19 (fun w25 S26 F27 G28 =>
        ∃ z30 : Int, w25 = some (vJ z30) ∧
        (r64 (z30 + x23)) ∧
        (sK S26 x5 = 8) ∧
        ((z30 + x23 ≤ F27 x5 1) →
          V_X2_trialOverLimit_93 d S26 F27 G28 Q a0 a1 a2 x5) ∧
        ((¬ z30 + x23 ≤ F27 x5 1) →
          Q (some (vI 1)) S26 F27 G28)))))))
theorem R_X2_trialOverLimit_2 {d : Nat} {S : AS} {F : AF} {G : AG} {Q : AQ} {a0 : Nat} {a1 : Int} {a2 : Int} (h : V_X2_trialOverLimit_2 d S F G Q a0 a1 a2) : Go d MX2_trialOverLimit 2 [some (vR a0), some (vI a1), some (vI a2), none, none, none] [] S F G Q := by
  unfold V_X2_trialOverLimit_2 at h
  refine go_iload_n (show decode cX2_trialOverLimit 2 = .ok (.iload_n 2, 1) by decide +kernel) (by rfl) ?_
  refine go_aload_n (show decode cX2_trialOverLimit 3 = .ok (.aload_n 0, 1) by decide +kernel) (by rfl) ?_
  obtain ⟨q1, h⟩ := h
  refine go_getR (show decode cX2_trialOverLimit 4 = .ok (.getfield 37, 3) by decide +kernel) fl_X2_37 rfl q1 ?_
  obtain ⟨q2, h⟩ := h
  refine go_alen (show decode cX2_trialOverLimit 7 = .ok (.arraylength, 1) by decide +kernel) (by omega) ?_
  obtain ⟨ht, hf⟩ := h
  refine go_icmpge (tgt := 99) (show decode cX2_trialOverLimit 8 = .ok (.if_icmp .ge 91, 3) by decide +kernel) (by decide) (fun hc => ?_) (fun hc => ?_)
  · have h := ht hc
    refine go_iconst (show decode cX2_trialOverLimit 99 = .ok (.iconst 0, 1) by decide +kernel) (by decide) ?_
    exact go_zret (show decode cX2_trialOverLimit 100 = .ok (.ireturn, 1) by decide +kernel) rfl (by decide) h
  · have h := hf hc
    refine go_aload_n (show decode cX2_trialOverLimit 11 = .ok (.aload_n 0, 1) by decide +kernel) (by rfl) ?_
    refine go_getR (show decode cX2_trialOverLimit 12 = .ok (.getfield 37, 3) by decide +kernel) fl_X2_37 rfl q1 ?_
    refine go_iload_n (show decode cX2_trialOverLimit 15 = .ok (.iload_n 2, 1) by decide +kernel) (by rfl) ?_
    obtain ⟨q3, h⟩ := h
    obtain ⟨q4, h⟩ := h
    refine go_aaload (show decode cX2_trialOverLimit 16 = .ok (.aaload, 1) by decide +kernel) (Or.inl q2) q3 q4 ?_
    obtain ⟨x5, x5e⟩ : ∃ x5 : Nat, x5 = sR S (sR S a0 5) (Int.toNat a2) := ⟨_, rfl⟩
    have h := h x5 x5e
    rw [← x5e]
    refine go_astore_n (show decode cX2_trialOverLimit 17 = .ok (.astore_n 3, 1) by decide +kernel) (by decide) ?_
    show Go d MX2_trialOverLimit 18 [some (vR a0), some (vI a1), some (vI a2), some (vR x5), none, none] [] S F G Q
    refine go_aload_n (show decode cX2_trialOverLimit 18 = .ok (.aload_n 3, 1) by decide +kernel) (by rfl) ?_
    obtain ⟨q6, h⟩ := h
    refine go_getI (show decode cX2_trialOverLimit 19 = .ok (.getfield 70, 3) by decide +kernel) fl_X2_70 (Or.inr rfl) q6 ?_
    obtain ⟨ht, hf⟩ := h
    refine go_ifeq (tgt := 93) (show decode cX2_trialOverLimit 22 = .ok (.ifCond .eq 71, 3) by decide +kernel) (by decide) (fun hc => ?_) (fun hc => ?_)
    · have h := ht hc
      exact R_X2_trialOverLimit_93 h
    · have h := hf hc
      refine go_aload_n (show decode cX2_trialOverLimit 25 = .ok (.aload_n 0, 1) by decide +kernel) (by rfl) ?_
      refine go_aload_n (show decode cX2_trialOverLimit 26 = .ok (.aload_n 0, 1) by decide +kernel) (by rfl) ?_
      refine go_getR (show decode cX2_trialOverLimit 27 = .ok (.getfield 12, 3) by decide +kernel) fl_X2_12 rfl q1 ?_
      obtain ⟨q7, h⟩ := h
      refine go_getR (show decode cX2_trialOverLimit 30 = .ok (.getfield 155, 3) by decide +kernel) fl_X2_155 rfl q7 ?_
      refine go_aload_n (show decode cX2_trialOverLimit 33 = .ok (.aload_n 0, 1) by decide +kernel) (by rfl) ?_
      refine go_getR (show decode cX2_trialOverLimit 34 = .ok (.getfield 18, 3) by decide +kernel) fl_X2_18 rfl q1 ?_
      obtain ⟨q8, h⟩ := h
      refine go_getR (show decode cX2_trialOverLimit 37 = .ok (.getfield 155, 3) by decide +kernel) fl_X2_155 rfl q8 ?_
      refine go_aload_n (show decode cX2_trialOverLimit 40 = .ok (.aload_n 0, 1) by decide +kernel) (by rfl) ?_
      refine go_getR (show decode cX2_trialOverLimit 41 = .ok (.getfield 32, 3) by decide +kernel) fl_X2_32 rfl q1 ?_
      refine go_iconst (show decode cX2_trialOverLimit 44 = .ok (.iconst 0, 1) by decide +kernel) (by decide) ?_
      refine go_aload_n (show decode cX2_trialOverLimit 45 = .ok (.aload_n 3, 1) by decide +kernel) (by rfl) ?_
      refine go_getR (show decode cX2_trialOverLimit 46 = .ok (.getfield 174, 3) by decide +kernel) fl_X2_174 rfl q6 ?_
      obtain ⟨q9, h⟩ := h
      refine go_callV (d2 := d - 1) (M2 := MX2_sumBy) (n := 5) (ci := 2) (av := [vR (sR S (sR S a0 0) 1), vR (sR S (sR S a0 1) 1), vR (sR S a0 4), vI 0, vR (sR S x5 0)]) (st := []) (show decode cX2_trialOverLimit 49 = .ok (.invokevirtual 94, 3) by decide +kernel) ml_X2_94 mt_X2_sumBy min_X2_sumBy mse_X2_sumBy (by decide) q1 rfl (Nat.le_of_ble_eq_true rfl) (by omega) (ok_mono h (fun w10 S11 F12 G13 h => ?_))
      obtain ⟨z14, e9, h⟩ := h
      subst e9
      show Go d MX2_trialOverLimit 52 [some (vR a0), some (vI a1), some (vI a2), some (vR x5), none, none] [vJ z14] S11 F12 G13 Q
      refine go_aload_n (show decode cX2_trialOverLimit 52 = .ok (.aload_n 0, 1) by decide +kernel) (by rfl) ?_
      refine go_iload_n (show decode cX2_trialOverLimit 53 = .ok (.iload_n 1, 1) by decide +kernel) (by rfl) ?_
      refine go_aload_n (show decode cX2_trialOverLimit 54 = .ok (.aload_n 3, 1) by decide +kernel) (by rfl) ?_
      obtain ⟨q15, h⟩ := h
      refine go_getR (show decode cX2_trialOverLimit 55 = .ok (.getfield 174, 3) by decide +kernel) fl_X2_174 rfl q15 ?_
      obtain ⟨q20, h⟩ := h
      refine go_callV (d2 := d - 1) (M2 := MX2_sumOf) (n := 2) (ci := 2) (av := [vI a1, vR (sR S11 x5 0)]) (st := [vJ z14]) (show decode cX2_trialOverLimit 58 = .ok (.invokevirtual 181, 3) by decide +kernel) ml_X2_181 mt_X2_sumOf min_X2_sumOf mse_X2_sumOf (by decide) q20 rfl (Nat.le_of_ble_eq_true rfl) (by omega) (ok_mono h (fun w16 S17 F18 G19 h => ?_))
      obtain ⟨z21, e9, h⟩ := h
      subst e9
      show Go d MX2_trialOverLimit 61 [some (vR a0), some (vI a1), some (vI a2), some (vR x5), none, none] [vJ z21, vJ z14] S17 F18 G19 Q
      obtain ⟨q22, h⟩ := h
      refine go_lsub (show decode cX2_trialOverLimit 61 = .ok (.lsub, 1) by decide +kernel) q22 ?_
      obtain ⟨x23, x23e⟩ : ∃ x23 : Int, x23 = z14 - z21 := ⟨_, rfl⟩
      have h := h x23 x23e
      rw [← x23e]
      refine go_lstore (show decode cX2_trialOverLimit 62 = .ok (.lstore 4, 2) by decide +kernel) (by decide) ?_
      show Go d MX2_trialOverLimit 64 [some (vR a0), some (vI a1), some (vI a2), some (vR x5), some (vJ x23), none] [] S17 F18 G19 Q
      refine go_lload (show decode cX2_trialOverLimit 64 = .ok (.lload 4, 2) by decide +kernel) (by rfl) ?_
      refine go_lconst (n := 0) (show decode cX2_trialOverLimit 66 = .ok (.lconst 0, 1) by decide +kernel) ?_
      show Go d MX2_trialOverLimit 67 [some (vR a0), some (vI a1), some (vI a2), some (vR x5), some (vJ x23), none] [vJ 0, vJ x23] S17 F18 G19 Q
      obtain ⟨ht, hf⟩ := h
      refine go_jle (tgt := 93) (show decode cX2_trialOverLimit 67 = .ok (.lcmp, 1) by decide +kernel) (show decode cX2_trialOverLimit 68 = .ok (.ifCond .le 25, 3) by decide +kernel) (by decide) (fun hc => ?_) (fun hc => ?_)
      · have h := ht hc
        refine go_clr 4 ?_
        exact R_X2_trialOverLimit_93 h
      · have h := hf hc
        refine go_aload_n (show decode cX2_trialOverLimit 71 = .ok (.aload_n 0, 1) by decide +kernel) (by rfl) ?_
        refine go_iconst (show decode cX2_trialOverLimit 72 = .ok (.iconst (-1), 1) by decide +kernel) (by decide) ?_
        refine go_aload_n (show decode cX2_trialOverLimit 73 = .ok (.aload_n 3, 1) by decide +kernel) (by rfl) ?_
        obtain ⟨q24, h⟩ := h
        refine go_getR (show decode cX2_trialOverLimit 74 = .ok (.getfield 174, 3) by decide +kernel) fl_X2_174 rfl q24 ?_
        obtain ⟨q29, h⟩ := h
        refine go_callV (d2 := d - 1) (M2 := MX2_sumOf) (n := 2) (ci := 2) (av := [vI (-1), vR (sR S17 x5 0)]) (st := []) (show decode cX2_trialOverLimit 77 = .ok (.invokevirtual 181, 3) by decide +kernel) ml_X2_181 mt_X2_sumOf min_X2_sumOf mse_X2_sumOf (by decide) q29 rfl (Nat.le_of_ble_eq_true rfl) (by omega) (ok_mono h (fun w25 S26 F27 G28 h => ?_))
        obtain ⟨z30, e9, h⟩ := h
        subst e9
        show Go d MX2_trialOverLimit 80 [some (vR a0), some (vI a1), some (vI a2), some (vR x5), some (vJ x23), none] [vJ z30] S26 F27 G28 Q
        refine go_lload (show decode cX2_trialOverLimit 80 = .ok (.lload 4, 2) by decide +kernel) (by rfl) ?_
        obtain ⟨q31, h⟩ := h
        refine go_ladd (show decode cX2_trialOverLimit 82 = .ok (.ladd, 1) by decide +kernel) q31 ?_
        refine go_aload_n (show decode cX2_trialOverLimit 83 = .ok (.aload_n 3, 1) by decide +kernel) (by rfl) ?_
        obtain ⟨q32, h⟩ := h
        refine go_getJ (show decode cX2_trialOverLimit 84 = .ok (.getfield 184, 3) by decide +kernel) fl_X2_184 rfl q32 ?_
        obtain ⟨ht, hf⟩ := h
        refine go_jle (tgt := 93) (show decode cX2_trialOverLimit 87 = .ok (.lcmp, 1) by decide +kernel) (show decode cX2_trialOverLimit 88 = .ok (.ifCond .le 5, 3) by decide +kernel) (by decide) (fun hc => ?_) (fun hc => ?_)
        · have h := ht hc
          refine go_clr 4 ?_
          exact R_X2_trialOverLimit_93 h
        · have h := hf hc
          refine go_iconst (show decode cX2_trialOverLimit 91 = .ok (.iconst 1, 1) by decide +kernel) (by decide) ?_
          exact go_zret (show decode cX2_trialOverLimit 92 = .ok (.ireturn, 1) by decide +kernel) rfl (by decide) h
def V_X2_trialOverLimit_0 (d : Nat) (S : AS) (F : AF) (G : AG) (Q : AQ) (a0 : Nat) (a1 : Int) : Prop :=
  Go d MX2_trialOverLimit 2 [some (vR a0), some (vI a1), some (vI 0), none, none, none] [] S F G Q
theorem R_X2_trialOverLimit_0 {d : Nat} {S : AS} {F : AF} {G : AG} {Q : AQ} {a0 : Nat} {a1 : Int} (h : V_X2_trialOverLimit_0 d S F G Q a0 a1) : Go d MX2_trialOverLimit 0 [some (vR a0), some (vI a1), none, none, none, none] [] S F G Q := by
  unfold V_X2_trialOverLimit_0 at h
  refine go_iconst (show decode cX2_trialOverLimit 0 = .ok (.iconst 0, 1) by decide +kernel) (by decide) ?_
  refine go_istore_n (show decode cX2_trialOverLimit 1 = .ok (.istore_n 2, 1) by decide +kernel) (by decide) ?_
  show Go d MX2_trialOverLimit 2 [some (vR a0), some (vI a1), some (vI 0), none, none, none] [] S F G Q
  exact h
def V_X2_zoneOf_0 (d : Nat) (S : AS) (F : AF) (G : AG) (Q : AQ) (a0 : Nat) (a1 : Int) : Prop :=
  ((a1 < 0) →
    Q (some (vR 0)) S F G) ∧
  ((¬ a1 < 0) →
    (sK S a0 = 2) ∧
    (sK S (sR S a0 5) = 24) ∧
    (((sN S (sR S a0 5) : Int) ≤ a1) →
      Q (some (vR 0)) S F G) ∧
    ((¬ (sN S (sR S a0 5) : Int) ≤ a1) →
      ((0 : Int) ≤ a1) ∧
      ((a1 : Int) < (sN S (sR S a0 5) : Int)) ∧
      Q (some (vR (sR S (sR S a0 5) (Int.toNat a1)))) S F G))
theorem R_X2_zoneOf_0 {d : Nat} {S : AS} {F : AF} {G : AG} {Q : AQ} {a0 : Nat} {a1 : Int} (h : V_X2_zoneOf_0 d S F G Q a0 a1) : Go d MX2_zoneOf 0 [some (vR a0), some (vI a1)] [] S F G Q := by
  unfold V_X2_zoneOf_0 at h
  refine go_iload_n (show decode cX2_zoneOf 0 = .ok (.iload_n 1, 1) by decide +kernel) (by rfl) ?_
  obtain ⟨ht, hf⟩ := h
  refine go_iflt (tgt := 22) (show decode cX2_zoneOf 1 = .ok (.ifCond .lt 21, 3) by decide +kernel) (by decide) (fun hc => ?_) (fun hc => ?_)
  · have h := ht hc
    refine go_null (show decode cX2_zoneOf 22 = .ok (.aconst_null, 1) by decide +kernel) ?_
    exact go_aret (show decode cX2_zoneOf 23 = .ok (.areturn, 1) by decide +kernel) rfl h
  · have h := hf hc
    refine go_iload_n (show decode cX2_zoneOf 4 = .ok (.iload_n 1, 1) by decide +kernel) (by rfl) ?_
    refine go_aload_n (show decode cX2_zoneOf 5 = .ok (.aload_n 0, 1) by decide +kernel) (by rfl) ?_
    obtain ⟨q1, h⟩ := h
    refine go_getR (show decode cX2_zoneOf 6 = .ok (.getfield 37, 3) by decide +kernel) fl_X2_37 rfl q1 ?_
    obtain ⟨q2, h⟩ := h
    refine go_alen (show decode cX2_zoneOf 9 = .ok (.arraylength, 1) by decide +kernel) (by omega) ?_
    obtain ⟨ht, hf⟩ := h
    refine go_icmpge (tgt := 22) (show decode cX2_zoneOf 10 = .ok (.if_icmp .ge 12, 3) by decide +kernel) (by decide) (fun hc => ?_) (fun hc => ?_)
    · have h := ht hc
      refine go_null (show decode cX2_zoneOf 22 = .ok (.aconst_null, 1) by decide +kernel) ?_
      exact go_aret (show decode cX2_zoneOf 23 = .ok (.areturn, 1) by decide +kernel) rfl h
    · have h := hf hc
      refine go_aload_n (show decode cX2_zoneOf 13 = .ok (.aload_n 0, 1) by decide +kernel) (by rfl) ?_
      refine go_getR (show decode cX2_zoneOf 14 = .ok (.getfield 37, 3) by decide +kernel) fl_X2_37 rfl q1 ?_
      refine go_iload_n (show decode cX2_zoneOf 17 = .ok (.iload_n 1, 1) by decide +kernel) (by rfl) ?_
      obtain ⟨q3, h⟩ := h
      obtain ⟨q4, h⟩ := h
      refine go_aaload (show decode cX2_zoneOf 18 = .ok (.aaload, 1) by decide +kernel) (Or.inl q2) q3 q4 ?_
      refine go_goto (tgt := 23) (show decode cX2_zoneOf 19 = .ok (.goto 4, 3) by decide +kernel) (by decide) ?_
      exact go_aret (show decode cX2_zoneOf 23 = .ok (.areturn, 1) by decide +kernel) rfl h
def V_X2_save_41 (d : Nat) (S : AS) (F : AF) (G : AG) (Q : AQ) (a0 : Nat) : Prop :=
  (sK S a0 = 2) ∧
  (sK S (sR S a0 6) = 25) ∧
  ((0 : Int) ≤ F a0 8) ∧
  ((F a0 8 : Int) < (sN S (sR S a0 6) : Int)) ∧
  (sK S (sR S (sR S a0 6) (Int.toNat (F a0 8))) = 4) ∧
  (sK S (sR S a0 3) = 21) ∧
  (1 ≤ d) ∧
  (sK S (sR S (sR S (sR S a0 6) (Int.toNat (F a0 8))) 0) = 21) ∧
  ((0 : Int) ≤ (sN S (sR S a0 3) : Int)) ∧
  ((0 + ((sN S (sR S a0 3) : Int)) : Int) ≤ (sN S (sR S a0 3) : Int)) ∧
  ((0 + ((sN S (sR S a0 3) : Int)) : Int) ≤ (sN S (sR S (sR S (sR S a0 6) (Int.toNat (F a0 8))) 0) : Int)) ∧
  ∀ G12 : AG, G12 = gcp G (sR S a0 3) (sR S (sR S (sR S a0 6) (Int.toNat (F a0 8))) 0) 0 0 ((sN S (sR S a0 3) : Int)) →
  ∀ F13 : AF, F13 = fu F (sR S (sR S a0 6) (Int.toNat (F a0 8))) 1 0 →
  (r32 ((F13 a0 8) + 1)) ∧
  ∀ F15 : AF, F15 = fu F13 a0 8 ((F13 a0 8) + 1) →
  Q none S F15 G12
theorem R_X2_save_41 {d : Nat} {S : AS} {F : AF} {G : AG} {Q : AQ} {a0 : Nat} (h : V_X2_save_41 d S F G Q a0) : Go d MX2_save 41 [some (vR a0)] [] S F G Q := by
  unfold V_X2_save_41 at h
  refine go_aload_n (show decode cX2_save 41 = .ok (.aload_n 0, 1) by decide +kernel) (by rfl) ?_
  obtain ⟨q1, h⟩ := h
  refine go_getR (show decode cX2_save 42 = .ok (.getfield 28, 3) by decide +kernel) fl_X2_28 rfl q1 ?_
  refine go_iconst (show decode cX2_save 45 = .ok (.iconst 0, 1) by decide +kernel) (by decide) ?_
  refine go_aload_n (show decode cX2_save 46 = .ok (.aload_n 0, 1) by decide +kernel) (by rfl) ?_
  refine go_getR (show decode cX2_save 47 = .ok (.getfield 43, 3) by decide +kernel) fl_X2_43 rfl q1 ?_
  refine go_aload_n (show decode cX2_save 50 = .ok (.aload_n 0, 1) by decide +kernel) (by rfl) ?_
  refine go_getI (show decode cX2_save 51 = .ok (.getfield 60, 3) by decide +kernel) fl_X2_60 (Or.inl rfl) q1 ?_
  obtain ⟨q2, h⟩ := h
  obtain ⟨q3, h⟩ := h
  obtain ⟨q4, h⟩ := h
  refine go_aaload (show decode cX2_save 54 = .ok (.aaload, 1) by decide +kernel) (Or.inr q2) q3 q4 ?_
  obtain ⟨q5, h⟩ := h
  refine go_getR (show decode cX2_save 55 = .ok (.getfield 98, 3) by decide +kernel) fl_X2_98 rfl q5 ?_
  refine go_iconst (show decode cX2_save 58 = .ok (.iconst 0, 1) by decide +kernel) (by decide) ?_
  refine go_aload_n (show decode cX2_save 59 = .ok (.aload_n 0, 1) by decide +kernel) (by rfl) ?_
  refine go_getR (show decode cX2_save 60 = .ok (.getfield 28, 3) by decide +kernel) fl_X2_28 rfl q1 ?_
  obtain ⟨q6, h⟩ := h
  refine go_alen (show decode cX2_save 63 = .ok (.arraylength, 1) by decide +kernel) (by omega) ?_
  obtain ⟨q7, h⟩ := h
  obtain ⟨q8, h⟩ := h
  obtain ⟨q9, h⟩ := h
  obtain ⟨q10, h⟩ := h
  obtain ⟨q11, h⟩ := h
  refine go_copyJ (show decode cX2_save 64 = .ok (.invokestatic 142, 3) by decide +kernel) ml_X2_142 ac_n ac_s ac_i q6 q8 (by decide) (by decide) q9 q10 q11 (Nat.le_of_ble_eq_true rfl) q7 ?_
  obtain ⟨G12, G12e⟩ : ∃ G12 : AG, G12 = gcp G (sR S a0 3) (sR S (sR S (sR S a0 6) (Int.toNat (F a0 8))) 0) 0 0 ((sN S (sR S a0 3) : Int)) := ⟨_, rfl⟩
  have h := h G12 G12e
  rw [← G12e]
  refine go_aload_n (show decode cX2_save 67 = .ok (.aload_n 0, 1) by decide +kernel) (by rfl) ?_
  refine go_getR (show decode cX2_save 68 = .ok (.getfield 43, 3) by decide +kernel) fl_X2_43 rfl q1 ?_
  refine go_aload_n (show decode cX2_save 71 = .ok (.aload_n 0, 1) by decide +kernel) (by rfl) ?_
  refine go_getI (show decode cX2_save 72 = .ok (.getfield 60, 3) by decide +kernel) fl_X2_60 (Or.inl rfl) q1 ?_
  refine go_aaload (show decode cX2_save 75 = .ok (.aaload, 1) by decide +kernel) (Or.inr q2) q3 q4 ?_
  refine go_iconst (show decode cX2_save 76 = .ok (.iconst 0, 1) by decide +kernel) (by decide) ?_
  refine go_putI (show decode cX2_save 77 = .ok (.putfield 148, 3) by decide +kernel) fl_X2_148 rfl (Or.inl rfl) q5 ?_
  obtain ⟨F13, F13e⟩ : ∃ F13 : AF, F13 = fu F (sR S (sR S a0 6) (Int.toNat (F a0 8))) 1 0 := ⟨_, rfl⟩
  have h := h F13 F13e
  rw [← F13e]
  refine go_aload_n (show decode cX2_save 80 = .ok (.aload_n 0, 1) by decide +kernel) (by rfl) ?_
  refine go_dup (show decode cX2_save 81 = .ok (.dup, 1) by decide +kernel) ?_
  refine go_getI (show decode cX2_save 82 = .ok (.getfield 60, 3) by decide +kernel) fl_X2_60 (Or.inl rfl) q1 ?_
  refine go_iconst (show decode cX2_save 85 = .ok (.iconst 1, 1) by decide +kernel) (by decide) ?_
  obtain ⟨q14, h⟩ := h
  refine go_iadd (show decode cX2_save 86 = .ok (.iadd, 1) by decide +kernel) q14 ?_
  refine go_putI (show decode cX2_save 87 = .ok (.putfield 60, 3) by decide +kernel) fl_X2_60 rfl (Or.inl rfl) q1 ?_
  obtain ⟨F15, F15e⟩ : ∃ F15 : AF, F15 = fu F13 a0 8 ((F13 a0 8) + 1) := ⟨_, rfl⟩
  have h := h F15 F15e
  rw [← F15e]
  exact go_vret (show decode cX2_save 90 = .ok (.return_, 1) by decide +kernel) rfl h
def V_X2_save_0 (d : Nat) (S : AS) (F : AF) (G : AG) (Q : AQ) (a0 : Nat) : Prop :=
  (sK S a0 = 2) ∧
  (sK S (sR S a0 6) = 25) ∧
  ((F a0 8 < (sN S (sR S a0 6) : Int)) →
    ((0 : Int) ≤ F a0 8) ∧
    ((F a0 8 : Int) < (sN S (sR S a0 6) : Int)) ∧
    ((¬ sR S (sR S a0 6) (Int.toNat (F a0 8)) = 0) →
      V_X2_save_41 d S F G Q a0) ∧
    ((sR S (sR S a0 6) (Int.toNat (F a0 8)) = 0) →
      (sn S < 999998) ∧
      ∀ x6 : Nat, x6 = sn S + 1 →
      ∀ S7 : AS, S7 = na S 4 0 2 →
      ∀ F8 : AF, F8 = nF S F →
      ∀ G9 : AG, G9 = nG S G →
      (1 ≤ d) ∧
      (1 ≤ x6) ∧
      Ok (d - 1) MX4_init [vR x6] S7 F8 G9 (fun w11 S12 F13 G14 =>
      w11 = none ∧
      (sK S12 (sR S a0 6) = 25) ∧
      ((0 : Int) ≤ F a0 8) ∧
      ((F a0 8 : Int) < (sN S12 (sR S a0 6) : Int)) ∧
      (sK S12 x6 = 4) ∧
      ∀ S20 : AS, S20 = ru S12 (sR S a0 6) (Int.toNat (F a0 8)) x6 →
      V_X2_save_41 d S20 F13 G14 Q a0))) ∧
  ((¬ F a0 8 < (sN S (sR S a0 6) : Int)) →
    Q none S F G)
theorem R_X2_save_0 {d : Nat} {S : AS} {F : AF} {G : AG} {Q : AQ} {a0 : Nat} (h : V_X2_save_0 d S F G Q a0) : Go d MX2_save 0 [some (vR a0)] [] S F G Q := by
  unfold V_X2_save_0 at h
  refine go_aload_n (show decode cX2_save 0 = .ok (.aload_n 0, 1) by decide +kernel) (by rfl) ?_
  obtain ⟨q1, h⟩ := h
  refine go_getI (show decode cX2_save 1 = .ok (.getfield 60, 3) by decide +kernel) fl_X2_60 (Or.inl rfl) q1 ?_
  refine go_aload_n (show decode cX2_save 4 = .ok (.aload_n 0, 1) by decide +kernel) (by rfl) ?_
  refine go_getR (show decode cX2_save 5 = .ok (.getfield 43, 3) by decide +kernel) fl_X2_43 rfl q1 ?_
  obtain ⟨q2, h⟩ := h
  refine go_alen (show decode cX2_save 8 = .ok (.arraylength, 1) by decide +kernel) (by omega) ?_
  obtain ⟨ht, hf⟩ := h
  refine go_icmplt (tgt := 13) (show decode cX2_save 9 = .ok (.if_icmp .lt 4, 3) by decide +kernel) (by decide) (fun hc => ?_) (fun hc => ?_)
  · have h := ht hc
    refine go_aload_n (show decode cX2_save 13 = .ok (.aload_n 0, 1) by decide +kernel) (by rfl) ?_
    refine go_getR (show decode cX2_save 14 = .ok (.getfield 43, 3) by decide +kernel) fl_X2_43 rfl q1 ?_
    refine go_aload_n (show decode cX2_save 17 = .ok (.aload_n 0, 1) by decide +kernel) (by rfl) ?_
    refine go_getI (show decode cX2_save 18 = .ok (.getfield 60, 3) by decide +kernel) fl_X2_60 (Or.inl rfl) q1 ?_
    obtain ⟨q3, h⟩ := h
    obtain ⟨q4, h⟩ := h
    refine go_aaload (show decode cX2_save 21 = .ok (.aaload, 1) by decide +kernel) (Or.inr q2) q3 q4 ?_
    obtain ⟨ht, hf⟩ := h
    refine go_ifnonnull (tgt := 41) (show decode cX2_save 22 = .ok (.ifnonnull 19, 3) by decide +kernel) (by decide) (fun hc => ?_) (fun hc => ?_)
    · have h := ht hc
      exact R_X2_save_41 h
    · have h := hf hc
      refine go_aload_n (show decode cX2_save 25 = .ok (.aload_n 0, 1) by decide +kernel) (by rfl) ?_
      refine go_getR (show decode cX2_save 26 = .ok (.getfield 43, 3) by decide +kernel) fl_X2_43 rfl q1 ?_
      refine go_aload_n (show decode cX2_save 29 = .ok (.aload_n 0, 1) by decide +kernel) (by rfl) ?_
      refine go_getI (show decode cX2_save 30 = .ok (.getfield 60, 3) by decide +kernel) fl_X2_60 (Or.inl rfl) q1 ?_
      obtain ⟨q5, h⟩ := h
      refine go_new (show decode cX2_save 33 = .ok (.new 41, 3) by decide +kernel) (by decide) cl_X2_41 ci_4 cz_4 q5 ?_
      show Go d MX2_save 36 [some (vR a0)] [vR (sn S + 1), vI (F a0 8), vR (sR S a0 6)] (na S 4 0 2) (nF S F) (nG S G) Q
      obtain ⟨x6, x6e⟩ : ∃ x6 : Nat, x6 = sn S + 1 := ⟨_, rfl⟩
      have h := h x6 x6e
      rw [← x6e]
      obtain ⟨S7, S7e⟩ : ∃ S7 : AS, S7 = na S 4 0 2 := ⟨_, rfl⟩
      have h := h S7 S7e
      rw [← S7e]
      obtain ⟨F8, F8e⟩ : ∃ F8 : AF, F8 = nF S F := ⟨_, rfl⟩
      have h := h F8 F8e
      rw [← F8e]
      obtain ⟨G9, G9e⟩ : ∃ G9 : AG, G9 = nG S G := ⟨_, rfl⟩
      have h := h G9 G9e
      rw [← G9e]
      refine go_dup (show decode cX2_save 36 = .ok (.dup, 1) by decide +kernel) ?_
      obtain ⟨q10, h⟩ := h
      obtain ⟨q15, h⟩ := h
      refine go_callIN (d2 := d - 1) (M2 := MX4_init) (n := 0) (av := []) (st := [vR x6, vI (F a0 8), vR (sR S a0 6)]) (show decode cX2_save 37 = .ok (.invokespecial 141, 3) by decide +kernel) ml_X2_141 mt_X4_init rfl rfl min_X4_init q15 rfl (Nat.le_of_ble_eq_true rfl) (by omega) (ok_mono h (fun w11 S12 F13 G14 h => ?_))
      obtain ⟨e9, h⟩ := h
      subst e9
      show Go d MX2_save 40 [some (vR a0)] [vR x6, vI (F a0 8), vR (sR S a0 6)] S12 F13 G14 Q
      obtain ⟨q16, h⟩ := h
      obtain ⟨q17, h⟩ := h
      obtain ⟨q18, h⟩ := h
      obtain ⟨q19, h⟩ := h
      refine go_aastore (show decode cX2_save 40 = .ok (.aastore, 1) by decide +kernel) (Or.inr q16) q19 (by decide) (by rw [q16]; rfl) q17 q18 ?_
      obtain ⟨S20, S20e⟩ : ∃ S20 : AS, S20 = ru S12 (sR S a0 6) (Int.toNat (F a0 8)) x6 := ⟨_, rfl⟩
      have h := h S20 S20e
      rw [← S20e]
      exact R_X2_save_41 h
  · have h := hf hc
    exact go_vret (show decode cX2_save 12 = .ok (.return_, 1) by decide +kernel) rfl h
