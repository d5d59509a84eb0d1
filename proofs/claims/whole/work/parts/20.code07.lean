def V_X10_wantsMoved_78 (d : Nat) (S : AS) (F : AF) (G : AG) (Q : AQ) (a0 : Nat) (a1 : Int) (a2 : Int) (a3 : Int) (a4 : Int) (a5 : Int) (a6 : Int) : Prop :=
  (r32 (a5 + 1)) ∧
  Go d MX10_wantsMoved 31 [some (vR a0), some (vI a1), some (vI a2), some (vI a3), some (vI a4), some (vI (a5 + 1)), none] [] S F G Q
theorem R_X10_wantsMoved_78 {d : Nat} {S : AS} {F : AF} {G : AG} {Q : AQ} {a0 : Nat} {a1 : Int} {a2 : Int} {a3 : Int} {a4 : Int} {a5 : Int} {a6 : Int} (h : V_X10_wantsMoved_78 d S F G Q a0 a1 a2 a3 a4 a5 a6) : Go d MX10_wantsMoved 78 [some (vR a0), some (vI a1), some (vI a2), some (vI a3), some (vI a4), some (vI a5), some (vI a6)] [] S F G Q := by
  unfold V_X10_wantsMoved_78 at h
  obtain ⟨q1, h⟩ := h
  refine go_iinc (show decode cX10_wantsMoved 78 = .ok (.iinc 5 1, 3) by decide +kernel) (by rfl) q1 (by decide) ?_
  show Go d MX10_wantsMoved 81 [some (vR a0), some (vI a1), some (vI a2), some (vI a3), some (vI a4), some (vI (a5 + 1)), some (vI a6)] [] S F G Q
  refine go_goto (tgt := 31) (show decode cX10_wantsMoved 81 = .ok (.goto (-50), 3) by decide +kernel) (by decide) ?_
  refine go_clr 6 ?_
  exact h
def V_X10_wantsMoved_31 (d : Nat) (S : AS) (F : AF) (G : AG) (Q : AQ) (a0 : Nat) (a1 : Int) (a2 : Int) (a3 : Int) (a4 : Int) (a5 : Int) : Prop :=
  (sK S a0 = 10) ∧
  (sK S (sR S a0 5) = 20) ∧
  ((0 : Int) ≤ a1) ∧
  ((a1 : Int) < (sN S (sR S a0 5) : Int)) ∧
  ((G (sR S a0 5) a1 ≤ a5) →
    Q none S F G) ∧
  ((¬ G (sR S a0 5) a1 ≤ a5) →
    (r32 (48 * a1)) ∧
    (r32 ((48 * a1) + a5)) ∧
    (sK S (sR S a0 4) = 20) ∧
    ((0 : Int) ≤ (48 * a1) + a5) ∧
    (((48 * a1) + a5 : Int) < (sN S (sR S a0 4) : Int)) ∧
    ∀ x10 : Int, x10 = G (sR S a0 4) ((48 * a1) + a5) →
    ((x10 ≤ a2) →
      V_X10_wantsMoved_78 d S F G Q a0 a1 a2 a3 a4 a5 x10) ∧
    ((¬ x10 ≤ a2) →
      ((a3 < x10) →
        V_X10_wantsMoved_78 d S F G Q a0 a1 a2 a3 a4 a5 x10) ∧
      ((¬ a3 < x10) →
        (r32 (x10 + a4)) ∧
        (1 ≤ d) ∧
        Ok (d - 1) MX10_wants [vR a0, vI a1, vI (x10 + a4)] S F G (fun w13 S14 F15 G16 =>
        w13 = none ∧
        V_X10_wantsMoved_78 d S14 F15 G16 Q a0 a1 a2 a3 a4 a5 x10))))
theorem R_X10_wantsMoved_31 {d : Nat} {S : AS} {F : AF} {G : AG} {Q : AQ} {a0 : Nat} {a1 : Int} {a2 : Int} {a3 : Int} {a4 : Int} {a5 : Int} (h : V_X10_wantsMoved_31 d S F G Q a0 a1 a2 a3 a4 a5) : Go d MX10_wantsMoved 31 [some (vR a0), some (vI a1), some (vI a2), some (vI a3), some (vI a4), some (vI a5), none] [] S F G Q := by
  unfold V_X10_wantsMoved_31 at h
  refine go_iload (show decode cX10_wantsMoved 31 = .ok (.iload 5, 2) by decide +kernel) (by rfl) ?_
  refine go_aload_n (show decode cX10_wantsMoved 33 = .ok (.aload_n 0, 1) by decide +kernel) (by rfl) ?_
  obtain ⟨q1, h⟩ := h
  refine go_getR (show decode cX10_wantsMoved 34 = .ok (.getfield 29, 3) by decide +kernel) fl_X10_29 rfl q1 ?_
  refine go_iload_n (show decode cX10_wantsMoved 37 = .ok (.iload_n 1, 1) by decide +kernel) (by rfl) ?_
  obtain ⟨q2, h⟩ := h
  obtain ⟨q3, h⟩ := h
  obtain ⟨q4, h⟩ := h
  refine go_iaload (show decode cX10_wantsMoved 38 = .ok (.iaload, 1) by decide +kernel) q2 q3 q4 ?_
  obtain ⟨ht, hf⟩ := h
  refine go_icmpge (tgt := 84) (show decode cX10_wantsMoved 39 = .ok (.if_icmp .ge 45, 3) by decide +kernel) (by decide) (fun hc => ?_) (fun hc => ?_)
  · have h := ht hc
    exact go_vret (show decode cX10_wantsMoved 84 = .ok (.return_, 1) by decide +kernel) rfl h
  · have h := hf hc
    refine go_aload_n (show decode cX10_wantsMoved 42 = .ok (.aload_n 0, 1) by decide +kernel) (by rfl) ?_
    refine go_getR (show decode cX10_wantsMoved 43 = .ok (.getfield 25, 3) by decide +kernel) fl_X10_25 rfl q1 ?_
    refine go_bipush (show decode cX10_wantsMoved 46 = .ok (.bipush 48, 2) by decide +kernel) (by decide) ?_
    refine go_iload_n (show decode cX10_wantsMoved 48 = .ok (.iload_n 1, 1) by decide +kernel) (by rfl) ?_
    obtain ⟨q5, h⟩ := h
    refine go_imul (show decode cX10_wantsMoved 49 = .ok (.imul, 1) by decide +kernel) q5 ?_
    refine go_iload (show decode cX10_wantsMoved 50 = .ok (.iload 5, 2) by decide +kernel) (by rfl) ?_
    obtain ⟨q6, h⟩ := h
    refine go_iadd (show decode cX10_wantsMoved 52 = .ok (.iadd, 1) by decide +kernel) q6 ?_
    obtain ⟨q7, h⟩ := h
    obtain ⟨q8, h⟩ := h
    obtain ⟨q9, h⟩ := h
    refine go_iaload (show decode cX10_wantsMoved 53 = .ok (.iaload, 1) by decide +kernel) q7 q8 q9 ?_
    obtain ⟨x10, x10e⟩ : ∃ x10 : Int, x10 = G (sR S a0 4) ((48 * a1) + a5) := ⟨_, rfl⟩
    have h := h x10 x10e
    rw [← x10e]
    refine go_istore (show decode cX10_wantsMoved 54 = .ok (.istore 6, 2) by decide +kernel) (by decide) ?_
    show Go d MX10_wantsMoved 56 [some (vR a0), some (vI a1), some (vI a2), some (vI a3), some (vI a4), some (vI a5), some (vI x10)] [] S F G Q
    refine go_iload (show decode cX10_wantsMoved 56 = .ok (.iload 6, 2) by decide +kernel) (by rfl) ?_
    refine go_iload_n (show decode cX10_wantsMoved 58 = .ok (.iload_n 2, 1) by decide +kernel) (by rfl) ?_
    obtain ⟨ht, hf⟩ := h
    refine go_icmple (tgt := 78) (show decode cX10_wantsMoved 59 = .ok (.if_icmp .le 19, 3) by decide +kernel) (by decide) (fun hc => ?_) (fun hc => ?_)
    · have h := ht hc
      exact R_X10_wantsMoved_78 h
    · have h := hf hc
      refine go_iload (show decode cX10_wantsMoved 62 = .ok (.iload 6, 2) by decide +kernel) (by rfl) ?_
      refine go_iload_n (show decode cX10_wantsMoved 64 = .ok (.iload_n 3, 1) by decide +kernel) (by rfl) ?_
      obtain ⟨ht, hf⟩ := h
      refine go_icmpgt (tgt := 78) (show decode cX10_wantsMoved 65 = .ok (.if_icmp .gt 13, 3) by decide +kernel) (by decide) (fun hc => ?_) (fun hc => ?_)
      · have h := ht hc
        exact R_X10_wantsMoved_78 h
      · have h := hf hc
        refine go_aload_n (show decode cX10_wantsMoved 68 = .ok (.aload_n 0, 1) by decide +kernel) (by rfl) ?_
        refine go_iload_n (show decode cX10_wantsMoved 69 = .ok (.iload_n 1, 1) by decide +kernel) (by rfl) ?_
        refine go_iload (show decode cX10_wantsMoved 70 = .ok (.iload 6, 2) by decide +kernel) (by rfl) ?_
        refine go_iload (show decode cX10_wantsMoved 72 = .ok (.iload 4, 2) by decide +kernel) (by rfl) ?_
        obtain ⟨q11, h⟩ := h
        refine go_iadd (show decode cX10_wantsMoved 74 = .ok (.iadd, 1) by decide +kernel) q11 ?_
        obtain ⟨q12, h⟩ := h
        refine go_callV (d2 := d - 1) (M2 := MX10_wants) (n := 2) (ci := 10) (av := [vI a1, vI (x10 + a4)]) (st := []) (show decode cX10_wantsMoved 75 = .ok (.invokevirtual 145, 3) by decide +kernel) ml_X10_145 mt_X10_wants min_X10_wants mse_X10_wants (by decide) q1 rfl (Nat.le_of_ble_eq_true rfl) (by omega) (ok_mono h (fun w13 S14 F15 G16 h => ?_))
        obtain ⟨e9, h⟩ := h
        subst e9
        show Go d MX10_wantsMoved 78 [some (vR a0), some (vI a1), some (vI a2), some (vI a3), some (vI a4), some (vI a5), some (vI x10)] [] S14 F15 G16 Q
        exact R_X10_wantsMoved_78 h
def V_X10_wantsMoved_0 (d : Nat) (S : AS) (F : AF) (G : AG) (Q : AQ) (a0 : Nat) (a1 : Int) (a2 : Int) (a3 : Int) (a4 : Int) : Prop :=
  (1 ≤ d) ∧
  (sK S a0 = 10) ∧
  Ok (d - 1) MX10_wantsAll [vR a0, vI a1, vI a2, vI a3, vI (-1)] S F G (fun w2 S3 F4 G5 =>
  w2 = none ∧
  (r32 (a2 + a4)) ∧
  (sK S3 a0 = 10) ∧
  Ok (d - 1) MX10_wants [vR a0, vI a1, vI (a2 + a4)] S3 F4 G5 (fun w8 S9 F10 G11 =>
  w8 = none ∧
  (r32 (a3 + a4)) ∧
  (r32 ((a3 + a4) + 1)) ∧
  (sK S9 a0 = 10) ∧
  Ok (d - 1) MX10_wants [vR a0, vI a1, vI ((a3 + a4) + 1)] S9 F10 G11 (fun w15 S16 F17 G18 =>
  w15 = none ∧
  Go d MX10_wantsMoved 31 [some (vR a0), some (vI a1), some (vI a2), some (vI a3), some (vI a4), some (vI 0), none] [] S16 F17 G18 Q)))
theorem R_X10_wantsMoved_0 {d : Nat} {S : AS} {F : AF} {G : AG} {Q : AQ} {a0 : Nat} {a1 : Int} {a2 : Int} {a3 : Int} {a4 : Int} (h : V_X10_wantsMoved_0 d S F G Q a0 a1 a2 a3 a4) : Go d MX10_wantsMoved 0 [some (vR a0), some (vI a1), some (vI a2), some (vI a3), some (vI a4), none, none] [] S F G Q := by
  unfold V_X10_wantsMoved_0 at h
  refine go_aload_n (show decode cX10_wantsMoved 0 = .ok (.aload_n 0, 1) by decide +kernel) (by rfl) ?_
  refine go_iload_n (show decode cX10_wantsMoved 1 = .ok (.iload_n 1, 1) by decide +kernel) (by rfl) ?_
  refine go_iload_n (show decode cX10_wantsMoved 2 = .ok (.iload_n 2, 1) by decide +kernel) (by rfl) ?_
  refine go_iload_n (show decode cX10_wantsMoved 3 = .ok (.iload_n 3, 1) by decide +kernel) (by rfl) ?_
  refine go_iconst (show decode cX10_wantsMoved 4 = .ok (.iconst (-1), 1) by decide +kernel) (by decide) ?_
  obtain ⟨q1, h⟩ := h
  obtain ⟨q6, h⟩ := h
  refine go_callV (d2 := d - 1) (M2 := MX10_wantsAll) (n := 4) (ci := 10) (av := [vI a1, vI a2, vI a3, vI (-1)]) (st := []) (show decode cX10_wantsMoved 5 = .ok (.invokevirtual 149, 3) by decide +kernel) ml_X10_149 mt_X10_wantsAll min_X10_wantsAll mse_X10_wantsAll (by decide) q6 rfl (Nat.le_of_ble_eq_true rfl) (by omega) (ok_mono h (fun w2 S3 F4 G5 h => ?_))
  obtain ⟨e9, h⟩ := h
  subst e9
  show Go d MX10_wantsMoved 8 [some (vR a0), some (vI a1), some (vI a2), some (vI a3), some (vI a4), none, none] [] S3 F4 G5 Q
  refine go_aload_n (show decode cX10_wantsMoved 8 = .ok (.aload_n 0, 1) by decide +kernel) (by rfl) ?_
  refine go_iload_n (show decode cX10_wantsMoved 9 = .ok (.iload_n 1, 1) by decide +kernel) (by rfl) ?_
  refine go_iload_n (show decode cX10_wantsMoved 10 = .ok (.iload_n 2, 1) by decide +kernel) (by rfl) ?_
  refine go_iload (show decode cX10_wantsMoved 11 = .ok (.iload 4, 2) by decide +kernel) (by rfl) ?_
  obtain ⟨q7, h⟩ := h
  refine go_iadd (show decode cX10_wantsMoved 13 = .ok (.iadd, 1) by decide +kernel) q7 ?_
  obtain ⟨q12, h⟩ := h
  refine go_callV (d2 := d - 1) (M2 := MX10_wants) (n := 2) (ci := 10) (av := [vI a1, vI (a2 + a4)]) (st := []) (show decode cX10_wantsMoved 14 = .ok (.invokevirtual 145, 3) by decide +kernel) ml_X10_145 mt_X10_wants min_X10_wants mse_X10_wants (by decide) q12 rfl (Nat.le_of_ble_eq_true rfl) (by omega) (ok_mono h (fun w8 S9 F10 G11 h => ?_))
  obtain ⟨e9, h⟩ := h
  subst e9
  show Go d MX10_wantsMoved 17 [some (vR a0), some (vI a1), some (vI a2), some (vI a3), some (vI a4), none, none] [] S9 F10 G11 Q
  refine go_aload_n (show decode cX10_wantsMoved 17 = .ok (.aload_n 0, 1) by decide +kernel) (by rfl) ?_
  refine go_iload_n (show decode cX10_wantsMoved 18 = .ok (.iload_n 1, 1) by decide +kernel) (by rfl) ?_
  refine go_iload_n (show decode cX10_wantsMoved 19 = .ok (.iload_n 3, 1) by decide +kernel) (by rfl) ?_
  refine go_iload (show decode cX10_wantsMoved 20 = .ok (.iload 4, 2) by decide +kernel) (by rfl) ?_
  obtain ⟨q13, h⟩ := h
  refine go_iadd (show decode cX10_wantsMoved 22 = .ok (.iadd, 1) by decide +kernel) q13 ?_
  refine go_iconst (show decode cX10_wantsMoved 23 = .ok (.iconst 1, 1) by decide +kernel) (by decide) ?_
  obtain ⟨q14, h⟩ := h
  refine go_iadd (show decode cX10_wantsMoved 24 = .ok (.iadd, 1) by decide +kernel) q14 ?_
  obtain ⟨q19, h⟩ := h
  refine go_callV (d2 := d - 1) (M2 := MX10_wants) (n := 2) (ci := 10) (av := [vI a1, vI ((a3 + a4) + 1)]) (st := []) (show decode cX10_wantsMoved 25 = .ok (.invokevirtual 145, 3) by decide +kernel) ml_X10_145 mt_X10_wants min_X10_wants mse_X10_wants (by decide) q19 rfl (Nat.le_of_ble_eq_true rfl) (by omega) (ok_mono h (fun w15 S16 F17 G18 h => ?_))
  obtain ⟨e9, h⟩ := h
  subst e9
  show Go d MX10_wantsMoved 28 [some (vR a0), some (vI a1), some (vI a2), some (vI a3), some (vI a4), none, none] [] S16 F17 G18 Q
  refine go_iconst (show decode cX10_wantsMoved 28 = .ok (.iconst 0, 1) by decide +kernel) (by decide) ?_
  refine go_istore (show decode cX10_wantsMoved 29 = .ok (.istore 5, 2) by decide +kernel) (by decide) ?_
  show Go d MX10_wantsMoved 31 [some (vR a0), some (vI a1), some (vI a2), some (vI a3), some (vI a4), some (vI 0), none] [] S16 F17 G18 Q
  exact h
def V_X10_laysThen_55 (d : Nat) (S : AS) (F : AF) (G : AG) (Q : AQ) (a0 : Nat) (a1 : Int) (a2 : Int) (a3 : Int) (a4 : Int) : Prop :=
  (sK S a0 = 10) ∧
  (r32 (48 * a1)) ∧
  (r32 ((48 * a1) + a4)) ∧
  (r32 (((48 * a1) + a4) - 1)) ∧
  (sK S (sR S a0 28) = 20) ∧
  ((0 : Int) ≤ ((48 * a1) + a4) - 1) ∧
  ((((48 * a1) + a4) - 1 : Int) < (sN S (sR S a0 28) : Int)) ∧
  (sK S (sR S a0 19) = 20) ∧
  ((0 : Int) ≤ a3) ∧
  ((a3 : Int) < (sN S (sR S a0 19) : Int)) ∧
  ((G (sR S a0 28) (((48 * a1) + a4) - 1) ≤ G (sR S a0 19) a3) →
    ((0 : Int) ≤ (48 * a1) + a4) ∧
    (((48 * a1) + a4 : Int) < (sN S (sR S a0 28) : Int)) ∧
    ∀ G13 : AG, G13 = gu G (sR S a0 28) ((48 * a1) + a4) (G (sR S a0 19) a3) →
    (r32 (a2 + 1)) ∧
    (r32 (a3 + 1)) ∧
    Go d MX10_laysThen 44 [some (vR a0), some (vI a1), some (vI (a2 + 1)), some (vI (a3 + 1)), none] [] S F G13 Q) ∧
  ((¬ G (sR S a0 28) (((48 * a1) + a4) - 1) ≤ G (sR S a0 19) a3) →
    ((0 : Int) ≤ (48 * a1) + a4) ∧
    (((48 * a1) + a4 : Int) < (sN S (sR S a0 28) : Int)) ∧
    ∀ G18 : AG, G18 = gu G (sR S a0 28) ((48 * a1) + a4) (G (sR S a0 28) (((48 * a1) + a4) - 1)) →
    (r32 (a4 + (-1))) ∧
    Go d MX10_laysThen 55 [some (vR a0), some (vI a1), some (vI a2), some (vI a3), some (vI (a4 + (-1)))] [] S F G18 Q)
theorem R_X10_laysThen_55 {d : Nat} {S : AS} {F : AF} {G : AG} {Q : AQ} {a0 : Nat} {a1 : Int} {a2 : Int} {a3 : Int} {a4 : Int} (h : V_X10_laysThen_55 d S F G Q a0 a1 a2 a3 a4) : Go d MX10_laysThen 55 [some (vR a0), some (vI a1), some (vI a2), some (vI a3), some (vI a4)] [] S F G Q := by
  unfold V_X10_laysThen_55 at h
  refine go_aload_n (show decode cX10_laysThen 55 = .ok (.aload_n 0, 1) by decide +kernel) (by rfl) ?_
  obtain ⟨q1, h⟩ := h
  refine go_getR (show decode cX10_laysThen 56 = .ok (.getfield 71, 3) by decide +kernel) fl_X10_71 rfl q1 ?_
  refine go_bipush (show decode cX10_laysThen 59 = .ok (.bipush 48, 2) by decide +kernel) (by decide) ?_
  refine go_iload_n (show decode cX10_laysThen 61 = .ok (.iload_n 1, 1) by decide +kernel) (by rfl) ?_
  obtain ⟨q2, h⟩ := h
  refine go_imul (show decode cX10_laysThen 62 = .ok (.imul, 1) by decide +kernel) q2 ?_
  refine go_iload (show decode cX10_laysThen 63 = .ok (.iload 4, 2) by decide +kernel) (by rfl) ?_
  obtain ⟨q3, h⟩ := h
  refine go_iadd (show decode cX10_laysThen 65 = .ok (.iadd, 1) by decide +kernel) q3 ?_
  refine go_iconst (show decode cX10_laysThen 66 = .ok (.iconst 1, 1) by decide +kernel) (by decide) ?_
  obtain ⟨q4, h⟩ := h
  refine go_isub (show decode cX10_laysThen 67 = .ok (.isub, 1) by decide +kernel) q4 ?_
  obtain ⟨q5, h⟩ := h
  obtain ⟨q6, h⟩ := h
  obtain ⟨q7, h⟩ := h
  refine go_iaload (show decode cX10_laysThen 68 = .ok (.iaload, 1) by decide +kernel) q5 q6 q7 ?_
  refine go_aload_n (show decode cX10_laysThen 69 = .ok (.aload_n 0, 1) by decide +kernel) (by rfl) ?_
  refine go_getR (show decode cX10_laysThen 70 = .ok (.getfield 68, 3) by decide +kernel) fl_X10_68 rfl q1 ?_
  refine go_iload_n (show decode cX10_laysThen 73 = .ok (.iload_n 3, 1) by decide +kernel) (by rfl) ?_
  obtain ⟨q8, h⟩ := h
  obtain ⟨q9, h⟩ := h
  obtain ⟨q10, h⟩ := h
  refine go_iaload (show decode cX10_laysThen 74 = .ok (.iaload, 1) by decide +kernel) q8 q9 q10 ?_
  obtain ⟨ht, hf⟩ := h
  refine go_icmple (tgt := 110) (show decode cX10_laysThen 75 = .ok (.if_icmp .le 35, 3) by decide +kernel) (by decide) (fun hc => ?_) (fun hc => ?_)
  · have h := ht hc
    refine go_aload_n (show decode cX10_laysThen 110 = .ok (.aload_n 0, 1) by decide +kernel) (by rfl) ?_
    refine go_getR (show decode cX10_laysThen 111 = .ok (.getfield 71, 3) by decide +kernel) fl_X10_71 rfl q1 ?_
    refine go_bipush (show decode cX10_laysThen 114 = .ok (.bipush 48, 2) by decide +kernel) (by decide) ?_
    refine go_iload_n (show decode cX10_laysThen 116 = .ok (.iload_n 1, 1) by decide +kernel) (by rfl) ?_
    refine go_imul (show decode cX10_laysThen 117 = .ok (.imul, 1) by decide +kernel) q2 ?_
    refine go_iload (show decode cX10_laysThen 118 = .ok (.iload 4, 2) by decide +kernel) (by rfl) ?_
    refine go_iadd (show decode cX10_laysThen 120 = .ok (.iadd, 1) by decide +kernel) q3 ?_
    refine go_aload_n (show decode cX10_laysThen 121 = .ok (.aload_n 0, 1) by decide +kernel) (by rfl) ?_
    refine go_getR (show decode cX10_laysThen 122 = .ok (.getfield 68, 3) by decide +kernel) fl_X10_68 rfl q1 ?_
    refine go_iload_n (show decode cX10_laysThen 125 = .ok (.iload_n 3, 1) by decide +kernel) (by rfl) ?_
    refine go_iaload (show decode cX10_laysThen 126 = .ok (.iaload, 1) by decide +kernel) q8 q9 q10 ?_
    obtain ⟨q11, h⟩ := h
    obtain ⟨q12, h⟩ := h
    refine go_iastore (show decode cX10_laysThen 127 = .ok (.iastore, 1) by decide +kernel) q5 q11 q12  ?_
    obtain ⟨G13, G13e⟩ : ∃ G13 : AG, G13 = gu G (sR S a0 28) ((48 * a1) + a4) (G (sR S a0 19) a3) := ⟨_, rfl⟩
    have h := h G13 G13e
    rw [← G13e]
    obtain ⟨q14, h⟩ := h
    refine go_iinc (show decode cX10_laysThen 128 = .ok (.iinc 2 1, 3) by decide +kernel) (by rfl) q14 (by decide) ?_
    show Go d MX10_laysThen 131 [some (vR a0), some (vI a1), some (vI (a2 + 1)), some (vI a3), some (vI a4)] [] S F G13 Q
    obtain ⟨q15, h⟩ := h
    refine go_iinc (show decode cX10_laysThen 131 = .ok (.iinc 3 1, 3) by decide +kernel) (by rfl) q15 (by decide) ?_
    show Go d MX10_laysThen 134 [some (vR a0), some (vI a1), some (vI (a2 + 1)), some (vI (a3 + 1)), some (vI a4)] [] S F G13 Q
    refine go_goto (tgt := 44) (show decode cX10_laysThen 134 = .ok (.goto (-90), 3) by decide +kernel) (by decide) ?_
    refine go_clr 4 ?_
    exact h
  · have h := hf hc
    refine go_aload_n (show decode cX10_laysThen 78 = .ok (.aload_n 0, 1) by decide +kernel) (by rfl) ?_
    refine go_getR (show decode cX10_laysThen 79 = .ok (.getfield 71, 3) by decide +kernel) fl_X10_71 rfl q1 ?_
    refine go_bipush (show decode cX10_laysThen 82 = .ok (.bipush 48, 2) by decide +kernel) (by decide) ?_
    refine go_iload_n (show decode cX10_laysThen 84 = .ok (.iload_n 1, 1) by decide +kernel) (by rfl) ?_
    refine go_imul (show decode cX10_laysThen 85 = .ok (.imul, 1) by decide +kernel) q2 ?_
    refine go_iload (show decode cX10_laysThen 86 = .ok (.iload 4, 2) by decide +kernel) (by rfl) ?_
    refine go_iadd (show decode cX10_laysThen 88 = .ok (.iadd, 1) by decide +kernel) q3 ?_
    refine go_aload_n (show decode cX10_laysThen 89 = .ok (.aload_n 0, 1) by decide +kernel) (by rfl) ?_
    refine go_getR (show decode cX10_laysThen 90 = .ok (.getfield 71, 3) by decide +kernel) fl_X10_71 rfl q1 ?_
    refine go_bipush (show decode cX10_laysThen 93 = .ok (.bipush 48, 2) by decide +kernel) (by decide) ?_
    refine go_iload_n (show decode cX10_laysThen 95 = .ok (.iload_n 1, 1) by decide +kernel) (by rfl) ?_
    refine go_imul (show decode cX10_laysThen 96 = .ok (.imul, 1) by decide +kernel) q2 ?_
    refine go_iload (show decode cX10_laysThen 97 = .ok (.iload 4, 2) by decide +kernel) (by rfl) ?_
    refine go_iadd (show decode cX10_laysThen 99 = .ok (.iadd, 1) by decide +kernel) q3 ?_
    refine go_iconst (show decode cX10_laysThen 100 = .ok (.iconst 1, 1) by decide +kernel) (by decide) ?_
    refine go_isub (show decode cX10_laysThen 101 = .ok (.isub, 1) by decide +kernel) q4 ?_
    refine go_iaload (show decode cX10_laysThen 102 = .ok (.iaload, 1) by decide +kernel) q5 q6 q7 ?_
    obtain ⟨q16, h⟩ := h
    obtain ⟨q17, h⟩ := h
    refine go_iastore (show decode cX10_laysThen 103 = .ok (.iastore, 1) by decide +kernel) q5 q16 q17  ?_
    obtain ⟨G18, G18e⟩ : ∃ G18 : AG, G18 = gu G (sR S a0 28) ((48 * a1) + a4) (G (sR S a0 28) (((48 * a1) + a4) - 1)) := ⟨_, rfl⟩
    have h := h G18 G18e
    rw [← G18e]
    obtain ⟨q19, h⟩ := h
    refine go_iinc (show decode cX10_laysThen 104 = .ok (.iinc 4 (-1), 3) by decide +kernel) (by rfl) q19 (by decide) ?_
    show Go d MX10_laysThen 107 [some (vR a0), some (vI a1), some (vI a2), some (vI a3), some (vI (a4 + (-1)))] [] S F G18 Q
    refine go_goto (tgt := 55) (show decode cX10_laysThen 107 = .ok (.goto (-52), 3) by decide +kernel) (by decide) ?_
    exact h
def V_X10_laysThen_44 (d : Nat) (S : AS) (F : AF) (G : AG) (Q : AQ) (a0 : Nat) (a1 : Int) (a2 : Int) (a3 : Int) : Prop :=
  (sK S a0 = 10) ∧
  ((F a0 20 ≤ a3) →
    (sK S (sR S a0 29) = 20) ∧
    ((0 : Int) ≤ a1) ∧
    ((a1 : Int) < (sN S (sR S a0 29) : Int)) ∧
    ∀ G5 : AG, G5 = gu G (sR S a0 29) a1 a2 →
    Q none S F G5) ∧
  ((¬ F a0 20 ≤ a3) →
    Go d MX10_laysThen 55 [some (vR a0), some (vI a1), some (vI a2), some (vI a3), some (vI a2)] [] S F G Q)
theorem R_X10_laysThen_44 {d : Nat} {S : AS} {F : AF} {G : AG} {Q : AQ} {a0 : Nat} {a1 : Int} {a2 : Int} {a3 : Int} (h : V_X10_laysThen_44 d S F G Q a0 a1 a2 a3) : Go d MX10_laysThen 44 [some (vR a0), some (vI a1), some (vI a2), some (vI a3), none] [] S F G Q := by
  unfold V_X10_laysThen_44 at h
  refine go_iload_n (show decode cX10_laysThen 44 = .ok (.iload_n 3, 1) by decide +kernel) (by rfl) ?_
  refine go_aload_n (show decode cX10_laysThen 45 = .ok (.aload_n 0, 1) by decide +kernel) (by rfl) ?_
  obtain ⟨q1, h⟩ := h
  refine go_getI (show decode cX10_laysThen 46 = .ok (.getfield 142, 3) by decide +kernel) fl_X10_142 (Or.inl rfl) q1 ?_
  obtain ⟨ht, hf⟩ := h
  refine go_icmpge (tgt := 137) (show decode cX10_laysThen 49 = .ok (.if_icmp .ge 88, 3) by decide +kernel) (by decide) (fun hc => ?_) (fun hc => ?_)
  · have h := ht hc
    refine go_aload_n (show decode cX10_laysThen 137 = .ok (.aload_n 0, 1) by decide +kernel) (by rfl) ?_
    refine go_getR (show decode cX10_laysThen 138 = .ok (.getfield 74, 3) by decide +kernel) fl_X10_74 rfl q1 ?_
    refine go_iload_n (show decode cX10_laysThen 141 = .ok (.iload_n 1, 1) by decide +kernel) (by rfl) ?_
    refine go_iload_n (show decode cX10_laysThen 142 = .ok (.iload_n 2, 1) by decide +kernel) (by rfl) ?_
    obtain ⟨q2, h⟩ := h
    obtain ⟨q3, h⟩ := h
    obtain ⟨q4, h⟩ := h
    refine go_iastore (show decode cX10_laysThen 143 = .ok (.iastore, 1) by decide +kernel) q2 q3 q4  ?_
    obtain ⟨G5, G5e⟩ : ∃ G5 : AG, G5 = gu G (sR S a0 29) a1 a2 := ⟨_, rfl⟩
    have h := h G5 G5e
    rw [← G5e]
    exact go_vret (show decode cX10_laysThen 144 = .ok (.return_, 1) by decide +kernel) rfl h
  · have h := hf hc
    refine go_iload_n (show decode cX10_laysThen 52 = .ok (.iload_n 2, 1) by decide +kernel) (by rfl) ?_
    refine go_istore (show decode cX10_laysThen 53 = .ok (.istore 4, 2) by decide +kernel) (by decide) ?_
    show Go d MX10_laysThen 55 [some (vR a0), some (vI a1), some (vI a2), some (vI a3), some (vI a2)] [] S F G Q
    exact h
def V_X10_laysThen_9 (d : Nat) (S : AS) (F : AF) (G : AG) (Q : AQ) (a0 : Nat) (a1 : Int) (a2 : Int) (a3 : Int) : Prop :=
  ((a2 ≤ a3) →
    Go d MX10_laysThen 44 [some (vR a0), some (vI a1), some (vI a2), some (vI 0), none] [] S F G Q) ∧
  ((¬ a2 ≤ a3) →
    (sK S a0 = 10) ∧
    (r32 (48 * a1)) ∧
    (r32 ((48 * a1) + a3)) ∧
    (sK S (sR S a0 4) = 20) ∧
    ((0 : Int) ≤ (48 * a1) + a3) ∧
    (((48 * a1) + a3 : Int) < (sN S (sR S a0 4) : Int)) ∧
    (sK S (sR S a0 28) = 20) ∧
    (((48 * a1) + a3 : Int) < (sN S (sR S a0 28) : Int)) ∧
    ∀ G9 : AG, G9 = gu G (sR S a0 28) ((48 * a1) + a3) (G (sR S a0 4) ((48 * a1) + a3)) →
    (r32 (a3 + 1)) ∧
    Go d MX10_laysThen 9 [some (vR a0), some (vI a1), some (vI a2), some (vI (a3 + 1)), none] [] S F G9 Q)
theorem R_X10_laysThen_9 {d : Nat} {S : AS} {F : AF} {G : AG} {Q : AQ} {a0 : Nat} {a1 : Int} {a2 : Int} {a3 : Int} (h : V_X10_laysThen_9 d S F G Q a0 a1 a2 a3) : Go d MX10_laysThen 9 [some (vR a0), some (vI a1), some (vI a2), some (vI a3), none] [] S F G Q := by
  unfold V_X10_laysThen_9 at h
  refine go_iload_n (show decode cX10_laysThen 9 = .ok (.iload_n 3, 1) by decide +kernel) (by rfl) ?_
  refine go_iload_n (show decode cX10_laysThen 10 = .ok (.iload_n 2, 1) by decide +kernel) (by rfl) ?_
  obtain ⟨ht, hf⟩ := h
  refine go_icmpge (tgt := 42) (show decode cX10_laysThen 11 = .ok (.if_icmp .ge 31, 3) by decide +kernel) (by decide) (fun hc => ?_) (fun hc => ?_)
  · have h := ht hc
    refine go_iconst (show decode cX10_laysThen 42 = .ok (.iconst 0, 1) by decide +kernel) (by decide) ?_
    refine go_istore_n (show decode cX10_laysThen 43 = .ok (.istore_n 3, 1) by decide +kernel) (by decide) ?_
    show Go d MX10_laysThen 44 [some (vR a0), some (vI a1), some (vI a2), some (vI 0), none] [] S F G Q
    exact h
  · have h := hf hc
    refine go_aload_n (show decode cX10_laysThen 14 = .ok (.aload_n 0, 1) by decide +kernel) (by rfl) ?_
    obtain ⟨q1, h⟩ := h
    refine go_getR (show decode cX10_laysThen 15 = .ok (.getfield 71, 3) by decide +kernel) fl_X10_71 rfl q1 ?_
    refine go_bipush (show decode cX10_laysThen 18 = .ok (.bipush 48, 2) by decide +kernel) (by decide) ?_
    refine go_iload_n (show decode cX10_laysThen 20 = .ok (.iload_n 1, 1) by decide +kernel) (by rfl) ?_
    obtain ⟨q2, h⟩ := h
    refine go_imul (show decode cX10_laysThen 21 = .ok (.imul, 1) by decide +kernel) q2 ?_
    refine go_iload_n (show decode cX10_laysThen 22 = .ok (.iload_n 3, 1) by decide +kernel) (by rfl) ?_
    obtain ⟨q3, h⟩ := h
    refine go_iadd (show decode cX10_laysThen 23 = .ok (.iadd, 1) by decide +kernel) q3 ?_
    refine go_aload_n (show decode cX10_laysThen 24 = .ok (.aload_n 0, 1) by decide +kernel) (by rfl) ?_
    refine go_getR (show decode cX10_laysThen 25 = .ok (.getfield 25, 3) by decide +kernel) fl_X10_25 rfl q1 ?_
    refine go_bipush (show decode cX10_laysThen 28 = .ok (.bipush 48, 2) by decide +kernel) (by decide) ?_
    refine go_iload_n (show decode cX10_laysThen 30 = .ok (.iload_n 1, 1) by decide +kernel) (by rfl) ?_
    refine go_imul (show decode cX10_laysThen 31 = .ok (.imul, 1) by decide +kernel) q2 ?_
    refine go_iload_n (show decode cX10_laysThen 32 = .ok (.iload_n 3, 1) by decide +kernel) (by rfl) ?_
    refine go_iadd (show decode cX10_laysThen 33 = .ok (.iadd, 1) by decide +kernel) q3 ?_
    obtain ⟨q4, h⟩ := h
    obtain ⟨q5, h⟩ := h
    obtain ⟨q6, h⟩ := h
    refine go_iaload (show decode cX10_laysThen 34 = .ok (.iaload, 1) by decide +kernel) q4 q5 q6 ?_
    obtain ⟨q7, h⟩ := h
    obtain ⟨q8, h⟩ := h
    refine go_iastore (show decode cX10_laysThen 35 = .ok (.iastore, 1) by decide +kernel) q7 q5 q8  ?_
    obtain ⟨G9, G9e⟩ : ∃ G9 : AG, G9 = gu G (sR S a0 28) ((48 * a1) + a3) (G (sR S a0 4) ((48 * a1) + a3)) := ⟨_, rfl⟩
    have h := h G9 G9e
    rw [← G9e]
    obtain ⟨q10, h⟩ := h
    refine go_iinc (show decode cX10_laysThen 36 = .ok (.iinc 3 1, 3) by decide +kernel) (by rfl) q10 (by decide) ?_
    show Go d MX10_laysThen 39 [some (vR a0), some (vI a1), some (vI a2), some (vI (a3 + 1)), none] [] S F G9 Q
    refine go_goto (tgt := 9) (show decode cX10_laysThen 39 = .ok (.goto (-30), 3) by decide +kernel) (by decide) ?_
    exact h
def V_X10_laysThen_0 (d : Nat) (S : AS) (F : AF) (G : AG) (Q : AQ) (a0 : Nat) (a1 : Int) : Prop :=
  (sK S a0 = 10) ∧
  (sK S (sR S a0 5) = 20) ∧
  ((0 : Int) ≤ a1) ∧
  ((a1 : Int) < (sN S (sR S a0 5) : Int)) ∧
  ∀ x5 : Int, x5 = G (sR S a0 5) a1 →
  Go d MX10_laysThen 9 [some (vR a0), some (vI a1), some (vI x5), some (vI 0), none] [] S F G Q
theorem R_X10_laysThen_0 {d : Nat} {S : AS} {F : AF} {G : AG} {Q : AQ} {a0 : Nat} {a1 : Int} (h : V_X10_laysThen_0 d S F G Q a0 a1) : Go d MX10_laysThen 0 [some (vR a0), some (vI a1), none, none, none] [] S F G Q := by
  unfold V_X10_laysThen_0 at h
  refine go_aload_n (show decode cX10_laysThen 0 = .ok (.aload_n 0, 1) by decide +kernel) (by rfl) ?_
  obtain ⟨q1, h⟩ := h
  refine go_getR (show decode cX10_laysThen 1 = .ok (.getfield 29, 3) by decide +kernel) fl_X10_29 rfl q1 ?_
  refine go_iload_n (show decode cX10_laysThen 4 = .ok (.iload_n 1, 1) by decide +kernel) (by rfl) ?_
  obtain ⟨q2, h⟩ := h
  obtain ⟨q3, h⟩ := h
  obtain ⟨q4, h⟩ := h
  refine go_iaload (show decode cX10_laysThen 5 = .ok (.iaload, 1) by decide +kernel) q2 q3 q4 ?_
  obtain ⟨x5, x5e⟩ : ∃ x5 : Int, x5 = G (sR S a0 5) a1 := ⟨_, rfl⟩
  have h := h x5 x5e
  rw [← x5e]
  refine go_istore_n (show decode cX10_laysThen 6 = .ok (.istore_n 2, 1) by decide +kernel) (by decide) ?_
  show Go d MX10_laysThen 7 [some (vR a0), some (vI a1), some (vI x5), none, none] [] S F G Q
  refine go_iconst (show decode cX10_laysThen 7 = .ok (.iconst 0, 1) by decide +kernel) (by decide) ?_
  refine go_istore_n (show decode cX10_laysThen 8 = .ok (.istore_n 3, 1) by decide +kernel) (by decide) ?_
  show Go d MX10_laysThen 9 [some (vR a0), some (vI a1), some (vI x5), some (vI 0), none] [] S F G Q
  exact h
def V_X10_keepsAcross_10 (d : Nat) (S : AS) (F : AF) (G : AG) (Q : AQ) (a0 : Nat) (a1 : Int) : Prop :=
  (sK S a0 = 10) ∧
  ((F a0 20 ≤ a1) →
    Q none S F G) ∧
  ((¬ F a0 20 ≤ a1) →
    (sK S (sR S a0 19) = 20) ∧
    ((0 : Int) ≤ a1) ∧
    ((a1 : Int) < (sN S (sR S a0 19) : Int)) ∧
    (sK S (sR S a0 31) = 20) ∧
    ((a1 : Int) < (sN S (sR S a0 31) : Int)) ∧
    ∀ G7 : AG, G7 = gu G (sR S a0 31) a1 (G (sR S a0 19) a1) →
    (r32 (a1 + 1)) ∧
    Go d MX10_keepsAcross 10 [some (vR a0), some (vI (a1 + 1))] [] S F G7 Q)
theorem R_X10_keepsAcross_10 {d : Nat} {S : AS} {F : AF} {G : AG} {Q : AQ} {a0 : Nat} {a1 : Int} (h : V_X10_keepsAcross_10 d S F G Q a0 a1) : Go d MX10_keepsAcross 10 [some (vR a0), some (vI a1)] [] S F G Q := by
  unfold V_X10_keepsAcross_10 at h
  refine go_iload_n (show decode cX10_keepsAcross 10 = .ok (.iload_n 1, 1) by decide +kernel) (by rfl) ?_
  refine go_aload_n (show decode cX10_keepsAcross 11 = .ok (.aload_n 0, 1) by decide +kernel) (by rfl) ?_
  obtain ⟨q1, h⟩ := h
  refine go_getI (show decode cX10_keepsAcross 12 = .ok (.getfield 142, 3) by decide +kernel) fl_X10_142 (Or.inl rfl) q1 ?_
  obtain ⟨ht, hf⟩ := h
  refine go_icmpge (tgt := 36) (show decode cX10_keepsAcross 15 = .ok (.if_icmp .ge 21, 3) by decide +kernel) (by decide) (fun hc => ?_) (fun hc => ?_)
  · have h := ht hc
    exact go_vret (show decode cX10_keepsAcross 36 = .ok (.return_, 1) by decide +kernel) rfl h
  · have h := hf hc
    refine go_aload_n (show decode cX10_keepsAcross 18 = .ok (.aload_n 0, 1) by decide +kernel) (by rfl) ?_
    refine go_getR (show decode cX10_keepsAcross 19 = .ok (.getfield 80, 3) by decide +kernel) fl_X10_80 rfl q1 ?_
    refine go_iload_n (show decode cX10_keepsAcross 22 = .ok (.iload_n 1, 1) by decide +kernel) (by rfl) ?_
    refine go_aload_n (show decode cX10_keepsAcross 23 = .ok (.aload_n 0, 1) by decide +kernel) (by rfl) ?_
    refine go_getR (show decode cX10_keepsAcross 24 = .ok (.getfield 68, 3) by decide +kernel) fl_X10_68 rfl q1 ?_
    refine go_iload_n (show decode cX10_keepsAcross 27 = .ok (.iload_n 1, 1) by decide +kernel) (by rfl) ?_
    obtain ⟨q2, h⟩ := h
    obtain ⟨q3, h⟩ := h
    obtain ⟨q4, h⟩ := h
    refine go_iaload (show decode cX10_keepsAcross 28 = .ok (.iaload, 1) by decide +kernel) q2 q3 q4 ?_
    obtain ⟨q5, h⟩ := h
    obtain ⟨q6, h⟩ := h
    refine go_iastore (show decode cX10_keepsAcross 29 = .ok (.iastore, 1) by decide +kernel) q5 q3 q6  ?_
    obtain ⟨G7, G7e⟩ : ∃ G7 : AG, G7 = gu G (sR S a0 31) a1 (G (sR S a0 19) a1) := ⟨_, rfl⟩
    have h := h G7 G7e
    rw [← G7e]
    obtain ⟨q8, h⟩ := h
    refine go_iinc (show decode cX10_keepsAcross 30 = .ok (.iinc 1 1, 3) by decide +kernel) (by rfl) q8 (by decide) ?_
    show Go d MX10_keepsAcross 33 [some (vR a0), some (vI (a1 + 1))] [] S F G7 Q
    refine go_goto (tgt := 10) (show decode cX10_keepsAcross 33 = .ok (.goto (-23), 3) by decide +kernel) (by decide) ?_
    exact h
def V_X10_keepsAcross_0 (d : Nat) (S : AS) (F : AF) (G : AG) (Q : AQ) (a0 : Nat) : Prop :=
  (sK S a0 = 10) ∧
  ∀ F2 : AF, F2 = fu F a0 32 (F a0 20) →
  Go d MX10_keepsAcross 10 [some (vR a0), some (vI 0)] [] S F2 G Q
theorem R_X10_keepsAcross_0 {d : Nat} {S : AS} {F : AF} {G : AG} {Q : AQ} {a0 : Nat} (h : V_X10_keepsAcross_0 d S F G Q a0) : Go d MX10_keepsAcross 0 [some (vR a0), none] [] S F G Q := by
  unfold V_X10_keepsAcross_0 at h
  refine go_aload_n (show decode cX10_keepsAcross 0 = .ok (.aload_n 0, 1) by decide +kernel) (by rfl) ?_
  refine go_aload_n (show decode cX10_keepsAcross 1 = .ok (.aload_n 0, 1) by decide +kernel) (by rfl) ?_
  obtain ⟨q1, h⟩ := h
  refine go_getI (show decode cX10_keepsAcross 2 = .ok (.getfield 142, 3) by decide +kernel) fl_X10_142 (Or.inl rfl) q1 ?_
  refine go_putI (show decode cX10_keepsAcross 5 = .ok (.putfield 272, 3) by decide +kernel) fl_X10_272 rfl (Or.inl rfl) q1 ?_
  obtain ⟨F2, F2e⟩ : ∃ F2 : AF, F2 = fu F a0 32 (F a0 20) := ⟨_, rfl⟩
  have h := h F2 F2e
  rw [← F2e]
  refine go_iconst (show decode cX10_keepsAcross 8 = .ok (.iconst 0, 1) by decide +kernel) (by decide) ?_
  refine go_istore_n (show decode cX10_keepsAcross 9 = .ok (.istore_n 1, 1) by decide +kernel) (by decide) ?_
  show Go d MX10_keepsAcross 10 [some (vR a0), some (vI 0)] [] S F2 G Q
  exact h
def V_X10_isInside_0 (d : Nat) (S : AS) (F : AF) (G : AG) (Q : AQ) (a0 : Int) (a1 : Int) (a2 : Int) (a3 : Int) (a4 : Int) (a5 : Int) : Prop :=
  ((a0 < a2) →
    Q (some (vI 0)) S F G) ∧
  ((¬ a0 < a2) →
    ((a4 < a0) →
      Q (some (vI 0)) S F G) ∧
    ((¬ a4 < a0) →
      ((a1 < a3) →
        Q (some (vI 0)) S F G) ∧
      ((¬ a1 < a3) →
        ((a5 < a1) →
          Q (some (vI 0)) S F G) ∧
        ((¬ a5 < a1) →
          Q (some (vI 1)) S F G))))
theorem R_X10_isInside_0 {d : Nat} {S : AS} {F : AF} {G : AG} {Q : AQ} {a0 : Int} {a1 : Int} {a2 : Int} {a3 : Int} {a4 : Int} {a5 : Int} (h : V_X10_isInside_0 d S F G Q a0 a1 a2 a3 a4 a5) : Go d MX10_isInside 0 [some (vI a0), some (vI a1), some (vI a2), some (vI a3), some (vI a4), some (vI a5)] [] S F G Q := by
  unfold V_X10_isInside_0 at h
  refine go_iload_n (show decode cX10_isInside 0 = .ok (.iload_n 0, 1) by decide +kernel) (by rfl) ?_
  refine go_iload_n (show decode cX10_isInside 1 = .ok (.iload_n 2, 1) by decide +kernel) (by rfl) ?_
  obtain ⟨ht, hf⟩ := h
  refine go_icmplt (tgt := 26) (show decode cX10_isInside 2 = .ok (.if_icmp .lt 24, 3) by decide +kernel) (by decide) (fun hc => ?_) (fun hc => ?_)
  · have h := ht hc
    refine go_iconst (show decode cX10_isInside 26 = .ok (.iconst 0, 1) by decide +kernel) (by decide) ?_
    exact go_zret (show decode cX10_isInside 27 = .ok (.ireturn, 1) by decide +kernel) rfl (by decide) h
  · have h := hf hc
    refine go_iload_n (show decode cX10_isInside 5 = .ok (.iload_n 0, 1) by decide +kernel) (by rfl) ?_
    refine go_iload (show decode cX10_isInside 6 = .ok (.iload 4, 2) by decide +kernel) (by rfl) ?_
    obtain ⟨ht, hf⟩ := h
    refine go_icmpgt (tgt := 26) (show decode cX10_isInside 8 = .ok (.if_icmp .gt 18, 3) by decide +kernel) (by decide) (fun hc => ?_) (fun hc => ?_)
    · have h := ht hc
      refine go_iconst (show decode cX10_isInside 26 = .ok (.iconst 0, 1) by decide +kernel) (by decide) ?_
      exact go_zret (show decode cX10_isInside 27 = .ok (.ireturn, 1) by decide +kernel) rfl (by decide) h
    · have h := hf hc
      refine go_iload_n (show decode cX10_isInside 11 = .ok (.iload_n 1, 1) by decide +kernel) (by rfl) ?_
      refine go_iload_n (show decode cX10_isInside 12 = .ok (.iload_n 3, 1) by decide +kernel) (by rfl) ?_
      obtain ⟨ht, hf⟩ := h
      refine go_icmplt (tgt := 26) (show decode cX10_isInside 13 = .ok (.if_icmp .lt 13, 3) by decide +kernel) (by decide) (fun hc => ?_) (fun hc => ?_)
      · have h := ht hc
        refine go_iconst (show decode cX10_isInside 26 = .ok (.iconst 0, 1) by decide +kernel) (by decide) ?_
        exact go_zret (show decode cX10_isInside 27 = .ok (.ireturn, 1) by decide +kernel) rfl (by decide) h
      · have h := hf hc
        refine go_iload_n (show decode cX10_isInside 16 = .ok (.iload_n 1, 1) by decide +kernel) (by rfl) ?_
        refine go_iload (show decode cX10_isInside 17 = .ok (.iload 5, 2) by decide +kernel) (by rfl) ?_
        obtain ⟨ht, hf⟩ := h
        refine go_icmpgt (tgt := 26) (show decode cX10_isInside 19 = .ok (.if_icmp .gt 7, 3) by decide +kernel) (by decide) (fun hc => ?_) (fun hc => ?_)
        · have h := ht hc
          refine go_iconst (show decode cX10_isInside 26 = .ok (.iconst 0, 1) by decide +kernel) (by decide) ?_
          exact go_zret (show decode cX10_isInside 27 = .ok (.ireturn, 1) by decide +kernel) rfl (by decide) h
        · have h := hf hc
          refine go_iconst (show decode cX10_isInside 22 = .ok (.iconst 1, 1) by decide +kernel) (by decide) ?_
          refine go_goto (tgt := 27) (show decode cX10_isInside 23 = .ok (.goto 4, 3) by decide +kernel) (by decide) ?_
          exact go_zret (show decode cX10_isInside 27 = .ok (.ireturn, 1) by decide +kernel) rfl (by decide) h
def V_X10_cell_0 (d : Nat) (S : AS) (F : AF) (G : AG) (Q : AQ) (a0 : Nat) (a1 : Int) (a2 : Int) (a3 : Int) : Prop :=
  (1 ≤ d) ∧
  (sK S a0 = 10) ∧
  Ok (d - 1) MX10_blockAt [vR a0, vI 0, vI a2] S F G (fun w2 S3 F4 G5 =>
  ∃ z7 : Int, w2 = some (vI z7) ∧
  (sK S3 a0 = 10) ∧
  Ok (d - 1) MX10_blockAt [vR a0, vI 1, vI a3] S3 F4 G5 (fun w8 S9 F10 G11 =>
  ∃ z13 : Int, w8 = some (vI z13) ∧
  (sK S9 a0 = 10) ∧
  Ok (d - 1) MX10_in [vR a0, vI a1, vI z7, vI z13] S9 F10 G11 (fun w14 S15 F16 G17 =>
  ∃ z19 : Int, w14 = some (vJ z19) ∧
  Q (some (vJ z19)) S15 F16 G17)))
theorem R_X10_cell_0 {d : Nat} {S : AS} {F : AF} {G : AG} {Q : AQ} {a0 : Nat} {a1 : Int} {a2 : Int} {a3 : Int} (h : V_X10_cell_0 d S F G Q a0 a1 a2 a3) : Go d MX10_cell 0 [some (vR a0), some (vI a1), some (vI a2), some (vI a3)] [] S F G Q := by
  unfold V_X10_cell_0 at h
  refine go_aload_n (show decode cX10_cell 0 = .ok (.aload_n 0, 1) by decide +kernel) (by rfl) ?_
  refine go_iload_n (show decode cX10_cell 1 = .ok (.iload_n 1, 1) by decide +kernel) (by rfl) ?_
  refine go_aload_n (show decode cX10_cell 2 = .ok (.aload_n 0, 1) by decide +kernel) (by rfl) ?_
  refine go_iconst (show decode cX10_cell 3 = .ok (.iconst 0, 1) by decide +kernel) (by decide) ?_
  refine go_iload_n (show decode cX10_cell 4 = .ok (.iload_n 2, 1) by decide +kernel) (by rfl) ?_
  obtain ⟨q1, h⟩ := h
  obtain ⟨q6, h⟩ := h
  refine go_callV (d2 := d - 1) (M2 := MX10_blockAt) (n := 2) (ci := 10) (av := [vI 0, vI a2]) (st := [vI a1, vR a0]) (show decode cX10_cell 5 = .ok (.invokevirtual 265, 3) by decide +kernel) ml_X10_265 mt_X10_blockAt min_X10_blockAt mse_X10_blockAt (by decide) q6 rfl (Nat.le_of_ble_eq_true rfl) (by omega) (ok_mono h (fun w2 S3 F4 G5 h => ?_))
  obtain ⟨z7, e9, h⟩ := h
  subst e9
  show Go d MX10_cell 8 [some (vR a0), some (vI a1), some (vI a2), some (vI a3)] [vI z7, vI a1, vR a0] S3 F4 G5 Q
  refine go_aload_n (show decode cX10_cell 8 = .ok (.aload_n 0, 1) by decide +kernel) (by rfl) ?_
  refine go_iconst (show decode cX10_cell 9 = .ok (.iconst 1, 1) by decide +kernel) (by decide) ?_
  refine go_iload_n (show decode cX10_cell 10 = .ok (.iload_n 3, 1) by decide +kernel) (by rfl) ?_
  obtain ⟨q12, h⟩ := h
  refine go_callV (d2 := d - 1) (M2 := MX10_blockAt) (n := 2) (ci := 10) (av := [vI 1, vI a3]) (st := [vI z7, vI a1, vR a0]) (show decode cX10_cell 11 = .ok (.invokevirtual 265, 3) by decide +kernel) ml_X10_265 mt_X10_blockAt min_X10_blockAt mse_X10_blockAt (by decide) q12 rfl (Nat.le_of_ble_eq_true rfl) (by omega) (ok_mono h (fun w8 S9 F10 G11 h => ?_))
  obtain ⟨z13, e9, h⟩ := h
  subst e9
  show Go d MX10_cell 14 [some (vR a0), some (vI a1), some (vI a2), some (vI a3)] [vI z13, vI z7, vI a1, vR a0] S9 F10 G11 Q
  obtain ⟨q18, h⟩ := h
  refine go_callV (d2 := d - 1) (M2 := MX10_in) (n := 3) (ci := 10) (av := [vI a1, vI z7, vI z13]) (st := []) (show decode cX10_cell 14 = .ok (.invokevirtual 163, 3) by decide +kernel) ml_X10_163 mt_X10_in min_X10_in mse_X10_in (by decide) q18 rfl (Nat.le_of_ble_eq_true rfl) (by omega) (ok_mono h (fun w14 S15 F16 G17 h => ?_))
  obtain ⟨z19, e9, h⟩ := h
  subst e9
  show Go d MX10_cell 17 [some (vR a0), some (vI a1), some (vI a2), some (vI a3)] [vJ z19] S15 F16 G17 Q
  exact go_lret (show decode cX10_cell 17 = .ok (.lreturn, 1) by decide +kernel) rfl h
def V_X10_comesAcross_6 (d : Nat) (S : AS) (F : AF) (G : AG) (Q : AQ) (a0 : Nat) (a1 : Int) : Prop :=
  (sK S a0 = 10) ∧
  ((F a0 32 ≤ a1) →
    Q none S F G) ∧
  ((¬ F a0 32 ≤ a1) →
    (sK S (sR S a0 31) = 20) ∧
    ((0 : Int) ≤ a1) ∧
    ((a1 : Int) < (sN S (sR S a0 31) : Int)) ∧
    (1 ≤ d) ∧
    Ok (d - 1) MX10_comes [vR a0, vI 0, vI (G (sR S a0 31) a1)] S F G (fun w6 S7 F8 G9 =>
    w6 = none ∧
    (r32 (a1 + 1)) ∧
    Go d MX10_comesAcross 6 [some (vR a0), some (vI (a1 + 1))] [] S7 F8 G9 Q))
theorem R_X10_comesAcross_6 {d : Nat} {S : AS} {F : AF} {G : AG} {Q : AQ} {a0 : Nat} {a1 : Int} (h : V_X10_comesAcross_6 d S F G Q a0 a1) : Go d MX10_comesAcross 6 [some (vR a0), some (vI a1)] [] S F G Q := by
  unfold V_X10_comesAcross_6 at h
  refine go_iload_n (show decode cX10_comesAcross 6 = .ok (.iload_n 1, 1) by decide +kernel) (by rfl) ?_
  refine go_aload_n (show decode cX10_comesAcross 7 = .ok (.aload_n 0, 1) by decide +kernel) (by rfl) ?_
  obtain ⟨q1, h⟩ := h
  refine go_getI (show decode cX10_comesAcross 8 = .ok (.getfield 272, 3) by decide +kernel) fl_X10_272 (Or.inl rfl) q1 ?_
  obtain ⟨ht, hf⟩ := h
  refine go_icmpge (tgt := 31) (show decode cX10_comesAcross 11 = .ok (.if_icmp .ge 20, 3) by decide +kernel) (by decide) (fun hc => ?_) (fun hc => ?_)
  · have h := ht hc
    exact go_vret (show decode cX10_comesAcross 31 = .ok (.return_, 1) by decide +kernel) rfl h
  · have h := hf hc
    refine go_aload_n (show decode cX10_comesAcross 14 = .ok (.aload_n 0, 1) by decide +kernel) (by rfl) ?_
    refine go_iconst (show decode cX10_comesAcross 15 = .ok (.iconst 0, 1) by decide +kernel) (by decide) ?_
    refine go_aload_n (show decode cX10_comesAcross 16 = .ok (.aload_n 0, 1) by decide +kernel) (by rfl) ?_
    refine go_getR (show decode cX10_comesAcross 17 = .ok (.getfield 80, 3) by decide +kernel) fl_X10_80 rfl q1 ?_
    refine go_iload_n (show decode cX10_comesAcross 20 = .ok (.iload_n 1, 1) by decide +kernel) (by rfl) ?_
    obtain ⟨q2, h⟩ := h
    obtain ⟨q3, h⟩ := h
    obtain ⟨q4, h⟩ := h
    refine go_iaload (show decode cX10_comesAcross 21 = .ok (.iaload, 1) by decide +kernel) q2 q3 q4 ?_
    obtain ⟨q5, h⟩ := h
    refine go_callV (d2 := d - 1) (M2 := MX10_comes) (n := 2) (ci := 10) (av := [vI 0, vI (G (sR S a0 31) a1)]) (st := []) (show decode cX10_comesAcross 22 = .ok (.invokevirtual 210, 3) by decide +kernel) ml_X10_210 mt_X10_comes min_X10_comes mse_X10_comes (by decide) q1 rfl (Nat.le_of_ble_eq_true rfl) (by omega) (ok_mono h (fun w6 S7 F8 G9 h => ?_))
    obtain ⟨e9, h⟩ := h
    subst e9
    show Go d MX10_comesAcross 25 [some (vR a0), some (vI a1)] [] S7 F8 G9 Q
    obtain ⟨q10, h⟩ := h
    refine go_iinc (show decode cX10_comesAcross 25 = .ok (.iinc 1 1, 3) by decide +kernel) (by rfl) q10 (by decide) ?_
    show Go d MX10_comesAcross 28 [some (vR a0), some (vI (a1 + 1))] [] S7 F8 G9 Q
    refine go_goto (tgt := 6) (show decode cX10_comesAcross 28 = .ok (.goto (-22), 3) by decide +kernel) (by decide) ?_
    exact h
def V_X10_comesAcross_0 (d : Nat) (S : AS) (F : AF) (G : AG) (Q : AQ) (a0 : Nat) : Prop :=
  (1 ≤ d) ∧
  (sK S a0 = 10) ∧
  Ok (d - 1) MX10_acts [vR a0] S F G (fun w2 S3 F4 G5 =>
  w2 = none ∧
  Go d MX10_comesAcross 6 [some (vR a0), some (vI 0)] [] S3 F4 G5 Q)
theorem R_X10_comesAcross_0 {d : Nat} {S : AS} {F : AF} {G : AG} {Q : AQ} {a0 : Nat} (h : V_X10_comesAcross_0 d S F G Q a0) : Go d MX10_comesAcross 0 [some (vR a0), none] [] S F G Q := by
  unfold V_X10_comesAcross_0 at h
  refine go_aload_n (show decode cX10_comesAcross 0 = .ok (.aload_n 0, 1) by decide +kernel) (by rfl) ?_
  obtain ⟨q1, h⟩ := h
  obtain ⟨q6, h⟩ := h
  refine go_callV (d2 := d - 1) (M2 := MX10_acts) (n := 0) (ci := 10) (av := []) (st := []) (show decode cX10_comesAcross 1 = .ok (.invokevirtual 207, 3) by decide +kernel) ml_X10_207 mt_X10_acts min_X10_acts mse_X10_acts (by decide) q6 rfl (Nat.le_of_ble_eq_true rfl) (by omega) (ok_mono h (fun w2 S3 F4 G5 h => ?_))
  obtain ⟨e9, h⟩ := h
  subst e9
  show Go d MX10_comesAcross 4 [some (vR a0), none] [] S3 F4 G5 Q
  refine go_iconst (show decode cX10_comesAcross 4 = .ok (.iconst 0, 1) by decide +kernel) (by decide) ?_
  refine go_istore_n (show decode cX10_comesAcross 5 = .ok (.istore_n 1, 1) by decide +kernel) (by decide) ?_
  show Go d MX10_comesAcross 6 [some (vR a0), some (vI 0)] [] S3 F4 G5 Q
  exact h
def V_X10_comesAll_7 (d : Nat) (S : AS) (F : AF) (G : AG) (Q : AQ) (a0 : Nat) (a1 : Int) (a2 : Int) (a3 : Int) : Prop :=
  ((a2 ≤ a3) →
    Q none S F G) ∧
  ((¬ a2 ≤ a3) →
    (sK S a0 = 10) ∧
    (sK S (sR S a0 19) = 20) ∧
    ((0 : Int) ≤ a3) ∧
    ((a3 : Int) < (sN S (sR S a0 19) : Int)) ∧
    (1 ≤ d) ∧
    Ok (d - 1) MX10_comes [vR a0, vI a1, vI (G (sR S a0 19) a3)] S F G (fun w6 S7 F8 G9 =>
    w6 = none ∧
    (r32 (a3 + 1)) ∧
    Go d MX10_comesAll 7 [some (vR a0), some (vI a1), some (vI a2), some (vI (a3 + 1))] [] S7 F8 G9 Q))
theorem R_X10_comesAll_7 {d : Nat} {S : AS} {F : AF} {G : AG} {Q : AQ} {a0 : Nat} {a1 : Int} {a2 : Int} {a3 : Int} (h : V_X10_comesAll_7 d S F G Q a0 a1 a2 a3) : Go d MX10_comesAll 7 [some (vR a0), some (vI a1), some (vI a2), some (vI a3)] [] S F G Q := by
  unfold V_X10_comesAll_7 at h
  refine go_iload_n (show decode cX10_comesAll 7 = .ok (.iload_n 3, 1) by decide +kernel) (by rfl) ?_
  refine go_iload_n (show decode cX10_comesAll 8 = .ok (.iload_n 2, 1) by decide +kernel) (by rfl) ?_
  obtain ⟨ht, hf⟩ := h
  refine go_icmpge (tgt := 29) (show decode cX10_comesAll 9 = .ok (.if_icmp .ge 20, 3) by decide +kernel) (by decide) (fun hc => ?_) (fun hc => ?_)
  · have h := ht hc
    exact go_vret (show decode cX10_comesAll 29 = .ok (.return_, 1) by decide +kernel) rfl h
  · have h := hf hc
    refine go_aload_n (show decode cX10_comesAll 12 = .ok (.aload_n 0, 1) by decide +kernel) (by rfl) ?_
    refine go_iload_n (show decode cX10_comesAll 13 = .ok (.iload_n 1, 1) by decide +kernel) (by rfl) ?_
    refine go_aload_n (show decode cX10_comesAll 14 = .ok (.aload_n 0, 1) by decide +kernel) (by rfl) ?_
    obtain ⟨q1, h⟩ := h
    refine go_getR (show decode cX10_comesAll 15 = .ok (.getfield 68, 3) by decide +kernel) fl_X10_68 rfl q1 ?_
    refine go_iload_n (show decode cX10_comesAll 18 = .ok (.iload_n 3, 1) by decide +kernel) (by rfl) ?_
    obtain ⟨q2, h⟩ := h
    obtain ⟨q3, h⟩ := h
    obtain ⟨q4, h⟩ := h
    refine go_iaload (show decode cX10_comesAll 19 = .ok (.iaload, 1) by decide +kernel) q2 q3 q4 ?_
    obtain ⟨q5, h⟩ := h
    refine go_callV (d2 := d - 1) (M2 := MX10_comes) (n := 2) (ci := 10) (av := [vI a1, vI (G (sR S a0 19) a3)]) (st := []) (show decode cX10_comesAll 20 = .ok (.invokevirtual 210, 3) by decide +kernel) ml_X10_210 mt_X10_comes min_X10_comes mse_X10_comes (by decide) q1 rfl (Nat.le_of_ble_eq_true rfl) (by omega) (ok_mono h (fun w6 S7 F8 G9 h => ?_))
    obtain ⟨e9, h⟩ := h
    subst e9
    show Go d MX10_comesAll 23 [some (vR a0), some (vI a1), some (vI a2), some (vI a3)] [] S7 F8 G9 Q
    obtain ⟨q10, h⟩ := h
    refine go_iinc (show decode cX10_comesAll 23 = .ok (.iinc 3 1, 3) by decide +kernel) (by rfl) q10 (by decide) ?_
    show Go d MX10_comesAll 26 [some (vR a0), some (vI a1), some (vI a2), some (vI (a3 + 1))] [] S7 F8 G9 Q
    refine go_goto (tgt := 7) (show decode cX10_comesAll 26 = .ok (.goto (-19), 3) by decide +kernel) (by decide) ?_
    exact h
def V_X10_comesAll_0 (d : Nat) (S : AS) (F : AF) (G : AG) (Q : AQ) (a0 : Nat) (a1 : Int) : Prop :=
  (sK S a0 = 10) ∧
  ∀ x2 : Int, x2 = F a0 20 →
  Go d MX10_comesAll 7 [some (vR a0), some (vI a1), some (vI x2), some (vI 0)] [] S F G Q
theorem R_X10_comesAll_0 {d : Nat} {S : AS} {F : AF} {G : AG} {Q : AQ} {a0 : Nat} {a1 : Int} (h : V_X10_comesAll_0 d S F G Q a0 a1) : Go d MX10_comesAll 0 [some (vR a0), some (vI a1), none, none] [] S F G Q := by
  unfold V_X10_comesAll_0 at h
  refine go_aload_n (show decode cX10_comesAll 0 = .ok (.aload_n 0, 1) by decide +kernel) (by rfl) ?_
  obtain ⟨q1, h⟩ := h
  refine go_getI (show decode cX10_comesAll 1 = .ok (.getfield 142, 3) by decide +kernel) fl_X10_142 (Or.inl rfl) q1 ?_
  obtain ⟨x2, x2e⟩ : ∃ x2 : Int, x2 = F a0 20 := ⟨_, rfl⟩
  have h := h x2 x2e
  rw [← x2e]
  refine go_istore_n (show decode cX10_comesAll 4 = .ok (.istore_n 2, 1) by decide +kernel) (by decide) ?_
  show Go d MX10_comesAll 5 [some (vR a0), some (vI a1), some (vI x2), none] [] S F G Q
  refine go_iconst (show decode cX10_comesAll 5 = .ok (.iconst 0, 1) by decide +kernel) (by decide) ?_
  refine go_istore_n (show decode cX10_comesAll 6 = .ok (.istore_n 3, 1) by decide +kernel) (by decide) ?_
  show Go d MX10_comesAll 7 [some (vR a0), some (vI a1), some (vI x2), some (vI 0)] [] S F G Q
  exact h
def V_X10_level_584 (d : Nat) (S : AS) (F : AF) (G : AG) (Q : AQ) (a0 : Nat) (a1 : Int) (a2 : Int) (a3 : Int) (a4 : Int) (a5 : Int) (a6 : Int) (a8 : Int) (a10 : Int) (a12 : Int) (a14 : Int) (a15 : Int) (a16 : Int) (a17 : Int) (a18 : Int) (a19 : Int) : Prop :=
  (r32 (a17 + 1)) ∧
  Go d MX10_level 497 [some (vR a0), some (vI a1), some (vI a2), some (vI a3), some (vI a4), some (vI a5), some (vJ a6), none, some (vJ a8), none, some (vJ a10), none, some (vJ a12), none, some (vI a14), some (vI a15), some (vI a16), some (vI (a17 + 1)), none, none] [] S F G Q
theorem R_X10_level_584 {d : Nat} {S : AS} {F : AF} {G : AG} {Q : AQ} {a0 : Nat} {a1 : Int} {a2 : Int} {a3 : Int} {a4 : Int} {a5 : Int} {a6 : Int} {a8 : Int} {a10 : Int} {a12 : Int} {a14 : Int} {a15 : Int} {a16 : Int} {a17 : Int} {a18 : Int} {a19 : Int} (h : V_X10_level_584 d S F G Q a0 a1 a2 a3 a4 a5 a6 a8 a10 a12 a14 a15 a16 a17 a18 a19) : Go d MX10_level 584 [some (vR a0), some (vI a1), some (vI a2), some (vI a3), some (vI a4), some (vI a5), some (vJ a6), none, some (vJ a8), none, some (vJ a10), none, some (vJ a12), none, some (vI a14), some (vI a15), some (vI a16), some (vI a17), some (vI a18), some (vI a19)] [] S F G Q := by
  unfold V_X10_level_584 at h
  obtain ⟨q1, h⟩ := h
  refine go_iinc (show decode cX10_level 584 = .ok (.iinc 17 1, 3) by decide +kernel) (by rfl) q1 (by decide) ?_
  show Go d MX10_level 587 [some (vR a0), some (vI a1), some (vI a2), some (vI a3), some (vI a4), some (vI a5), some (vJ a6), none, some (vJ a8), none, some (vJ a10), none, some (vJ a12), none, some (vI a14), some (vI a15), some (vI a16), some (vI (a17 + 1)), some (vI a18), some (vI a19)] [] S F G Q
  refine go_goto (tgt := 497) (show decode cX10_level 587 = .ok (.goto (-90), 3) by decide +kernel) (by decide) ?_
  refine go_clr 18 ?_
  refine go_clr 19 ?_
  exact h
def V_X10_level_582 (d : Nat) (S : AS) (F : AF) (G : AG) (Q : AQ) (a0 : Nat) (a1 : Int) (a2 : Int) (a3 : Int) (a4 : Int) (a5 : Int) (a6 : Int) (a8 : Int) (a10 : Int) (a12 : Int) (a14 : Int) (a15 : Int) (a16 : Int) (a17 : Int) (a18 : Int) (a19 : Int) (s0 : Int) (s1 : Int) (s2 : Int) (s3 : Nat) : Prop :=
  (r64 (s1 + s0)) ∧
  (sK S s3 = 21) ∧
  ((0 : Int) ≤ s2) ∧
  ((s2 : Int) < (sN S s3 : Int)) ∧
  ∀ G5 : AG, G5 = gu G s3 s2 (s1 + s0) →
  V_X10_level_584 d S F G5 Q a0 a1 a2 a3 a4 a5 a6 a8 a10 a12 a14 a15 a16 a17 a18 a19
theorem R_X10_level_582 {d : Nat} {S : AS} {F : AF} {G : AG} {Q : AQ} {a0 : Nat} {a1 : Int} {a2 : Int} {a3 : Int} {a4 : Int} {a5 : Int} {a6 : Int} {a8 : Int} {a10 : Int} {a12 : Int} {a14 : Int} {a15 : Int} {a16 : Int} {a17 : Int} {a18 : Int} {a19 : Int} {s0 : Int} {s1 : Int} {s2 : Int} {s3 : Nat} (h : V_X10_level_582 d S F G Q a0 a1 a2 a3 a4 a5 a6 a8 a10 a12 a14 a15 a16 a17 a18 a19 s0 s1 s2 s3) : Go d MX10_level 582 [some (vR a0), some (vI a1), some (vI a2), some (vI a3), some (vI a4), some (vI a5), some (vJ a6), none, some (vJ a8), none, some (vJ a10), none, some (vJ a12), none, some (vI a14), some (vI a15), some (vI a16), some (vI a17), some (vI a18), some (vI a19)] [vJ s0, vJ s1, vI s2, vR s3] S F G Q := by
  unfold V_X10_level_582 at h
  obtain ⟨q1, h⟩ := h
  refine go_ladd (show decode cX10_level 582 = .ok (.ladd, 1) by decide +kernel) q1 ?_
  obtain ⟨q2, h⟩ := h
  obtain ⟨q3, h⟩ := h
  obtain ⟨q4, h⟩ := h
  refine go_lastore (show decode cX10_level 583 = .ok (.lastore, 1) by decide +kernel) q2 q3 q4  ?_
  obtain ⟨G5, G5e⟩ : ∃ G5 : AG, G5 = gu G s3 s2 (s1 + s0) := ⟨_, rfl⟩
  have h := h G5 G5e
  rw [← G5e]
  exact R_X10_level_584 h
def V_X10_level_581 (d : Nat) (S : AS) (F : AF) (G : AG) (Q : AQ) (a0 : Nat) (a1 : Int) (a2 : Int) (a3 : Int) (a4 : Int) (a5 : Int) (a6 : Int) (a8 : Int) (a10 : Int) (a12 : Int) (a14 : Int) (a15 : Int) (a16 : Int) (a17 : Int) (a18 : Int) (a19 : Int) (s0 : Int) (s1 : Int) (s2 : Nat) : Prop :=
  V_X10_level_582 d S F G Q a0 a1 a2 a3 a4 a5 a6 a8 a10 a12 a14 a15 a16 a17 a18 a19 0 s0 s1 s2
theorem R_X10_level_581 {d : Nat} {S : AS} {F : AF} {G : AG} {Q : AQ} {a0 : Nat} {a1 : Int} {a2 : Int} {a3 : Int} {a4 : Int} {a5 : Int} {a6 : Int} {a8 : Int} {a10 : Int} {a12 : Int} {a14 : Int} {a15 : Int} {a16 : Int} {a17 : Int} {a18 : Int} {a19 : Int} {s0 : Int} {s1 : Int} {s2 : Nat} (h : V_X10_level_581 d S F G Q a0 a1 a2 a3 a4 a5 a6 a8 a10 a12 a14 a15 a16 a17 a18 a19 s0 s1 s2) : Go d MX10_level 581 [some (vR a0), some (vI a1), some (vI a2), some (vI a3), some (vI a4), some (vI a5), some (vJ a6), none, some (vJ a8), none, some (vJ a10), none, some (vJ a12), none, some (vI a14), some (vI a15), some (vI a16), some (vI a17), some (vI a18), some (vI a19)] [vJ s0, vI s1, vR s2] S F G Q := by
  unfold V_X10_level_581 at h
  refine go_lconst (n := 0) (show decode cX10_level 581 = .ok (.lconst 0, 1) by decide +kernel) ?_
  show Go d MX10_level 582 [some (vR a0), some (vI a1), some (vI a2), some (vI a3), some (vI a4), some (vI a5), some (vJ a6), none, some (vJ a8), none, some (vJ a10), none, some (vJ a12), none, some (vI a14), some (vI a15), some (vI a16), some (vI a17), some (vI a18), some (vI a19)] [vJ 0, vJ s0, vI s1, vR s2] S F G Q
  exact R_X10_level_582 h
def V_X10_level_577 (d : Nat) (S : AS) (F : AF) (G : AG) (Q : AQ) (a0 : Nat) (a1 : Int) (a2 : Int) (a3 : Int) (a4 : Int) (a5 : Int) (a6 : Int) (a8 : Int) (a10 : Int) (a12 : Int) (a14 : Int) (a15 : Int) (a16 : Int) (a17 : Int) (a18 : Int) (a19 : Int) (s0 : Int) (s1 : Int) (s2 : Nat) : Prop :=
  V_X10_level_582 d S F G Q a0 a1 a2 a3 a4 a5 a6 a8 a10 a12 a14 a15 a16 a17 a18 a19 1 s0 s1 s2
theorem R_X10_level_577 {d : Nat} {S : AS} {F : AF} {G : AG} {Q : AQ} {a0 : Nat} {a1 : Int} {a2 : Int} {a3 : Int} {a4 : Int} {a5 : Int} {a6 : Int} {a8 : Int} {a10 : Int} {a12 : Int} {a14 : Int} {a15 : Int} {a16 : Int} {a17 : Int} {a18 : Int} {a19 : Int} {s0 : Int} {s1 : Int} {s2 : Nat} (h : V_X10_level_577 d S F G Q a0 a1 a2 a3 a4 a5 a6 a8 a10 a12 a14 a15 a16 a17 a18 a19 s0 s1 s2) : Go d MX10_level 577 [some (vR a0), some (vI a1), some (vI a2), some (vI a3), some (vI a4), some (vI a5), some (vJ a6), none, some (vJ a8), none, some (vJ a10), none, some (vJ a12), none, some (vI a14), some (vI a15), some (vI a16), some (vI a17), some (vI a18), some (vI a19)] [vJ s0, vI s1, vR s2] S F G Q := by
  unfold V_X10_level_577 at h
  refine go_lconst (n := 1) (show decode cX10_level 577 = .ok (.lconst 1, 1) by decide +kernel) ?_
  show Go d MX10_level 578 [some (vR a0), some (vI a1), some (vI a2), some (vI a3), some (vI a4), some (vI a5), some (vJ a6), none, some (vJ a8), none, some (vJ a10), none, some (vJ a12), none, some (vI a14), some (vI a15), some (vI a16), some (vI a17), some (vI a18), some (vI a19)] [vJ 1, vJ s0, vI s1, vR s2] S F G Q
  refine go_goto (tgt := 582) (show decode cX10_level 578 = .ok (.goto 4, 3) by decide +kernel) (by decide) ?_
  exact R_X10_level_582 h
def V_X10_level_497 (d : Nat) (S : AS) (F : AF) (G : AG) (Q : AQ) (a0 : Nat) (a1 : Int) (a2 : Int) (a3 : Int) (a4 : Int) (a5 : Int) (a6 : Int) (a8 : Int) (a10 : Int) (a12 : Int) (a14 : Int) (a15 : Int) (a16 : Int) (a17 : Int) : Prop :=
  (sK S a0 = 10) ∧
  (sK S (sR S a0 5) = 20) ∧
  ((1 : Int) < (sN S (sR S a0 5) : Int)) ∧
  ((G (sR S a0 5) 1 ≤ a17) →
    (r32 (a16 + 1)) ∧
    Go d MX10_level 483 [some (vR a0), some (vI a1), some (vI a2), some (vI a3), some (vI a4), some (vI a5), some (vJ a6), none, some (vJ a8), none, some (vJ a10), none, some (vJ a12), none, some (vI a14), some (vI a15), some (vI (a16 + 1)), none, none, none] [] S F G Q) ∧
  ((¬ G (sR S a0 5) 1 ≤ a17) →
    (1 ≤ d) ∧
    Ok (d - 1) MX10_edgeAt [vR a0, vI 0, vI a16] S F G (fun w6 S7 F8 G9 =>
    ∃ z10 : Int, w6 = some (vI z10) ∧
    (sK S7 a0 = 10) ∧
    Ok (d - 1) MX10_edgeAt [vR a0, vI 1, vI a17] S7 F8 G9 (fun w11 S12 F13 G14 =>
    ∃ z16 : Int, w11 = some (vI z16) ∧
    Ok (d - 1) MX10_isInside [vI z10, vI z16, vI a2, vI a3, vI a4, vI a5] S12 F13 G14 (fun w17 S18 F19 G20 =>
    ∃ z21 : Int, w17 = some (vI z21) ∧
    ((z21 = 0) →
      V_X10_level_584 d S18 F19 G20 Q a0 a1 a2 a3 a4 a5 a6 a8 a10 a12 a14 a15 a16 a17 z10 z16) ∧
    ((¬ z21 = 0) →
      (sK S18 a0 = 10) ∧
      Ok (d - 1) MX10_slot [vI a1, vI a16, vI a17] S18 F19 G20 (fun w23 S24 F25 G26 =>
      ∃ z27 : Int, w23 = some (vI z27) ∧
      ((z16 < a15) →
        V_X10_level_577 d S24 F25 G26 Q a0 a1 a2 a3 a4 a5 a6 a8 a10 a12 a14 a15 a16 a17 z10 z16 a10 z27 (sR S18 a0 7)) ∧
      ((¬ z16 < a15) →
        ((¬ z16 = a15) →
          V_X10_level_581 d S24 F25 G26 Q a0 a1 a2 a3 a4 a5 a6 a8 a10 a12 a14 a15 a16 a17 z10 z16 a10 z27 (sR S18 a0 7)) ∧
        ((z16 = a15) →
          ((a14 < z10) →
            V_X10_level_581 d S24 F25 G26 Q a0 a1 a2 a3 a4 a5 a6 a8 a10 a12 a14 a15 a16 a17 z10 z16 a10 z27 (sR S18 a0 7)) ∧
          ((¬ a14 < z10) →
            V_X10_level_577 d S24 F25 G26 Q a0 a1 a2 a3 a4 a5 a6 a8 a10 a12 a14 a15 a16 a17 z10 z16 a10 z27 (sR S18 a0 7))))))))))
theorem R_X10_level_497 {d : Nat} {S : AS} {F : AF} {G : AG} {Q : AQ} {a0 : Nat} {a1 : Int} {a2 : Int} {a3 : Int} {a4 : Int} {a5 : Int} {a6 : Int} {a8 : Int} {a10 : Int} {a12 : Int} {a14 : Int} {a15 : Int} {a16 : Int} {a17 : Int} (h : V_X10_level_497 d S F G Q a0 a1 a2 a3 a4 a5 a6 a8 a10 a12 a14 a15 a16 a17) : Go d MX10_level 497 [some (vR a0), some (vI a1), some (vI a2), some (vI a3), some (vI a4), some (vI a5), some (vJ a6), none, some (vJ a8), none, some (vJ a10), none, some (vJ a12), none, some (vI a14), some (vI a15), some (vI a16), some (vI a17), none, none] [] S F G Q := by
  unfold V_X10_level_497 at h
  refine go_iload (show decode cX10_level 497 = .ok (.iload 17, 2) by decide +kernel) (by rfl) ?_
  refine go_aload_n (show decode cX10_level 499 = .ok (.aload_n 0, 1) by decide +kernel) (by rfl) ?_
  obtain ⟨q1, h⟩ := h
  refine go_getR (show decode cX10_level 500 = .ok (.getfield 29, 3) by decide +kernel) fl_X10_29 rfl q1 ?_
  refine go_iconst (show decode cX10_level 503 = .ok (.iconst 1, 1) by decide +kernel) (by decide) ?_
  obtain ⟨q2, h⟩ := h
  obtain ⟨q3, h⟩ := h
  refine go_iaload (show decode cX10_level 504 = .ok (.iaload, 1) by decide +kernel) q2 (by decide) q3 ?_
  obtain ⟨ht, hf⟩ := h
  refine go_icmpge (tgt := 590) (show decode cX10_level 505 = .ok (.if_icmp .ge 85, 3) by decide +kernel) (by decide) (fun hc => ?_) (fun hc => ?_)
  · have h := ht hc
    obtain ⟨q4, h⟩ := h
    refine go_iinc (show decode cX10_level 590 = .ok (.iinc 16 1, 3) by decide +kernel) (by rfl) q4 (by decide) ?_
    show Go d MX10_level 593 [some (vR a0), some (vI a1), some (vI a2), some (vI a3), some (vI a4), some (vI a5), some (vJ a6), none, some (vJ a8), none, some (vJ a10), none, some (vJ a12), none, some (vI a14), some (vI a15), some (vI (a16 + 1)), some (vI a17), none, none] [] S F G Q
    refine go_goto (tgt := 483) (show decode cX10_level 593 = .ok (.goto (-110), 3) by decide +kernel) (by decide) ?_
    refine go_clr 17 ?_
    exact h
  · have h := hf hc
    refine go_aload_n (show decode cX10_level 508 = .ok (.aload_n 0, 1) by decide +kernel) (by rfl) ?_
    refine go_iconst (show decode cX10_level 509 = .ok (.iconst 0, 1) by decide +kernel) (by decide) ?_
    refine go_iload (show decode cX10_level 510 = .ok (.iload 16, 2) by decide +kernel) (by rfl) ?_
    obtain ⟨q5, h⟩ := h
    refine go_callV (d2 := d - 1) (M2 := MX10_edgeAt) (n := 2) (ci := 10) (av := [vI 0, vI a16]) (st := []) (show decode cX10_level 512 = .ok (.invokevirtual 126, 3) by decide +kernel) ml_X10_126 mt_X10_edgeAt min_X10_edgeAt mse_X10_edgeAt (by decide) q1 rfl (Nat.le_of_ble_eq_true rfl) (by omega) (ok_mono h (fun w6 S7 F8 G9 h => ?_))
    obtain ⟨z10, e9, h⟩ := h
    subst e9
    show Go d MX10_level 515 [some (vR a0), some (vI a1), some (vI a2), some (vI a3), some (vI a4), some (vI a5), some (vJ a6), none, some (vJ a8), none, some (vJ a10), none, some (vJ a12), none, some (vI a14), some (vI a15), some (vI a16), some (vI a17), none, none] [vI z10] S7 F8 G9 Q
    refine go_istore (show decode cX10_level 515 = .ok (.istore 18, 2) by decide +kernel) (by decide) ?_
    show Go d MX10_level 517 [some (vR a0), some (vI a1), some (vI a2), some (vI a3), some (vI a4), some (vI a5), some (vJ a6), none, some (vJ a8), none, some (vJ a10), none, some (vJ a12), none, some (vI a14), some (vI a15), some (vI a16), some (vI a17), some (vI z10), none] [] S7 F8 G9 Q
    refine go_aload_n (show decode cX10_level 517 = .ok (.aload_n 0, 1) by decide +kernel) (by rfl) ?_
    refine go_iconst (show decode cX10_level 518 = .ok (.iconst 1, 1) by decide +kernel) (by decide) ?_
    refine go_iload (show decode cX10_level 519 = .ok (.iload 17, 2) by decide +kernel) (by rfl) ?_
    obtain ⟨q15, h⟩ := h
    refine go_callV (d2 := d - 1) (M2 := MX10_edgeAt) (n := 2) (ci := 10) (av := [vI 1, vI a17]) (st := []) (show decode cX10_level 521 = .ok (.invokevirtual 126, 3) by decide +kernel) ml_X10_126 mt_X10_edgeAt min_X10_edgeAt mse_X10_edgeAt (by decide) q15 rfl (Nat.le_of_ble_eq_true rfl) (by omega) (ok_mono h (fun w11 S12 F13 G14 h => ?_))
    obtain ⟨z16, e9, h⟩ := h
    subst e9
    show Go d MX10_level 524 [some (vR a0), some (vI a1), some (vI a2), some (vI a3), some (vI a4), some (vI a5), some (vJ a6), none, some (vJ a8), none, some (vJ a10), none, some (vJ a12), none, some (vI a14), some (vI a15), some (vI a16), some (vI a17), some (vI z10), none] [vI z16] S12 F13 G14 Q
    refine go_istore (show decode cX10_level 524 = .ok (.istore 19, 2) by decide +kernel) (by decide) ?_
    show Go d MX10_level 526 [some (vR a0), some (vI a1), some (vI a2), some (vI a3), some (vI a4), some (vI a5), some (vJ a6), none, some (vJ a8), none, some (vJ a10), none, some (vJ a12), none, some (vI a14), some (vI a15), some (vI a16), some (vI a17), some (vI z10), some (vI z16)] [] S12 F13 G14 Q
    refine go_iload (show decode cX10_level 526 = .ok (.iload 18, 2) by decide +kernel) (by rfl) ?_
    refine go_iload (show decode cX10_level 528 = .ok (.iload 19, 2) by decide +kernel) (by rfl) ?_
    refine go_iload_n (show decode cX10_level 530 = .ok (.iload_n 2, 1) by decide +kernel) (by rfl) ?_
    refine go_iload_n (show decode cX10_level 531 = .ok (.iload_n 3, 1) by decide +kernel) (by rfl) ?_
    refine go_iload (show decode cX10_level 532 = .ok (.iload 4, 2) by decide +kernel) (by rfl) ?_
    refine go_iload (show decode cX10_level 534 = .ok (.iload 5, 2) by decide +kernel) (by rfl) ?_
    refine go_callS (d2 := d - 1) (M2 := MX10_isInside) (n := 6) (av := [vI z10, vI z16, vI a2, vI a3, vI a4, vI a5]) (st := []) (show decode cX10_level 536 = .ok (.invokestatic 289, 3) by decide +kernel) ml_X10_289 mt_X10_isInside mst_X10_isInside rfl (Nat.le_of_ble_eq_true rfl) (by omega) (ok_mono h (fun w17 S18 F19 G20 h => ?_))
    obtain ⟨z21, e9, h⟩ := h
    subst e9
    show Go d MX10_level 539 [some (vR a0), some (vI a1), some (vI a2), some (vI a3), some (vI a4), some (vI a5), some (vJ a6), none, some (vJ a8), none, some (vJ a10), none, some (vJ a12), none, some (vI a14), some (vI a15), some (vI a16), some (vI a17), some (vI z10), some (vI z16)] [vI z21] S18 F19 G20 Q
    obtain ⟨ht, hf⟩ := h
    refine go_ifeq (tgt := 584) (show decode cX10_level 539 = .ok (.ifCond .eq 45, 3) by decide +kernel) (by decide) (fun hc => ?_) (fun hc => ?_)
    · have h := ht hc
      exact R_X10_level_584 h
    · have h := hf hc
      refine go_aload_n (show decode cX10_level 542 = .ok (.aload_n 0, 1) by decide +kernel) (by rfl) ?_
      obtain ⟨q22, h⟩ := h
      refine go_getR (show decode cX10_level 543 = .ok (.getfield 35, 3) by decide +kernel) fl_X10_35 rfl q22 ?_
      refine go_iload_n (show decode cX10_level 546 = .ok (.iload_n 1, 1) by decide +kernel) (by rfl) ?_
      refine go_iload (show decode cX10_level 547 = .ok (.iload 16, 2) by decide +kernel) (by rfl) ?_
      refine go_iload (show decode cX10_level 549 = .ok (.iload 17, 2) by decide +kernel) (by rfl) ?_
      refine go_callS (d2 := d - 1) (M2 := MX10_slot) (n := 3) (av := [vI a1, vI a16, vI a17]) (st := [vR (sR S18 a0 7)]) (show decode cX10_level 551 = .ok (.invokestatic 130, 3) by decide +kernel) ml_X10_130 mt_X10_slot mst_X10_slot rfl (Nat.le_of_ble_eq_true rfl) (by omega) (ok_mono h (fun w23 S24 F25 G26 h => ?_))
      obtain ⟨z27, e9, h⟩ := h
      subst e9
      show Go d MX10_level 554 [some (vR a0), some (vI a1), some (vI a2), some (vI a3), some (vI a4), some (vI a5), some (vJ a6), none, some (vJ a8), none, some (vJ a10), none, some (vJ a12), none, some (vI a14), some (vI a15), some (vI a16), some (vI a17), some (vI z10), some (vI z16)] [vI z27, vR (sR S18 a0 7)] S24 F25 G26 Q
      refine go_lload (show decode cX10_level 554 = .ok (.lload 10, 2) by decide +kernel) (by rfl) ?_
      refine go_iload (show decode cX10_level 556 = .ok (.iload 19, 2) by decide +kernel) (by rfl) ?_
      refine go_iload (show decode cX10_level 558 = .ok (.iload 15, 2) by decide +kernel) (by rfl) ?_
      obtain ⟨ht, hf⟩ := h
      refine go_icmplt (tgt := 577) (show decode cX10_level 560 = .ok (.if_icmp .lt 17, 3) by decide +kernel) (by decide) (fun hc => ?_) (fun hc => ?_)
      · have h := ht hc
        exact R_X10_level_577 h
      · have h := hf hc
        refine go_iload (show decode cX10_level 563 = .ok (.iload 19, 2) by decide +kernel) (by rfl) ?_
        refine go_iload (show decode cX10_level 565 = .ok (.iload 15, 2) by decide +kernel) (by rfl) ?_
        obtain ⟨ht, hf⟩ := h
        refine go_icmpne (tgt := 581) (show decode cX10_level 567 = .ok (.if_icmp .ne 14, 3) by decide +kernel) (by decide) (fun hc => ?_) (fun hc => ?_)
        · have h := ht hc
          exact R_X10_level_581 h
        · have h := hf hc
          refine go_iload (show decode cX10_level 570 = .ok (.iload 18, 2) by decide +kernel) (by rfl) ?_
          refine go_iload (show decode cX10_level 572 = .ok (.iload 14, 2) by decide +kernel) (by rfl) ?_
          obtain ⟨ht, hf⟩ := h
          refine go_icmpgt (tgt := 581) (show decode cX10_level 574 = .ok (.if_icmp .gt 7, 3) by decide +kernel) (by decide) (fun hc => ?_) (fun hc => ?_)
          · have h := ht hc
            exact R_X10_level_581 h
          · have h := hf hc
            exact R_X10_level_577 h
def V_X10_level_483 (d : Nat) (S : AS) (F : AF) (G : AG) (Q : AQ) (a0 : Nat) (a1 : Int) (a2 : Int) (a3 : Int) (a4 : Int) (a5 : Int) (a6 : Int) (a8 : Int) (a10 : Int) (a12 : Int) (a14 : Int) (a15 : Int) (a16 : Int) : Prop :=
  (sK S a0 = 10) ∧
  (sK S (sR S a0 5) = 20) ∧
  ((0 : Int) < (sN S (sR S a0 5) : Int)) ∧
  ((G (sR S a0 5) 0 ≤ a16) →
    (1 ≤ d) ∧
    Ok (d - 1) MX10_tells [vR a0, vI 3, vI a1, vI a2, vI a3, vI a4, vI a5, vJ a8] S F G (fun w5 S6 F7 G8 =>
    w5 = none ∧
    Q (some (vJ a10)) S6 F7 G8)) ∧
  ((¬ G (sR S a0 5) 0 ≤ a16) →
    Go d MX10_level 497 [some (vR a0), some (vI a1), some (vI a2), some (vI a3), some (vI a4), some (vI a5), some (vJ a6), none, some (vJ a8), none, some (vJ a10), none, some (vJ a12), none, some (vI a14), some (vI a15), some (vI a16), some (vI 0), none, none] [] S F G Q)
theorem R_X10_level_483 {d : Nat} {S : AS} {F : AF} {G : AG} {Q : AQ} {a0 : Nat} {a1 : Int} {a2 : Int} {a3 : Int} {a4 : Int} {a5 : Int} {a6 : Int} {a8 : Int} {a10 : Int} {a12 : Int} {a14 : Int} {a15 : Int} {a16 : Int} (h : V_X10_level_483 d S F G Q a0 a1 a2 a3 a4 a5 a6 a8 a10 a12 a14 a15 a16) : Go d MX10_level 483 [some (vR a0), some (vI a1), some (vI a2), some (vI a3), some (vI a4), some (vI a5), some (vJ a6), none, some (vJ a8), none, some (vJ a10), none, some (vJ a12), none, some (vI a14), some (vI a15), some (vI a16), none, none, none] [] S F G Q := by
  unfold V_X10_level_483 at h
  refine go_iload (show decode cX10_level 483 = .ok (.iload 16, 2) by decide +kernel) (by rfl) ?_
  refine go_aload_n (show decode cX10_level 485 = .ok (.aload_n 0, 1) by decide +kernel) (by rfl) ?_
  obtain ⟨q1, h⟩ := h
  refine go_getR (show decode cX10_level 486 = .ok (.getfield 29, 3) by decide +kernel) fl_X10_29 rfl q1 ?_
  refine go_iconst (show decode cX10_level 489 = .ok (.iconst 0, 1) by decide +kernel) (by decide) ?_
  obtain ⟨q2, h⟩ := h
  obtain ⟨q3, h⟩ := h
  refine go_iaload (show decode cX10_level 490 = .ok (.iaload, 1) by decide +kernel) q2 (by decide) q3 ?_
  obtain ⟨ht, hf⟩ := h
  refine go_icmpge (tgt := 596) (show decode cX10_level 491 = .ok (.if_icmp .ge 105, 3) by decide +kernel) (by decide) (fun hc => ?_) (fun hc => ?_)
  · have h := ht hc
    refine go_aload_n (show decode cX10_level 596 = .ok (.aload_n 0, 1) by decide +kernel) (by rfl) ?_
    refine go_iconst (show decode cX10_level 597 = .ok (.iconst 3, 1) by decide +kernel) (by decide) ?_
    refine go_iload_n (show decode cX10_level 598 = .ok (.iload_n 1, 1) by decide +kernel) (by rfl) ?_
    refine go_iload_n (show decode cX10_level 599 = .ok (.iload_n 2, 1) by decide +kernel) (by rfl) ?_
    refine go_iload_n (show decode cX10_level 600 = .ok (.iload_n 3, 1) by decide +kernel) (by rfl) ?_
    refine go_iload (show decode cX10_level 601 = .ok (.iload 4, 2) by decide +kernel) (by rfl) ?_
    refine go_iload (show decode cX10_level 603 = .ok (.iload 5, 2) by decide +kernel) (by rfl) ?_
    refine go_lload (show decode cX10_level 605 = .ok (.lload 8, 2) by decide +kernel) (by rfl) ?_
    obtain ⟨q4, h⟩ := h
    refine go_callV (d2 := d - 1) (M2 := MX10_tells) (n := 7) (ci := 10) (av := [vI 3, vI a1, vI a2, vI a3, vI a4, vI a5, vJ a8]) (st := []) (show decode cX10_level 607 = .ok (.invokevirtual 213, 3) by decide +kernel) ml_X10_213 mt_X10_tells min_X10_tells mse_X10_tells (by decide) q1 rfl (Nat.le_of_ble_eq_true rfl) (by omega) (ok_mono h (fun w5 S6 F7 G8 h => ?_))
    obtain ⟨e9, h⟩ := h
    subst e9
    show Go d MX10_level 610 [some (vR a0), some (vI a1), some (vI a2), some (vI a3), some (vI a4), some (vI a5), some (vJ a6), none, some (vJ a8), none, some (vJ a10), none, some (vJ a12), none, some (vI a14), some (vI a15), some (vI a16), none, none, none] [] S6 F7 G8 Q
    refine go_lload (show decode cX10_level 610 = .ok (.lload 10, 2) by decide +kernel) (by rfl) ?_
    exact go_lret (show decode cX10_level 612 = .ok (.lreturn, 1) by decide +kernel) rfl h
  · have h := hf hc
    refine go_iconst (show decode cX10_level 494 = .ok (.iconst 0, 1) by decide +kernel) (by decide) ?_
    refine go_istore (show decode cX10_level 495 = .ok (.istore 17, 2) by decide +kernel) (by decide) ?_
    show Go d MX10_level 497 [some (vR a0), some (vI a1), some (vI a2), some (vI a3), some (vI a4), some (vI a5), some (vJ a6), none, some (vJ a8), none, some (vJ a10), none, some (vJ a12), none, some (vI a14), some (vI a15), some (vI a16), some (vI 0), none, none] [] S F G Q
    exact h
def V_X10_level_465 (d : Nat) (S : AS) (F : AF) (G : AG) (Q : AQ) (a0 : Nat) (a1 : Int) (a2 : Int) (a3 : Int) (a4 : Int) (a5 : Int) (a6 : Int) (a8 : Int) (a10 : Int) (a12 : Int) (a14 : Int) (a15 : Int) (a16 : Int) : Prop :=
  (r32 (a16 + 1)) ∧
  Go d MX10_level 359 [some (vR a0), some (vI a1), some (vI a2), some (vI a3), some (vI a4), some (vI a5), some (vJ a6), none, some (vJ a8), none, some (vJ a10), none, some (vJ a12), none, some (vI a14), some (vI a15), some (vI (a16 + 1)), none, none, none] [] S F G Q
theorem R_X10_level_465 {d : Nat} {S : AS} {F : AF} {G : AG} {Q : AQ} {a0 : Nat} {a1 : Int} {a2 : Int} {a3 : Int} {a4 : Int} {a5 : Int} {a6 : Int} {a8 : Int} {a10 : Int} {a12 : Int} {a14 : Int} {a15 : Int} {a16 : Int} (h : V_X10_level_465 d S F G Q a0 a1 a2 a3 a4 a5 a6 a8 a10 a12 a14 a15 a16) : Go d MX10_level 465 [some (vR a0), some (vI a1), some (vI a2), some (vI a3), some (vI a4), some (vI a5), some (vJ a6), none, some (vJ a8), none, some (vJ a10), none, some (vJ a12), none, some (vI a14), some (vI a15), some (vI a16), none, none, none] [] S F G Q := by
  unfold V_X10_level_465 at h
  obtain ⟨q1, h⟩ := h
  refine go_iinc (show decode cX10_level 465 = .ok (.iinc 16 1, 3) by decide +kernel) (by rfl) q1 (by decide) ?_
  show Go d MX10_level 468 [some (vR a0), some (vI a1), some (vI a2), some (vI a3), some (vI a4), some (vI a5), some (vJ a6), none, some (vJ a8), none, some (vJ a10), none, some (vJ a12), none, some (vI a14), some (vI a15), some (vI (a16 + 1)), none, none, none] [] S F G Q
  refine go_goto (tgt := 359) (show decode cX10_level 468 = .ok (.goto (-109), 3) by decide +kernel) (by decide) ?_
  exact h
def V_X10_level_359 (d : Nat) (S : AS) (F : AF) (G : AG) (Q : AQ) (a0 : Nat) (a1 : Int) (a2 : Int) (a3 : Int) (a4 : Int) (a5 : Int) (a6 : Int) (a8 : Int) (a10 : Int) (a12 : Int) (a14 : Int) (a15 : Int) (a16 : Int) : Prop :=
  ((6 ≤ a16) →
    (1 ≤ d) ∧
    (sK S a0 = 10) ∧
    Ok (d - 1) MX10_comesAcross [vR a0] S F G (fun w2 S3 F4 G5 =>
    w2 = none ∧
    (sK S3 a0 = 10) ∧
    Ok (d - 1) MX10_comesAll [vR a0, vI 1] S3 F4 G5 (fun w7 S8 F9 G10 =>
    w7 = none ∧
    Go d MX10_level 483 [some (vR a0), some (vI a1), some (vI a2), some (vI a3), some (vI a4), some (vI a5), some (vJ a6), none, some (vJ a8), none, some (vJ a10), none, some (vJ a12), none, some (vI a14), some (vI a15), some (vI 0), none, none, none] [] S8 F9 G10 Q))) ∧
  ((¬ 6 ≤ a16) →
    (sK S a0 = 10) ∧
    (sK S (sR S a0 17) = 23) ∧
    ((0 : Int) ≤ a16) ∧
    ((a16 : Int) < (sN S (sR S a0 17) : Int)) ∧
    ((G (sR S a0 17) a16 = 0) →
      V_X10_level_465 d S F G Q a0 a1 a2 a3 a4 a5 a6 a8 a10 a12 a14 a15 a16) ∧
    ((¬ G (sR S a0 17) a16 = 0) →
      (1 ≤ d) ∧
      Ok (d - 1) MX10_meets [vR a0, vI a16, vI a2, vI a3, vI a4, vI a5] S F G (fun w17 S18 F19 G20 =>
      ∃ z21 : Int, w17 = some (vI z21) ∧
      ((¬ z21 = 0) →
        (sK S18 a0 = 10) ∧
        Ok (d - 1) MX10_cells [vR a0] S18 F19 G20 (fun w22 S23 F24 G25 =>
        ∃ z27 : Int, w22 = some (vJ z27) ∧
        (r64 (a10 * z27)) ∧
        (sK S23 a0 = 10) ∧
        Ok (d - 1) MX10_first0 [vR a0, vI a14, vI a15] S23 F24 G25 (fun w29 S30 F31 G32 =>
        ∃ z34 : Int, w29 = some (vJ z34) ∧
        (r64 ((a10 * z27) + z34)) ∧
        (sK S30 a0 = 10) ∧
        Ok (d - 1) MX10_sumOf [vR a0, vI a1, vI (F31 a0 24), vI (F31 a0 25), vI (F31 a0 26), vI (F31 a0 27)] S30 F31 G32 (fun w37 S38 F39 G40 =>
        ∃ z41 : Int, w37 = some (vJ z41) ∧
        (r64 (((a10 * z27) + z34) - z41)) ∧
        ∀ x43 : Int, x43 = ((a10 * z27) + z34) - z41 →
        ((x43 ≤ 0) →
          V_X10_level_465 d S38 F39 G40 Q a0 a1 a2 a3 a4 a5 a6 a8 a10 a12 a14 a15 a16) ∧
        ((¬ x43 ≤ 0) →
          (sK S38 a0 = 10) ∧
          Ok (d - 1) MX10_zoned [vR a0, vI a16] S38 F39 G40 (fun w44 S45 F46 G47 =>
          ∃ z49 : Int, w44 = some (vJ z49) ∧
          (r64 (z49 + x43)) ∧
          (sK S45 a0 = 10) ∧
          (sK S45 (sR S45 a0 16) = 21) ∧
          ((0 : Int) ≤ a16) ∧
          ((a16 : Int) < (sN S45 (sR S45 a0 16) : Int)) ∧
          ((z49 + x43 ≤ G47 (sR S45 a0 16) a16) →
            V_X10_level_465 d S45 F46 G47 Q a0 a1 a2 a3 a4 a5 a6 a8 a10 a12 a14 a15 a16) ∧
          ((¬ z49 + x43 ≤ G47 (sR S45 a0 16) a16) →
            Q (some (vJ (-9))) S45 F46 G47))))))) ∧
      ((z21 = 0) →
        V_X10_level_465 d S18 F19 G20 Q a0 a1 a2 a3 a4 a5 a6 a8 a10 a12 a14 a15 a16))))
theorem R_X10_level_359 {d : Nat} {S : AS} {F : AF} {G : AG} {Q : AQ} {a0 : Nat} {a1 : Int} {a2 : Int} {a3 : Int} {a4 : Int} {a5 : Int} {a6 : Int} {a8 : Int} {a10 : Int} {a12 : Int} {a14 : Int} {a15 : Int} {a16 : Int} (h : V_X10_level_359 d S F G Q a0 a1 a2 a3 a4 a5 a6 a8 a10 a12 a14 a15 a16) : Go d MX10_level 359 [some (vR a0), some (vI a1), some (vI a2), some (vI a3), some (vI a4), some (vI a5), some (vJ a6), none, some (vJ a8), none, some (vJ a10), none, some (vJ a12), none, some (vI a14), some (vI a15), some (vI a16), none, none, none] [] S F G Q := by
  unfold V_X10_level_359 at h
  refine go_iload (show decode cX10_level 359 = .ok (.iload 16, 2) by decide +kernel) (by rfl) ?_
  refine go_bipush (show decode cX10_level 361 = .ok (.bipush 6, 2) by decide +kernel) (by decide) ?_
  obtain ⟨ht, hf⟩ := h
  refine go_icmpge (tgt := 471) (show decode cX10_level 363 = .ok (.if_icmp .ge 108, 3) by decide +kernel) (by decide) (fun hc => ?_) (fun hc => ?_)
  · have h := ht hc
    refine go_aload_n (show decode cX10_level 471 = .ok (.aload_n 0, 1) by decide +kernel) (by rfl) ?_
    obtain ⟨q1, h⟩ := h
    obtain ⟨q6, h⟩ := h
    refine go_callV (d2 := d - 1) (M2 := MX10_comesAcross) (n := 0) (ci := 10) (av := []) (st := []) (show decode cX10_level 472 = .ok (.invokevirtual 298, 3) by decide +kernel) ml_X10_298 mt_X10_comesAcross min_X10_comesAcross mse_X10_comesAcross (by decide) q6 rfl (Nat.le_of_ble_eq_true rfl) (by omega) (ok_mono h (fun w2 S3 F4 G5 h => ?_))
    obtain ⟨e9, h⟩ := h
    subst e9
    show Go d MX10_level 475 [some (vR a0), some (vI a1), some (vI a2), some (vI a3), some (vI a4), some (vI a5), some (vJ a6), none, some (vJ a8), none, some (vJ a10), none, some (vJ a12), none, some (vI a14), some (vI a15), some (vI a16), none, none, none] [] S3 F4 G5 Q
    refine go_aload_n (show decode cX10_level 475 = .ok (.aload_n 0, 1) by decide +kernel) (by rfl) ?_
    refine go_iconst (show decode cX10_level 476 = .ok (.iconst 1, 1) by decide +kernel) (by decide) ?_
    obtain ⟨q11, h⟩ := h
    refine go_callV (d2 := d - 1) (M2 := MX10_comesAll) (n := 1) (ci := 10) (av := [vI 1]) (st := []) (show decode cX10_level 477 = .ok (.invokevirtual 301, 3) by decide +kernel) ml_X10_301 mt_X10_comesAll min_X10_comesAll mse_X10_comesAll (by decide) q11 rfl (Nat.le_of_ble_eq_true rfl) (by omega) (ok_mono h (fun w7 S8 F9 G10 h => ?_))
    obtain ⟨e9, h⟩ := h
    subst e9
    show Go d MX10_level 480 [some (vR a0), some (vI a1), some (vI a2), some (vI a3), some (vI a4), some (vI a5), some (vJ a6), none, some (vJ a8), none, some (vJ a10), none, some (vJ a12), none, some (vI a14), some (vI a15), some (vI a16), none, none, none] [] S8 F9 G10 Q
    refine go_iconst (show decode cX10_level 480 = .ok (.iconst 0, 1) by decide +kernel) (by decide) ?_
    refine go_istore (show decode cX10_level 481 = .ok (.istore 16, 2) by decide +kernel) (by decide) ?_
    show Go d MX10_level 483 [some (vR a0), some (vI a1), some (vI a2), some (vI a3), some (vI a4), some (vI a5), some (vJ a6), none, some (vJ a8), none, some (vJ a10), none, some (vJ a12), none, some (vI a14), some (vI a15), some (vI 0), none, none, none] [] S8 F9 G10 Q
    exact h
  · have h := hf hc
    refine go_aload_n (show decode cX10_level 366 = .ok (.aload_n 0, 1) by decide +kernel) (by rfl) ?_
    obtain ⟨q12, h⟩ := h
    refine go_getR (show decode cX10_level 367 = .ok (.getfield 61, 3) by decide +kernel) fl_X10_61 rfl q12 ?_
    refine go_iload (show decode cX10_level 370 = .ok (.iload 16, 2) by decide +kernel) (by rfl) ?_
    obtain ⟨q13, h⟩ := h
    obtain ⟨q14, h⟩ := h
    obtain ⟨q15, h⟩ := h
    refine go_zaload (show decode cX10_level 372 = .ok (.baload, 1) by decide +kernel) q13 q14 q15 ?_
    obtain ⟨ht, hf⟩ := h
    refine go_ifeq (tgt := 465) (show decode cX10_level 373 = .ok (.ifCond .eq 92, 3) by decide +kernel) (by decide) (fun hc => ?_) (fun hc => ?_)
    · have h := ht hc
      exact R_X10_level_465 h
    · have h := hf hc
      refine go_aload_n (show decode cX10_level 376 = .ok (.aload_n 0, 1) by decide +kernel) (by rfl) ?_
      refine go_iload (show decode cX10_level 377 = .ok (.iload 16, 2) by decide +kernel) (by rfl) ?_
      refine go_iload_n (show decode cX10_level 379 = .ok (.iload_n 2, 1) by decide +kernel) (by rfl) ?_
      refine go_iload_n (show decode cX10_level 380 = .ok (.iload_n 3, 1) by decide +kernel) (by rfl) ?_
      refine go_iload (show decode cX10_level 381 = .ok (.iload 4, 2) by decide +kernel) (by rfl) ?_
      refine go_iload (show decode cX10_level 383 = .ok (.iload 5, 2) by decide +kernel) (by rfl) ?_
      obtain ⟨q16, h⟩ := h
      refine go_callV (d2 := d - 1) (M2 := MX10_meets) (n := 5) (ci := 10) (av := [vI a16, vI a2, vI a3, vI a4, vI a5]) (st := []) (show decode cX10_level 385 = .ok (.invokevirtual 184, 3) by decide +kernel) ml_X10_184 mt_X10_meets min_X10_meets mse_X10_meets (by decide) q12 rfl (Nat.le_of_ble_eq_true rfl) (by omega) (ok_mono h (fun w17 S18 F19 G20 h => ?_))
      obtain ⟨z21, e9, h⟩ := h
      subst e9
      show Go d MX10_level 388 [some (vR a0), some (vI a1), some (vI a2), some (vI a3), some (vI a4), some (vI a5), some (vJ a6), none, some (vJ a8), none, some (vJ a10), none, some (vJ a12), none, some (vI a14), some (vI a15), some (vI a16), none, none, none] [vI z21] S18 F19 G20 Q
      obtain ⟨ht, hf⟩ := h
      refine go_ifne (tgt := 394) (show decode cX10_level 388 = .ok (.ifCond .ne 6, 3) by decide +kernel) (by decide) (fun hc => ?_) (fun hc => ?_)
      · have h := ht hc
        refine go_lload (show decode cX10_level 394 = .ok (.lload 10, 2) by decide +kernel) (by rfl) ?_
        refine go_aload_n (show decode cX10_level 396 = .ok (.aload_n 0, 1) by decide +kernel) (by rfl) ?_
        obtain ⟨q26, h⟩ := h
        refine go_callV (d2 := d - 1) (M2 := MX10_cells) (n := 0) (ci := 10) (av := []) (st := [vJ a10]) (show decode cX10_level 397 = .ok (.invokevirtual 192, 3) by decide +kernel) ml_X10_192 mt_X10_cells min_X10_cells mse_X10_cells (by decide) q26 rfl (Nat.le_of_ble_eq_true rfl) (by omega) (ok_mono h (fun w22 S23 F24 G25 h => ?_))
        obtain ⟨z27, e9, h⟩ := h
        subst e9
        show Go d MX10_level 400 [some (vR a0), some (vI a1), some (vI a2), some (vI a3), some (vI a4), some (vI a5), some (vJ a6), none, some (vJ a8), none, some (vJ a10), none, some (vJ a12), none, some (vI a14), some (vI a15), some (vI a16), none, none, none] [vJ z27, vJ a10] S23 F24 G25 Q
        obtain ⟨q28, h⟩ := h
        refine go_lmul (show decode cX10_level 400 = .ok (.lmul, 1) by decide +kernel) q28 ?_
        refine go_aload_n (show decode cX10_level 401 = .ok (.aload_n 0, 1) by decide +kernel) (by rfl) ?_
        refine go_iload (show decode cX10_level 402 = .ok (.iload 14, 2) by decide +kernel) (by rfl) ?_
        refine go_iload (show decode cX10_level 404 = .ok (.iload 15, 2) by decide +kernel) (by rfl) ?_
        obtain ⟨q33, h⟩ := h
        refine go_callV (d2 := d - 1) (M2 := MX10_first0) (n := 2) (ci := 10) (av := [vI a14, vI a15]) (st := [vJ (a10 * z27)]) (show decode cX10_level 406 = .ok (.invokevirtual 306, 3) by decide +kernel) ml_X10_306 mt_X10_first0 min_X10_first0 mse_X10_first0 (by decide) q33 rfl (Nat.le_of_ble_eq_true rfl) (by omega) (ok_mono h (fun w29 S30 F31 G32 h => ?_))
        obtain ⟨z34, e9, h⟩ := h
        subst e9
        show Go d MX10_level 409 [some (vR a0), some (vI a1), some (vI a2), some (vI a3), some (vI a4), some (vI a5), some (vJ a6), none, some (vJ a8), none, some (vJ a10), none, some (vJ a12), none, some (vI a14), some (vI a15), some (vI a16), none, none, none] [vJ z34, vJ (a10 * z27)] S30 F31 G32 Q
        obtain ⟨q35, h⟩ := h
        refine go_ladd (show decode cX10_level 409 = .ok (.ladd, 1) by decide +kernel) q35 ?_
        refine go_aload_n (show decode cX10_level 410 = .ok (.aload_n 0, 1) by decide +kernel) (by rfl) ?_
        refine go_iload_n (show decode cX10_level 411 = .ok (.iload_n 1, 1) by decide +kernel) (by rfl) ?_
        refine go_aload_n (show decode cX10_level 412 = .ok (.aload_n 0, 1) by decide +kernel) (by rfl) ?_
        obtain ⟨q36, h⟩ := h
        refine go_getI (show decode cX10_level 413 = .ok (.getfield 239, 3) by decide +kernel) fl_X10_239 (Or.inl rfl) q36 ?_
        refine go_aload_n (show decode cX10_level 416 = .ok (.aload_n 0, 1) by decide +kernel) (by rfl) ?_
        refine go_getI (show decode cX10_level 417 = .ok (.getfield 242, 3) by decide +kernel) fl_X10_242 (Or.inl rfl) q36 ?_
        refine go_aload_n (show decode cX10_level 420 = .ok (.aload_n 0, 1) by decide +kernel) (by rfl) ?_
        refine go_getI (show decode cX10_level 421 = .ok (.getfield 245, 3) by decide +kernel) fl_X10_245 (Or.inl rfl) q36 ?_
        refine go_aload_n (show decode cX10_level 424 = .ok (.aload_n 0, 1) by decide +kernel) (by rfl) ?_
        refine go_getI (show decode cX10_level 425 = .ok (.getfield 248, 3) by decide +kernel) fl_X10_248 (Or.inl rfl) q36 ?_
        refine go_callV (d2 := d - 1) (M2 := MX10_sumOf) (n := 5) (ci := 10) (av := [vI a1, vI (F31 a0 24), vI (F31 a0 25), vI (F31 a0 26), vI (F31 a0 27)]) (st := [vJ ((a10 * z27) + z34)]) (show decode cX10_level 428 = .ok (.invokevirtual 251, 3) by decide +kernel) ml_X10_251 mt_X10_sumOf min_X10_sumOf mse_X10_sumOf (by decide) q36 rfl (Nat.le_of_ble_eq_true rfl) (by omega) (ok_mono h (fun w37 S38 F39 G40 h => ?_))
        obtain ⟨z41, e9, h⟩ := h
        subst e9
        show Go d MX10_level 431 [some (vR a0), some (vI a1), some (vI a2), some (vI a3), some (vI a4), some (vI a5), some (vJ a6), none, some (vJ a8), none, some (vJ a10), none, some (vJ a12), none, some (vI a14), some (vI a15), some (vI a16), none, none, none] [vJ z41, vJ ((a10 * z27) + z34)] S38 F39 G40 Q
        obtain ⟨q42, h⟩ := h
        refine go_lsub (show decode cX10_level 431 = .ok (.lsub, 1) by decide +kernel) q42 ?_
        obtain ⟨x43, x43e⟩ : ∃ x43 : Int, x43 = ((a10 * z27) + z34) - z41 := ⟨_, rfl⟩
        have h := h x43 x43e
        rw [← x43e]
        refine go_lstore (show decode cX10_level 432 = .ok (.lstore 17, 2) by decide +kernel) (by decide) ?_
        show Go d MX10_level 434 [some (vR a0), some (vI a1), some (vI a2), some (vI a3), some (vI a4), some (vI a5), some (vJ a6), none, some (vJ a8), none, some (vJ a10), none, some (vJ a12), none, some (vI a14), some (vI a15), some (vI a16), some (vJ x43), none, none] [] S38 F39 G40 Q
        refine go_lload (show decode cX10_level 434 = .ok (.lload 17, 2) by decide +kernel) (by rfl) ?_
        refine go_lconst (n := 0) (show decode cX10_level 436 = .ok (.lconst 0, 1) by decide +kernel) ?_
        show Go d MX10_level 437 [some (vR a0), some (vI a1), some (vI a2), some (vI a3), some (vI a4), some (vI a5), some (vJ a6), none, some (vJ a8), none, some (vJ a10), none, some (vJ a12), none, some (vI a14), some (vI a15), some (vI a16), some (vJ x43), none, none] [vJ 0, vJ x43] S38 F39 G40 Q
        obtain ⟨ht, hf⟩ := h
        refine go_jle (tgt := 465) (show decode cX10_level 437 = .ok (.lcmp, 1) by decide +kernel) (show decode cX10_level 438 = .ok (.ifCond .le 27, 3) by decide +kernel) (by decide) (fun hc => ?_) (fun hc => ?_)
        · have h := ht hc
          refine go_clr 17 ?_
          exact R_X10_level_465 h
        · have h := hf hc
          refine go_aload_n (show decode cX10_level 441 = .ok (.aload_n 0, 1) by decide +kernel) (by rfl) ?_
          refine go_iload (show decode cX10_level 442 = .ok (.iload 16, 2) by decide +kernel) (by rfl) ?_
          obtain ⟨q48, h⟩ := h
          refine go_callV (d2 := d - 1) (M2 := MX10_zoned) (n := 1) (ci := 10) (av := [vI a16]) (st := []) (show decode cX10_level 444 = .ok (.invokevirtual 188, 3) by decide +kernel) ml_X10_188 mt_X10_zoned min_X10_zoned mse_X10_zoned (by decide) q48 rfl (Nat.le_of_ble_eq_true rfl) (by omega) (ok_mono h (fun w44 S45 F46 G47 h => ?_))
          obtain ⟨z49, e9, h⟩ := h
          subst e9
          show Go d MX10_level 447 [some (vR a0), some (vI a1), some (vI a2), some (vI a3), some (vI a4), some (vI a5), some (vJ a6), none, some (vJ a8), none, some (vJ a10), none, some (vJ a12), none, some (vI a14), some (vI a15), some (vI a16), some (vJ x43), none, none] [vJ z49] S45 F46 G47 Q
          refine go_lload (show decode cX10_level 447 = .ok (.lload 17, 2) by decide +kernel) (by rfl) ?_
          obtain ⟨q50, h⟩ := h
          refine go_ladd (show decode cX10_level 449 = .ok (.ladd, 1) by decide +kernel) q50 ?_
          refine go_aload_n (show decode cX10_level 450 = .ok (.aload_n 0, 1) by decide +kernel) (by rfl) ?_
          obtain ⟨q51, h⟩ := h
          refine go_getR (show decode cX10_level 451 = .ok (.getfield 58, 3) by decide +kernel) fl_X10_58 rfl q51 ?_
          refine go_iload (show decode cX10_level 454 = .ok (.iload 16, 2) by decide +kernel) (by rfl) ?_
          obtain ⟨q52, h⟩ := h
          obtain ⟨q53, h⟩ := h
          obtain ⟨q54, h⟩ := h
          refine go_laload (show decode cX10_level 456 = .ok (.laload, 1) by decide +kernel) q52 q53 q54 ?_
          obtain ⟨ht, hf⟩ := h
          refine go_jle (tgt := 465) (show decode cX10_level 457 = .ok (.lcmp, 1) by decide +kernel) (show decode cX10_level 458 = .ok (.ifCond .le 7, 3) by decide +kernel) (by decide) (fun hc => ?_) (fun hc => ?_)
          · have h := ht hc
            refine go_clr 17 ?_
            exact R_X10_level_465 h
          · have h := hf hc
            refine go_ldc2 (show decode cX10_level 461 = .ok (.ldc2_w 196, 3) by decide +kernel) lc_X10_196 (by decide) ?_
            exact go_lret (show decode cX10_level 464 = .ok (.lreturn, 1) by decide +kernel) rfl h
      · have h := hf hc
        refine go_goto (tgt := 465) (show decode cX10_level 391 = .ok (.goto 74, 3) by decide +kernel) (by decide) ?_
        exact R_X10_level_465 h
def V_X10_level_344 (d : Nat) (S : AS) (F : AF) (G : AG) (Q : AQ) (a0 : Nat) (a1 : Int) (a2 : Int) (a3 : Int) (a4 : Int) (a5 : Int) (a6 : Int) (a8 : Int) (a10 : Int) (a12 : Int) (a14 : Int) (a15 : Int) (a16 : Int) (a17 : Int) (a18 : Int) (a19 : Int) : Prop :=
  (r32 (a17 + 1)) ∧
  Go d MX10_level 232 [some (vR a0), some (vI a1), some (vI a2), some (vI a3), some (vI a4), some (vI a5), some (vJ a6), none, some (vJ a8), none, some (vJ a10), none, some (vJ a12), none, some (vI a14), some (vI a15), some (vI a16), some (vI (a17 + 1)), none, none] [] S F G Q
theorem R_X10_level_344 {d : Nat} {S : AS} {F : AF} {G : AG} {Q : AQ} {a0 : Nat} {a1 : Int} {a2 : Int} {a3 : Int} {a4 : Int} {a5 : Int} {a6 : Int} {a8 : Int} {a10 : Int} {a12 : Int} {a14 : Int} {a15 : Int} {a16 : Int} {a17 : Int} {a18 : Int} {a19 : Int} (h : V_X10_level_344 d S F G Q a0 a1 a2 a3 a4 a5 a6 a8 a10 a12 a14 a15 a16 a17 a18 a19) : Go d MX10_level 344 [some (vR a0), some (vI a1), some (vI a2), some (vI a3), some (vI a4), some (vI a5), some (vJ a6), none, some (vJ a8), none, some (vJ a10), none, some (vJ a12), none, some (vI a14), some (vI a15), some (vI a16), some (vI a17), some (vI a18), some (vI a19)] [] S F G Q := by
  unfold V_X10_level_344 at h
  obtain ⟨q1, h⟩ := h
  refine go_iinc (show decode cX10_level 344 = .ok (.iinc 17 1, 3) by decide +kernel) (by rfl) q1 (by decide) ?_
  show Go d MX10_level 347 [some (vR a0), some (vI a1), some (vI a2), some (vI a3), some (vI a4), some (vI a5), some (vJ a6), none, some (vJ a8), none, some (vJ a10), none, some (vJ a12), none, some (vI a14), some (vI a15), some (vI a16), some (vI (a17 + 1)), some (vI a18), some (vI a19)] [] S F G Q
  refine go_goto (tgt := 232) (show decode cX10_level 347 = .ok (.goto (-115), 3) by decide +kernel) (by decide) ?_
  refine go_clr 18 ?_
  refine go_clr 19 ?_
  exact h
def V_X10_level_331 (d : Nat) (S : AS) (F : AF) (G : AG) (Q : AQ) (a0 : Nat) (a1 : Int) (a2 : Int) (a3 : Int) (a4 : Int) (a5 : Int) (a6 : Int) (a8 : Int) (a10 : Int) (a12 : Int) (a14 : Int) (a15 : Int) (a16 : Int) (a17 : Int) (a18 : Int) (a19 : Int) (s0 : Int) (s1 : Int) : Prop :=
  (r64 (s1 + s0)) ∧
  (sK S a0 = 10) ∧
  ((s1 + s0 ≤ F a0 3) →
    V_X10_level_344 d S F G Q a0 a1 a2 a3 a4 a5 a6 a8 a10 a12 a14 a15 a16 a17 a18 a19) ∧
  ((¬ s1 + s0 ≤ F a0 3) →
    Q (some (vJ (-7))) S F G)
theorem R_X10_level_331 {d : Nat} {S : AS} {F : AF} {G : AG} {Q : AQ} {a0 : Nat} {a1 : Int} {a2 : Int} {a3 : Int} {a4 : Int} {a5 : Int} {a6 : Int} {a8 : Int} {a10 : Int} {a12 : Int} {a14 : Int} {a15 : Int} {a16 : Int} {a17 : Int} {a18 : Int} {a19 : Int} {s0 : Int} {s1 : Int} (h : V_X10_level_331 d S F G Q a0 a1 a2 a3 a4 a5 a6 a8 a10 a12 a14 a15 a16 a17 a18 a19 s0 s1) : Go d MX10_level 331 [some (vR a0), some (vI a1), some (vI a2), some (vI a3), some (vI a4), some (vI a5), some (vJ a6), none, some (vJ a8), none, some (vJ a10), none, some (vJ a12), none, some (vI a14), some (vI a15), some (vI a16), some (vI a17), some (vI a18), some (vI a19)] [vJ s0, vJ s1] S F G Q := by
  unfold V_X10_level_331 at h
  obtain ⟨q1, h⟩ := h
  refine go_ladd (show decode cX10_level 331 = .ok (.ladd, 1) by decide +kernel) q1 ?_
  refine go_aload_n (show decode cX10_level 332 = .ok (.aload_n 0, 1) by decide +kernel) (by rfl) ?_
  obtain ⟨q2, h⟩ := h
  refine go_getJ (show decode cX10_level 333 = .ok (.getfield 21, 3) by decide +kernel) fl_X10_21 rfl q2 ?_
  obtain ⟨ht, hf⟩ := h
  refine go_jle (tgt := 344) (show decode cX10_level 336 = .ok (.lcmp, 1) by decide +kernel) (show decode cX10_level 337 = .ok (.ifCond .le 7, 3) by decide +kernel) (by decide) (fun hc => ?_) (fun hc => ?_)
  · have h := ht hc
    exact R_X10_level_344 h
  · have h := hf hc
    refine go_ldc2 (show decode cX10_level 340 = .ok (.ldc2_w 296, 3) by decide +kernel) lc_X10_296 (by decide) ?_
    exact go_lret (show decode cX10_level 343 = .ok (.lreturn, 1) by decide +kernel) rfl h
def V_X10_level_330 (d : Nat) (S : AS) (F : AF) (G : AG) (Q : AQ) (a0 : Nat) (a1 : Int) (a2 : Int) (a3 : Int) (a4 : Int) (a5 : Int) (a6 : Int) (a8 : Int) (a10 : Int) (a12 : Int) (a14 : Int) (a15 : Int) (a16 : Int) (a17 : Int) (a18 : Int) (a19 : Int) (s0 : Int) : Prop :=
  V_X10_level_331 d S F G Q a0 a1 a2 a3 a4 a5 a6 a8 a10 a12 a14 a15 a16 a17 a18 a19 0 s0
theorem R_X10_level_330 {d : Nat} {S : AS} {F : AF} {G : AG} {Q : AQ} {a0 : Nat} {a1 : Int} {a2 : Int} {a3 : Int} {a4 : Int} {a5 : Int} {a6 : Int} {a8 : Int} {a10 : Int} {a12 : Int} {a14 : Int} {a15 : Int} {a16 : Int} {a17 : Int} {a18 : Int} {a19 : Int} {s0 : Int} (h : V_X10_level_330 d S F G Q a0 a1 a2 a3 a4 a5 a6 a8 a10 a12 a14 a15 a16 a17 a18 a19 s0) : Go d MX10_level 330 [some (vR a0), some (vI a1), some (vI a2), some (vI a3), some (vI a4), some (vI a5), some (vJ a6), none, some (vJ a8), none, some (vJ a10), none, some (vJ a12), none, some (vI a14), some (vI a15), some (vI a16), some (vI a17), some (vI a18), some (vI a19)] [vJ s0] S F G Q := by
  unfold V_X10_level_330 at h
  refine go_lconst (n := 0) (show decode cX10_level 330 = .ok (.lconst 0, 1) by decide +kernel) ?_
  show Go d MX10_level 331 [some (vR a0), some (vI a1), some (vI a2), some (vI a3), some (vI a4), some (vI a5), some (vJ a6), none, some (vJ a8), none, some (vJ a10), none, some (vJ a12), none, some (vI a14), some (vI a15), some (vI a16), some (vI a17), some (vI a18), some (vI a19)] [vJ 0, vJ s0] S F G Q
  exact R_X10_level_331 h
def V_X10_level_326 (d : Nat) (S : AS) (F : AF) (G : AG) (Q : AQ) (a0 : Nat) (a1 : Int) (a2 : Int) (a3 : Int) (a4 : Int) (a5 : Int) (a6 : Int) (a8 : Int) (a10 : Int) (a12 : Int) (a14 : Int) (a15 : Int) (a16 : Int) (a17 : Int) (a18 : Int) (a19 : Int) (s0 : Int) : Prop :=
  V_X10_level_331 d S F G Q a0 a1 a2 a3 a4 a5 a6 a8 a10 a12 a14 a15 a16 a17 a18 a19 1 s0
theorem R_X10_level_326 {d : Nat} {S : AS} {F : AF} {G : AG} {Q : AQ} {a0 : Nat} {a1 : Int} {a2 : Int} {a3 : Int} {a4 : Int} {a5 : Int} {a6 : Int} {a8 : Int} {a10 : Int} {a12 : Int} {a14 : Int} {a15 : Int} {a16 : Int} {a17 : Int} {a18 : Int} {a19 : Int} {s0 : Int} (h : V_X10_level_326 d S F G Q a0 a1 a2 a3 a4 a5 a6 a8 a10 a12 a14 a15 a16 a17 a18 a19 s0) : Go d MX10_level 326 [some (vR a0), some (vI a1), some (vI a2), some (vI a3), some (vI a4), some (vI a5), some (vJ a6), none, some (vJ a8), none, some (vJ a10), none, some (vJ a12), none, some (vI a14), some (vI a15), some (vI a16), some (vI a17), some (vI a18), some (vI a19)] [vJ s0] S F G Q := by
  unfold V_X10_level_326 at h
  refine go_lconst (n := 1) (show decode cX10_level 326 = .ok (.lconst 1, 1) by decide +kernel) ?_
  show Go d MX10_level 327 [some (vR a0), some (vI a1), some (vI a2), some (vI a3), some (vI a4), some (vI a5), some (vJ a6), none, some (vJ a8), none, some (vJ a10), none, some (vJ a12), none, some (vI a14), some (vI a15), some (vI a16), some (vI a17), some (vI a18), some (vI a19)] [vJ 1, vJ s0] S F G Q
  refine go_goto (tgt := 331) (show decode cX10_level 327 = .ok (.goto 4, 3) by decide +kernel) (by decide) ?_
  exact R_X10_level_331 h
def V_X10_level_232 (d : Nat) (S : AS) (F : AF) (G : AG) (Q : AQ) (a0 : Nat) (a1 : Int) (a2 : Int) (a3 : Int) (a4 : Int) (a5 : Int) (a6 : Int) (a8 : Int) (a10 : Int) (a12 : Int) (a14 : Int) (a15 : Int) (a16 : Int) (a17 : Int) : Prop :=
  (sK S a0 = 10) ∧
  (sK S (sR S a0 29) = 20) ∧
  ((1 : Int) < (sN S (sR S a0 29) : Int)) ∧
  ((G (sR S a0 29) 1 ≤ a17) →
    (r32 (a16 + 1)) ∧
    Go d MX10_level 218 [some (vR a0), some (vI a1), some (vI a2), some (vI a3), some (vI a4), some (vI a5), some (vJ a6), none, some (vJ a8), none, some (vJ a10), none, some (vJ a12), none, some (vI a14), some (vI a15), some (vI (a16 + 1)), none, none, none] [] S F G Q) ∧
  ((¬ G (sR S a0 29) 1 ≤ a17) →
    (sK S (sR S a0 28) = 20) ∧
    ((0 : Int) ≤ a16) ∧
    ((a16 : Int) < (sN S (sR S a0 28) : Int)) ∧
    ∀ x8 : Int, x8 = G (sR S a0 28) a16 →
    (r32 (48 + a17)) ∧
    ((0 : Int) ≤ 48 + a17) ∧
    ((48 + a17 : Int) < (sN S (sR S a0 28) : Int)) ∧
    ∀ x12 : Int, x12 = G (sR S a0 28) (48 + a17) →
    (1 ≤ d) ∧
    Ok (d - 1) MX10_isInside [vI x8, vI x12, vI a2, vI a3, vI a4, vI a5] S F G (fun w14 S15 F16 G17 =>
    ∃ z18 : Int, w14 = some (vI z18) ∧
    ((¬ z18 = 0) →
      (sK S15 a0 = 10) ∧
      Ok (d - 1) MX10_cell [vR a0, vI (-1), vI x8, vI x12] S15 F16 G17 (fun w19 S20 F21 G22 =>
      ∃ z24 : Int, w19 = some (vJ z24) ∧
      (sK S20 a0 = 10) ∧
      Ok (d - 1) MX10_cell [vR a0, vI a1, vI x8, vI x12] S20 F21 G22 (fun w25 S26 F27 G28 =>
      ∃ z30 : Int, w25 = some (vJ z30) ∧
      (r64 (z24 - z30)) ∧
      (r64 ((z24 - z30) + a10)) ∧
      ((x12 < a15) →
        V_X10_level_326 d S26 F27 G28 Q a0 a1 a2 a3 a4 a5 a6 a8 a10 a12 a14 a15 a16 a17 x8 x12 ((z24 - z30) + a10)) ∧
      ((¬ x12 < a15) →
        ((¬ x12 = a15) →
          V_X10_level_330 d S26 F27 G28 Q a0 a1 a2 a3 a4 a5 a6 a8 a10 a12 a14 a15 a16 a17 x8 x12 ((z24 - z30) + a10)) ∧
        ((x12 = a15) →
          ((a14 < x8) →
            V_X10_level_330 d S26 F27 G28 Q a0 a1 a2 a3 a4 a5 a6 a8 a10 a12 a14 a15 a16 a17 x8 x12 ((z24 - z30) + a10)) ∧
          ((¬ a14 < x8) →
            V_X10_level_326 d S26 F27 G28 Q a0 a1 a2 a3 a4 a5 a6 a8 a10 a12 a14 a15 a16 a17 x8 x12 ((z24 - z30) + a10))))))) ∧
    ((z18 = 0) →
      V_X10_level_344 d S15 F16 G17 Q a0 a1 a2 a3 a4 a5 a6 a8 a10 a12 a14 a15 a16 a17 x8 x12)))
theorem R_X10_level_232 {d : Nat} {S : AS} {F : AF} {G : AG} {Q : AQ} {a0 : Nat} {a1 : Int} {a2 : Int} {a3 : Int} {a4 : Int} {a5 : Int} {a6 : Int} {a8 : Int} {a10 : Int} {a12 : Int} {a14 : Int} {a15 : Int} {a16 : Int} {a17 : Int} (h : V_X10_level_232 d S F G Q a0 a1 a2 a3 a4 a5 a6 a8 a10 a12 a14 a15 a16 a17) : Go d MX10_level 232 [some (vR a0), some (vI a1), some (vI a2), some (vI a3), some (vI a4), some (vI a5), some (vJ a6), none, some (vJ a8), none, some (vJ a10), none, some (vJ a12), none, some (vI a14), some (vI a15), some (vI a16), some (vI a17), none, none] [] S F G Q := by
  unfold V_X10_level_232 at h
  refine go_iload (show decode cX10_level 232 = .ok (.iload 17, 2) by decide +kernel) (by rfl) ?_
  refine go_aload_n (show decode cX10_level 234 = .ok (.aload_n 0, 1) by decide +kernel) (by rfl) ?_
  obtain ⟨q1, h⟩ := h
  refine go_getR (show decode cX10_level 235 = .ok (.getfield 74, 3) by decide +kernel) fl_X10_74 rfl q1 ?_
  refine go_iconst (show decode cX10_level 238 = .ok (.iconst 1, 1) by decide +kernel) (by decide) ?_
  obtain ⟨q2, h⟩ := h
  obtain ⟨q3, h⟩ := h
  refine go_iaload (show decode cX10_level 239 = .ok (.iaload, 1) by decide +kernel) q2 (by decide) q3 ?_
  obtain ⟨ht, hf⟩ := h
  refine go_icmpge (tgt := 350) (show decode cX10_level 240 = .ok (.if_icmp .ge 110, 3) by decide +kernel) (by decide) (fun hc => ?_) (fun hc => ?_)
  · have h := ht hc
    obtain ⟨q4, h⟩ := h
    refine go_iinc (show decode cX10_level 350 = .ok (.iinc 16 1, 3) by decide +kernel) (by rfl) q4 (by decide) ?_
    show Go d MX10_level 353 [some (vR a0), some (vI a1), some (vI a2), some (vI a3), some (vI a4), some (vI a5), some (vJ a6), none, some (vJ a8), none, some (vJ a10), none, some (vJ a12), none, some (vI a14), some (vI a15), some (vI (a16 + 1)), some (vI a17), none, none] [] S F G Q
    refine go_goto (tgt := 218) (show decode cX10_level 353 = .ok (.goto (-135), 3) by decide +kernel) (by decide) ?_
    refine go_clr 17 ?_
    exact h
  · have h := hf hc
    refine go_aload_n (show decode cX10_level 243 = .ok (.aload_n 0, 1) by decide +kernel) (by rfl) ?_
    refine go_getR (show decode cX10_level 244 = .ok (.getfield 71, 3) by decide +kernel) fl_X10_71 rfl q1 ?_
    refine go_iload (show decode cX10_level 247 = .ok (.iload 16, 2) by decide +kernel) (by rfl) ?_
    obtain ⟨q5, h⟩ := h
    obtain ⟨q6, h⟩ := h
    obtain ⟨q7, h⟩ := h
    refine go_iaload (show decode cX10_level 249 = .ok (.iaload, 1) by decide +kernel) q5 q6 q7 ?_
    obtain ⟨x8, x8e⟩ : ∃ x8 : Int, x8 = G (sR S a0 28) a16 := ⟨_, rfl⟩
    have h := h x8 x8e
    rw [← x8e]
    refine go_istore (show decode cX10_level 250 = .ok (.istore 18, 2) by decide +kernel) (by decide) ?_
    show Go d MX10_level 252 [some (vR a0), some (vI a1), some (vI a2), some (vI a3), some (vI a4), some (vI a5), some (vJ a6), none, some (vJ a8), none, some (vJ a10), none, some (vJ a12), none, some (vI a14), some (vI a15), some (vI a16), some (vI a17), some (vI x8), none] [] S F G Q
    refine go_aload_n (show decode cX10_level 252 = .ok (.aload_n 0, 1) by decide +kernel) (by rfl) ?_
    refine go_getR (show decode cX10_level 253 = .ok (.getfield 71, 3) by decide +kernel) fl_X10_71 rfl q1 ?_
    refine go_bipush (show decode cX10_level 256 = .ok (.bipush 48, 2) by decide +kernel) (by decide) ?_
    refine go_iload (show decode cX10_level 258 = .ok (.iload 17, 2) by decide +kernel) (by rfl) ?_
    obtain ⟨q9, h⟩ := h
    refine go_iadd (show decode cX10_level 260 = .ok (.iadd, 1) by decide +kernel) q9 ?_
    obtain ⟨q10, h⟩ := h
    obtain ⟨q11, h⟩ := h
    refine go_iaload (show decode cX10_level 261 = .ok (.iaload, 1) by decide +kernel) q5 q10 q11 ?_
    obtain ⟨x12, x12e⟩ : ∃ x12 : Int, x12 = G (sR S a0 28) (48 + a17) := ⟨_, rfl⟩
    have h := h x12 x12e
    rw [← x12e]
    refine go_istore (show decode cX10_level 262 = .ok (.istore 19, 2) by decide +kernel) (by decide) ?_
    show Go d MX10_level 264 [some (vR a0), some (vI a1), some (vI a2), some (vI a3), some (vI a4), some (vI a5), some (vJ a6), none, some (vJ a8), none, some (vJ a10), none, some (vJ a12), none, some (vI a14), some (vI a15), some (vI a16), some (vI a17), some (vI x8), some (vI x12)] [] S F G Q
    refine go_iload (show decode cX10_level 264 = .ok (.iload 18, 2) by decide +kernel) (by rfl) ?_
    refine go_iload (show decode cX10_level 266 = .ok (.iload 19, 2) by decide +kernel) (by rfl) ?_
    refine go_iload_n (show decode cX10_level 268 = .ok (.iload_n 2, 1) by decide +kernel) (by rfl) ?_
    refine go_iload_n (show decode cX10_level 269 = .ok (.iload_n 3, 1) by decide +kernel) (by rfl) ?_
    refine go_iload (show decode cX10_level 270 = .ok (.iload 4, 2) by decide +kernel) (by rfl) ?_
    refine go_iload (show decode cX10_level 272 = .ok (.iload 5, 2) by decide +kernel) (by rfl) ?_
    obtain ⟨q13, h⟩ := h
    refine go_callS (d2 := d - 1) (M2 := MX10_isInside) (n := 6) (av := [vI x8, vI x12, vI a2, vI a3, vI a4, vI a5]) (st := []) (show decode cX10_level 274 = .ok (.invokestatic 289, 3) by decide +kernel) ml_X10_289 mt_X10_isInside mst_X10_isInside rfl (Nat.le_of_ble_eq_true rfl) (by omega) (ok_mono h (fun w14 S15 F16 G17 h => ?_))
    obtain ⟨z18, e9, h⟩ := h
    subst e9
    show Go d MX10_level 277 [some (vR a0), some (vI a1), some (vI a2), some (vI a3), some (vI a4), some (vI a5), some (vJ a6), none, some (vJ a8), none, some (vJ a10), none, some (vJ a12), none, some (vI a14), some (vI a15), some (vI a16), some (vI a17), some (vI x8), some (vI x12)] [vI z18] S15 F16 G17 Q
    obtain ⟨ht, hf⟩ := h
    refine go_ifne (tgt := 283) (show decode cX10_level 277 = .ok (.ifCond .ne 6, 3) by decide +kernel) (by decide) (fun hc => ?_) (fun hc => ?_)
    · have h := ht hc
      refine go_aload_n (show decode cX10_level 283 = .ok (.aload_n 0, 1) by decide +kernel) (by rfl) ?_
      refine go_iconst (show decode cX10_level 284 = .ok (.iconst (-1), 1) by decide +kernel) (by decide) ?_
      refine go_iload (show decode cX10_level 285 = .ok (.iload 18, 2) by decide +kernel) (by rfl) ?_
      refine go_iload (show decode cX10_level 287 = .ok (.iload 19, 2) by decide +kernel) (by rfl) ?_
      obtain ⟨q23, h⟩ := h
      refine go_callV (d2 := d - 1) (M2 := MX10_cell) (n := 3) (ci := 10) (av := [vI (-1), vI x8, vI x12]) (st := []) (show decode cX10_level 289 = .ok (.invokevirtual 293, 3) by decide +kernel) ml_X10_293 mt_X10_cell min_X10_cell mse_X10_cell (by decide) q23 rfl (Nat.le_of_ble_eq_true rfl) (by omega) (ok_mono h (fun w19 S20 F21 G22 h => ?_))
      obtain ⟨z24, e9, h⟩ := h
      subst e9
      show Go d MX10_level 292 [some (vR a0), some (vI a1), some (vI a2), some (vI a3), some (vI a4), some (vI a5), some (vJ a6), none, some (vJ a8), none, some (vJ a10), none, some (vJ a12), none, some (vI a14), some (vI a15), some (vI a16), some (vI a17), some (vI x8), some (vI x12)] [vJ z24] S20 F21 G22 Q
      refine go_aload_n (show decode cX10_level 292 = .ok (.aload_n 0, 1) by decide +kernel) (by rfl) ?_
      refine go_iload_n (show decode cX10_level 293 = .ok (.iload_n 1, 1) by decide +kernel) (by rfl) ?_
      refine go_iload (show decode cX10_level 294 = .ok (.iload 18, 2) by decide +kernel) (by rfl) ?_
      refine go_iload (show decode cX10_level 296 = .ok (.iload 19, 2) by decide +kernel) (by rfl) ?_
      obtain ⟨q29, h⟩ := h
      refine go_callV (d2 := d - 1) (M2 := MX10_cell) (n := 3) (ci := 10) (av := [vI a1, vI x8, vI x12]) (st := [vJ z24]) (show decode cX10_level 298 = .ok (.invokevirtual 293, 3) by decide +kernel) ml_X10_293 mt_X10_cell min_X10_cell mse_X10_cell (by decide) q29 rfl (Nat.le_of_ble_eq_true rfl) (by omega) (ok_mono h (fun w25 S26 F27 G28 h => ?_))
      obtain ⟨z30, e9, h⟩ := h
      subst e9
      show Go d MX10_level 301 [some (vR a0), some (vI a1), some (vI a2), some (vI a3), some (vI a4), some (vI a5), some (vJ a6), none, some (vJ a8), none, some (vJ a10), none, some (vJ a12), none, some (vI a14), some (vI a15), some (vI a16), some (vI a17), some (vI x8), some (vI x12)] [vJ z30, vJ z24] S26 F27 G28 Q
      obtain ⟨q31, h⟩ := h
      refine go_lsub (show decode cX10_level 301 = .ok (.lsub, 1) by decide +kernel) q31 ?_
      refine go_lload (show decode cX10_level 302 = .ok (.lload 10, 2) by decide +kernel) (by rfl) ?_
      obtain ⟨q32, h⟩ := h
      refine go_ladd (show decode cX10_level 304 = .ok (.ladd, 1) by decide +kernel) q32 ?_
      refine go_iload (show decode cX10_level 305 = .ok (.iload 19, 2) by decide +kernel) (by rfl) ?_
      refine go_iload (show decode cX10_level 307 = .ok (.iload 15, 2) by decide +kernel) (by rfl) ?_
      obtain ⟨ht, hf⟩ := h
      refine go_icmplt (tgt := 326) (show decode cX10_level 309 = .ok (.if_icmp .lt 17, 3) by decide +kernel) (by decide) (fun hc => ?_) (fun hc => ?_)
      · have h := ht hc
        exact R_X10_level_326 h
      · have h := hf hc
        refine go_iload (show decode cX10_level 312 = .ok (.iload 19, 2) by decide +kernel) (by rfl) ?_
        refine go_iload (show decode cX10_level 314 = .ok (.iload 15, 2) by decide +kernel) (by rfl) ?_
        obtain ⟨ht, hf⟩ := h
        refine go_icmpne (tgt := 330) (show decode cX10_level 316 = .ok (.if_icmp .ne 14, 3) by decide +kernel) (by decide) (fun hc => ?_) (fun hc => ?_)
        · have h := ht hc
          exact R_X10_level_330 h
        · have h := hf hc
          refine go_iload (show decode cX10_level 319 = .ok (.iload 18, 2) by decide +kernel) (by rfl) ?_
          refine go_iload (show decode cX10_level 321 = .ok (.iload 14, 2) by decide +kernel) (by rfl) ?_
          obtain ⟨ht, hf⟩ := h
          refine go_icmpgt (tgt := 330) (show decode cX10_level 323 = .ok (.if_icmp .gt 7, 3) by decide +kernel) (by decide) (fun hc => ?_) (fun hc => ?_)
          · have h := ht hc
            exact R_X10_level_330 h
          · have h := hf hc
            exact R_X10_level_326 h
    · have h := hf hc
      refine go_goto (tgt := 344) (show decode cX10_level 280 = .ok (.goto 64, 3) by decide +kernel) (by decide) ?_
      exact R_X10_level_344 h
def V_X10_level_218 (d : Nat) (S : AS) (F : AF) (G : AG) (Q : AQ) (a0 : Nat) (a1 : Int) (a2 : Int) (a3 : Int) (a4 : Int) (a5 : Int) (a6 : Int) (a8 : Int) (a10 : Int) (a12 : Int) (a14 : Int) (a15 : Int) (a16 : Int) : Prop :=
  (sK S a0 = 10) ∧
  (sK S (sR S a0 29) = 20) ∧
  ((0 : Int) < (sN S (sR S a0 29) : Int)) ∧
  ((G (sR S a0 29) 0 ≤ a16) →
    Go d MX10_level 359 [some (vR a0), some (vI a1), some (vI a2), some (vI a3), some (vI a4), some (vI a5), some (vJ a6), none, some (vJ a8), none, some (vJ a10), none, some (vJ a12), none, some (vI a14), some (vI a15), some (vI 0), none, none, none] [] S F G Q) ∧
  ((¬ G (sR S a0 29) 0 ≤ a16) →
    Go d MX10_level 232 [some (vR a0), some (vI a1), some (vI a2), some (vI a3), some (vI a4), some (vI a5), some (vJ a6), none, some (vJ a8), none, some (vJ a10), none, some (vJ a12), none, some (vI a14), some (vI a15), some (vI a16), some (vI 0), none, none] [] S F G Q)
theorem R_X10_level_218 {d : Nat} {S : AS} {F : AF} {G : AG} {Q : AQ} {a0 : Nat} {a1 : Int} {a2 : Int} {a3 : Int} {a4 : Int} {a5 : Int} {a6 : Int} {a8 : Int} {a10 : Int} {a12 : Int} {a14 : Int} {a15 : Int} {a16 : Int} (h : V_X10_level_218 d S F G Q a0 a1 a2 a3 a4 a5 a6 a8 a10 a12 a14 a15 a16) : Go d MX10_level 218 [some (vR a0), some (vI a1), some (vI a2), some (vI a3), some (vI a4), some (vI a5), some (vJ a6), none, some (vJ a8), none, some (vJ a10), none, some (vJ a12), none, some (vI a14), some (vI a15), some (vI a16), none, none, none] [] S F G Q := by
  unfold V_X10_level_218 at h
  refine go_iload (show decode cX10_level 218 = .ok (.iload 16, 2) by decide +kernel) (by rfl) ?_
  refine go_aload_n (show decode cX10_level 220 = .ok (.aload_n 0, 1) by decide +kernel) (by rfl) ?_
  obtain ⟨q1, h⟩ := h
  refine go_getR (show decode cX10_level 221 = .ok (.getfield 74, 3) by decide +kernel) fl_X10_74 rfl q1 ?_
  refine go_iconst (show decode cX10_level 224 = .ok (.iconst 0, 1) by decide +kernel) (by decide) ?_
  obtain ⟨q2, h⟩ := h
  obtain ⟨q3, h⟩ := h
  refine go_iaload (show decode cX10_level 225 = .ok (.iaload, 1) by decide +kernel) q2 (by decide) q3 ?_
  obtain ⟨ht, hf⟩ := h
  refine go_icmpge (tgt := 356) (show decode cX10_level 226 = .ok (.if_icmp .ge 130, 3) by decide +kernel) (by decide) (fun hc => ?_) (fun hc => ?_)
  · have h := ht hc
    refine go_iconst (show decode cX10_level 356 = .ok (.iconst 0, 1) by decide +kernel) (by decide) ?_
    refine go_istore (show decode cX10_level 357 = .ok (.istore 16, 2) by decide +kernel) (by decide) ?_
    show Go d MX10_level 359 [some (vR a0), some (vI a1), some (vI a2), some (vI a3), some (vI a4), some (vI a5), some (vJ a6), none, some (vJ a8), none, some (vJ a10), none, some (vJ a12), none, some (vI a14), some (vI a15), some (vI 0), none, none, none] [] S F G Q
    exact h
  · have h := hf hc
    refine go_iconst (show decode cX10_level 229 = .ok (.iconst 0, 1) by decide +kernel) (by decide) ?_
    refine go_istore (show decode cX10_level 230 = .ok (.istore 17, 2) by decide +kernel) (by decide) ?_
    show Go d MX10_level 232 [some (vR a0), some (vI a1), some (vI a2), some (vI a3), some (vI a4), some (vI a5), some (vJ a6), none, some (vJ a8), none, some (vJ a10), none, some (vJ a12), none, some (vI a14), some (vI a15), some (vI a16), some (vI 0), none, none] [] S F G Q
    exact h
def V_X10_level_195 (d : Nat) (S : AS) (F : AF) (G : AG) (Q : AQ) (a0 : Nat) (a1 : Int) (a2 : Int) (a3 : Int) (a4 : Int) (a5 : Int) (a6 : Int) (a8 : Int) (a10 : Int) (a12 : Int) (a14 : Int) (a15 : Int) (s0 : Int) (s1 : Int) (s2 : Int) (s3 : Int) (s4 : Nat) : Prop :=
  (1 ≤ d) ∧
  (sK S s4 = 10) ∧
  Ok (d - 1) MX10_wantsAll [vR s4, vI s3, vI s2, vI s1, vI s0] S F G (fun w2 S3 F4 G5 =>
  w2 = none ∧
  (sK S3 a0 = 10) ∧
  Ok (d - 1) MX10_isRoom [vR a0, vI 1] S3 F4 G5 (fun w7 S8 F9 G10 =>
  ∃ z12 : Int, w7 = some (vI z12) ∧
  ((¬ z12 = 0) →
    (sK S8 a0 = 10) ∧
    Ok (d - 1) MX10_laysThen [vR a0, vI 1] S8 F9 G10 (fun w13 S14 F15 G16 =>
    w13 = none ∧
    Go d MX10_level 218 [some (vR a0), some (vI a1), some (vI a2), some (vI a3), some (vI a4), some (vI a5), some (vJ a6), none, some (vJ a8), none, some (vJ a10), none, some (vJ a12), none, some (vI a14), some (vI a15), some (vI 0), none, none, none] [] S14 F15 G16 Q)) ∧
  ((z12 = 0) →
    Q (some (vJ (-4))) S8 F9 G10)))
theorem R_X10_level_195 {d : Nat} {S : AS} {F : AF} {G : AG} {Q : AQ} {a0 : Nat} {a1 : Int} {a2 : Int} {a3 : Int} {a4 : Int} {a5 : Int} {a6 : Int} {a8 : Int} {a10 : Int} {a12 : Int} {a14 : Int} {a15 : Int} {s0 : Int} {s1 : Int} {s2 : Int} {s3 : Int} {s4 : Nat} (h : V_X10_level_195 d S F G Q a0 a1 a2 a3 a4 a5 a6 a8 a10 a12 a14 a15 s0 s1 s2 s3 s4) : Go d MX10_level 195 [some (vR a0), some (vI a1), some (vI a2), some (vI a3), some (vI a4), some (vI a5), some (vJ a6), none, some (vJ a8), none, some (vJ a10), none, some (vJ a12), none, some (vI a14), some (vI a15), none, none, none, none] [vI s0, vI s1, vI s2, vI s3, vR s4] S F G Q := by
  unfold V_X10_level_195 at h
  obtain ⟨q1, h⟩ := h
  obtain ⟨q6, h⟩ := h
  refine go_callV (d2 := d - 1) (M2 := MX10_wantsAll) (n := 4) (ci := 10) (av := [vI s3, vI s2, vI s1, vI s0]) (st := []) (show decode cX10_level 195 = .ok (.invokevirtual 149, 3) by decide +kernel) ml_X10_149 mt_X10_wantsAll min_X10_wantsAll mse_X10_wantsAll (by decide) q6 rfl (Nat.le_of_ble_eq_true rfl) (by omega) (ok_mono h (fun w2 S3 F4 G5 h => ?_))
  obtain ⟨e9, h⟩ := h
  subst e9
  show Go d MX10_level 198 [some (vR a0), some (vI a1), some (vI a2), some (vI a3), some (vI a4), some (vI a5), some (vJ a6), none, some (vJ a8), none, some (vJ a10), none, some (vJ a12), none, some (vI a14), some (vI a15), none, none, none, none] [] S3 F4 G5 Q
  refine go_aload_n (show decode cX10_level 198 = .ok (.aload_n 0, 1) by decide +kernel) (by rfl) ?_
  refine go_iconst (show decode cX10_level 199 = .ok (.iconst 1, 1) by decide +kernel) (by decide) ?_
  obtain ⟨q11, h⟩ := h
  refine go_callV (d2 := d - 1) (M2 := MX10_isRoom) (n := 1) (ci := 10) (av := [vI 1]) (st := []) (show decode cX10_level 200 = .ok (.invokevirtual 153, 3) by decide +kernel) ml_X10_153 mt_X10_isRoom min_X10_isRoom mse_X10_isRoom (by decide) q11 rfl (Nat.le_of_ble_eq_true rfl) (by omega) (ok_mono h (fun w7 S8 F9 G10 h => ?_))
  obtain ⟨z12, e9, h⟩ := h
  subst e9
  show Go d MX10_level 203 [some (vR a0), some (vI a1), some (vI a2), some (vI a3), some (vI a4), some (vI a5), some (vJ a6), none, some (vJ a8), none, some (vJ a10), none, some (vJ a12), none, some (vI a14), some (vI a15), none, none, none, none] [vI z12] S8 F9 G10 Q
  obtain ⟨ht, hf⟩ := h
  refine go_ifne (tgt := 210) (show decode cX10_level 203 = .ok (.ifCond .ne 7, 3) by decide +kernel) (by decide) (fun hc => ?_) (fun hc => ?_)
  · have h := ht hc
    refine go_aload_n (show decode cX10_level 210 = .ok (.aload_n 0, 1) by decide +kernel) (by rfl) ?_
    refine go_iconst (show decode cX10_level 211 = .ok (.iconst 1, 1) by decide +kernel) (by decide) ?_
    obtain ⟨q17, h⟩ := h
    refine go_callV (d2 := d - 1) (M2 := MX10_laysThen) (n := 1) (ci := 10) (av := [vI 1]) (st := []) (show decode cX10_level 212 = .ok (.invokevirtual 282, 3) by decide +kernel) ml_X10_282 mt_X10_laysThen min_X10_laysThen mse_X10_laysThen (by decide) q17 rfl (Nat.le_of_ble_eq_true rfl) (by omega) (ok_mono h (fun w13 S14 F15 G16 h => ?_))
    obtain ⟨e9, h⟩ := h
    subst e9
    show Go d MX10_level 215 [some (vR a0), some (vI a1), some (vI a2), some (vI a3), some (vI a4), some (vI a5), some (vJ a6), none, some (vJ a8), none, some (vJ a10), none, some (vJ a12), none, some (vI a14), some (vI a15), none, none, none, none] [] S14 F15 G16 Q
    refine go_iconst (show decode cX10_level 215 = .ok (.iconst 0, 1) by decide +kernel) (by decide) ?_
    refine go_istore (show decode cX10_level 216 = .ok (.istore 16, 2) by decide +kernel) (by decide) ?_
    show Go d MX10_level 218 [some (vR a0), some (vI a1), some (vI a2), some (vI a3), some (vI a4), some (vI a5), some (vJ a6), none, some (vJ a8), none, some (vJ a10), none, some (vJ a12), none, some (vI a14), some (vI a15), some (vI 0), none, none, none] [] S14 F15 G16 Q
    exact h
  · have h := hf hc
    refine go_ldc2 (show decode cX10_level 206 = .ok (.ldc2_w 205, 3) by decide +kernel) lc_X10_205 (by decide) ?_
    exact go_lret (show decode cX10_level 209 = .ok (.lreturn, 1) by decide +kernel) rfl h
def V_X10_level_156 (d : Nat) (S : AS) (F : AF) (G : AG) (Q : AQ) (a0 : Nat) (a1 : Int) (a2 : Int) (a3 : Int) (a4 : Int) (a5 : Int) (a6 : Int) (a8 : Int) (a10 : Int) (a12 : Int) (a14 : Int) (a15 : Int) : Prop :=
  (1 ≤ d) ∧
  (sK S a0 = 10) ∧
  Ok (d - 1) MX10_isRoom [vR a0, vI 0] S F G (fun w2 S3 F4 G5 =>
  ∃ z7 : Int, w2 = some (vI z7) ∧
  ((¬ z7 = 0) →
    (sK S3 a0 = 10) ∧
    Ok (d - 1) MX10_laysThen [vR a0, vI 0] S3 F4 G5 (fun w8 S9 F10 G11 =>
    w8 = none ∧
    (sK S9 a0 = 10) ∧
    Ok (d - 1) MX10_keepsAcross [vR a0] S9 F10 G11 (fun w13 S14 F15 G16 =>
    w13 = none ∧
    ((a12 ≤ 0) →
      V_X10_level_195 d S14 F15 G16 Q a0 a1 a2 a3 a4 a5 a6 a8 a10 a12 a14 a15 (-1) a5 a3 1 a0) ∧
    ((¬ a12 ≤ 0) →
      V_X10_level_195 d S14 F15 G16 Q a0 a1 a2 a3 a4 a5 a6 a8 a10 a12 a14 a15 a15 a5 a3 1 a0)))) ∧
  ((z7 = 0) →
    Q (some (vJ (-4))) S3 F4 G5))
theorem R_X10_level_156 {d : Nat} {S : AS} {F : AF} {G : AG} {Q : AQ} {a0 : Nat} {a1 : Int} {a2 : Int} {a3 : Int} {a4 : Int} {a5 : Int} {a6 : Int} {a8 : Int} {a10 : Int} {a12 : Int} {a14 : Int} {a15 : Int} (h : V_X10_level_156 d S F G Q a0 a1 a2 a3 a4 a5 a6 a8 a10 a12 a14 a15) : Go d MX10_level 156 [some (vR a0), some (vI a1), some (vI a2), some (vI a3), some (vI a4), some (vI a5), some (vJ a6), none, some (vJ a8), none, some (vJ a10), none, some (vJ a12), none, some (vI a14), some (vI a15), none, none, none, none] [] S F G Q := by
  unfold V_X10_level_156 at h
  refine go_aload_n (show decode cX10_level 156 = .ok (.aload_n 0, 1) by decide +kernel) (by rfl) ?_
  refine go_iconst (show decode cX10_level 157 = .ok (.iconst 0, 1) by decide +kernel) (by decide) ?_
  obtain ⟨q1, h⟩ := h
  obtain ⟨q6, h⟩ := h
  refine go_callV (d2 := d - 1) (M2 := MX10_isRoom) (n := 1) (ci := 10) (av := [vI 0]) (st := []) (show decode cX10_level 158 = .ok (.invokevirtual 153, 3) by decide +kernel) ml_X10_153 mt_X10_isRoom min_X10_isRoom mse_X10_isRoom (by decide) q6 rfl (Nat.le_of_ble_eq_true rfl) (by omega) (ok_mono h (fun w2 S3 F4 G5 h => ?_))
  obtain ⟨z7, e9, h⟩ := h
  subst e9
  show Go d MX10_level 161 [some (vR a0), some (vI a1), some (vI a2), some (vI a3), some (vI a4), some (vI a5), some (vJ a6), none, some (vJ a8), none, some (vJ a10), none, some (vJ a12), none, some (vI a14), some (vI a15), none, none, none, none] [vI z7] S3 F4 G5 Q
  obtain ⟨ht, hf⟩ := h
  refine go_ifne (tgt := 168) (show decode cX10_level 161 = .ok (.ifCond .ne 7, 3) by decide +kernel) (by decide) (fun hc => ?_) (fun hc => ?_)
  · have h := ht hc
    refine go_aload_n (show decode cX10_level 168 = .ok (.aload_n 0, 1) by decide +kernel) (by rfl) ?_
    refine go_iconst (show decode cX10_level 169 = .ok (.iconst 0, 1) by decide +kernel) (by decide) ?_
    obtain ⟨q12, h⟩ := h
    refine go_callV (d2 := d - 1) (M2 := MX10_laysThen) (n := 1) (ci := 10) (av := [vI 0]) (st := []) (show decode cX10_level 170 = .ok (.invokevirtual 282, 3) by decide +kernel) ml_X10_282 mt_X10_laysThen min_X10_laysThen mse_X10_laysThen (by decide) q12 rfl (Nat.le_of_ble_eq_true rfl) (by omega) (ok_mono h (fun w8 S9 F10 G11 h => ?_))
    obtain ⟨e9, h⟩ := h
    subst e9
    show Go d MX10_level 173 [some (vR a0), some (vI a1), some (vI a2), some (vI a3), some (vI a4), some (vI a5), some (vJ a6), none, some (vJ a8), none, some (vJ a10), none, some (vJ a12), none, some (vI a14), some (vI a15), none, none, none, none] [] S9 F10 G11 Q
    refine go_aload_n (show decode cX10_level 173 = .ok (.aload_n 0, 1) by decide +kernel) (by rfl) ?_
    obtain ⟨q17, h⟩ := h
    refine go_callV (d2 := d - 1) (M2 := MX10_keepsAcross) (n := 0) (ci := 10) (av := []) (st := []) (show decode cX10_level 174 = .ok (.invokevirtual 286, 3) by decide +kernel) ml_X10_286 mt_X10_keepsAcross min_X10_keepsAcross mse_X10_keepsAcross (by decide) q17 rfl (Nat.le_of_ble_eq_true rfl) (by omega) (ok_mono h (fun w13 S14 F15 G16 h => ?_))
    obtain ⟨e9, h⟩ := h
    subst e9
    show Go d MX10_level 177 [some (vR a0), some (vI a1), some (vI a2), some (vI a3), some (vI a4), some (vI a5), some (vJ a6), none, some (vJ a8), none, some (vJ a10), none, some (vJ a12), none, some (vI a14), some (vI a15), none, none, none, none] [] S14 F15 G16 Q
    refine go_aload_n (show decode cX10_level 177 = .ok (.aload_n 0, 1) by decide +kernel) (by rfl) ?_
    refine go_iconst (show decode cX10_level 178 = .ok (.iconst 1, 1) by decide +kernel) (by decide) ?_
    refine go_iload_n (show decode cX10_level 179 = .ok (.iload_n 3, 1) by decide +kernel) (by rfl) ?_
    refine go_iload (show decode cX10_level 180 = .ok (.iload 5, 2) by decide +kernel) (by rfl) ?_
    refine go_lload (show decode cX10_level 182 = .ok (.lload 12, 2) by decide +kernel) (by rfl) ?_
    refine go_lconst (n := 0) (show decode cX10_level 184 = .ok (.lconst 0, 1) by decide +kernel) ?_
    show Go d MX10_level 185 [some (vR a0), some (vI a1), some (vI a2), some (vI a3), some (vI a4), some (vI a5), some (vJ a6), none, some (vJ a8), none, some (vJ a10), none, some (vJ a12), none, some (vI a14), some (vI a15), none, none, none, none] [vJ 0, vJ a12, vI a5, vI a3, vI 1, vR a0] S14 F15 G16 Q
    obtain ⟨ht, hf⟩ := h
    refine go_jle (tgt := 194) (show decode cX10_level 185 = .ok (.lcmp, 1) by decide +kernel) (show decode cX10_level 186 = .ok (.ifCond .le 8, 3) by decide +kernel) (by decide) (fun hc => ?_) (fun hc => ?_)
    · have h := ht hc
      refine go_iconst (show decode cX10_level 194 = .ok (.iconst (-1), 1) by decide +kernel) (by decide) ?_
      exact R_X10_level_195 h
    · have h := hf hc
      refine go_iload (show decode cX10_level 189 = .ok (.iload 15, 2) by decide +kernel) (by rfl) ?_
      refine go_goto (tgt := 195) (show decode cX10_level 191 = .ok (.goto 4, 3) by decide +kernel) (by decide) ?_
      exact R_X10_level_195 h
  · have h := hf hc
    refine go_ldc2 (show decode cX10_level 164 = .ok (.ldc2_w 205, 3) by decide +kernel) lc_X10_205 (by decide) ?_
    exact go_lret (show decode cX10_level 167 = .ok (.lreturn, 1) by decide +kernel) rfl h
def V_X10_level_129 (d : Nat) (S : AS) (F : AF) (G : AG) (Q : AQ) (a0 : Nat) (a1 : Int) (a2 : Int) (a3 : Int) (a4 : Int) (a5 : Int) (a6 : Int) (a8 : Int) (a10 : Int) (a12 : Int) (a14 : Int) (s0 : Int) : Prop :=
  (1 ≤ d) ∧
  (sK S a0 = 10) ∧
  Ok (d - 1) MX10_wantsAll [vR a0, vI 0, vI a2, vI a4, vI (-1)] S F G (fun w2 S3 F4 G5 =>
  w2 = none ∧
  ((a12 ≤ 0) →
    V_X10_level_156 d S3 F4 G5 Q a0 a1 a2 a3 a4 a5 a6 a8 a10 a12 a14 s0) ∧
  ((¬ a12 ≤ 0) →
    (r32 (a14 + 1)) ∧
    (sK S3 a0 = 10) ∧
    Ok (d - 1) MX10_wants [vR a0, vI 0, vI (a14 + 1)] S3 F4 G5 (fun w8 S9 F10 G11 =>
    w8 = none ∧
    V_X10_level_156 d S9 F10 G11 Q a0 a1 a2 a3 a4 a5 a6 a8 a10 a12 a14 s0)))
theorem R_X10_level_129 {d : Nat} {S : AS} {F : AF} {G : AG} {Q : AQ} {a0 : Nat} {a1 : Int} {a2 : Int} {a3 : Int} {a4 : Int} {a5 : Int} {a6 : Int} {a8 : Int} {a10 : Int} {a12 : Int} {a14 : Int} {s0 : Int} (h : V_X10_level_129 d S F G Q a0 a1 a2 a3 a4 a5 a6 a8 a10 a12 a14 s0) : Go d MX10_level 129 [some (vR a0), some (vI a1), some (vI a2), some (vI a3), some (vI a4), some (vI a5), some (vJ a6), none, some (vJ a8), none, some (vJ a10), none, some (vJ a12), none, some (vI a14), none, none, none, none, none] [vI s0] S F G Q := by
  unfold V_X10_level_129 at h
  refine go_istore (show decode cX10_level 129 = .ok (.istore 15, 2) by decide +kernel) (by decide) ?_
  show Go d MX10_level 131 [some (vR a0), some (vI a1), some (vI a2), some (vI a3), some (vI a4), some (vI a5), some (vJ a6), none, some (vJ a8), none, some (vJ a10), none, some (vJ a12), none, some (vI a14), some (vI s0), none, none, none, none] [] S F G Q
  refine go_aload_n (show decode cX10_level 131 = .ok (.aload_n 0, 1) by decide +kernel) (by rfl) ?_
  refine go_iconst (show decode cX10_level 132 = .ok (.iconst 0, 1) by decide +kernel) (by decide) ?_
  refine go_iload_n (show decode cX10_level 133 = .ok (.iload_n 2, 1) by decide +kernel) (by rfl) ?_
  refine go_iload (show decode cX10_level 134 = .ok (.iload 4, 2) by decide +kernel) (by rfl) ?_
  refine go_iconst (show decode cX10_level 136 = .ok (.iconst (-1), 1) by decide +kernel) (by decide) ?_
  obtain ⟨q1, h⟩ := h
  obtain ⟨q6, h⟩ := h
  refine go_callV (d2 := d - 1) (M2 := MX10_wantsAll) (n := 4) (ci := 10) (av := [vI 0, vI a2, vI a4, vI (-1)]) (st := []) (show decode cX10_level 137 = .ok (.invokevirtual 149, 3) by decide +kernel) ml_X10_149 mt_X10_wantsAll min_X10_wantsAll mse_X10_wantsAll (by decide) q6 rfl (Nat.le_of_ble_eq_true rfl) (by omega) (ok_mono h (fun w2 S3 F4 G5 h => ?_))
  obtain ⟨e9, h⟩ := h
  subst e9
  show Go d MX10_level 140 [some (vR a0), some (vI a1), some (vI a2), some (vI a3), some (vI a4), some (vI a5), some (vJ a6), none, some (vJ a8), none, some (vJ a10), none, some (vJ a12), none, some (vI a14), some (vI s0), none, none, none, none] [] S3 F4 G5 Q
  refine go_lload (show decode cX10_level 140 = .ok (.lload 12, 2) by decide +kernel) (by rfl) ?_
  refine go_lconst (n := 0) (show decode cX10_level 142 = .ok (.lconst 0, 1) by decide +kernel) ?_
  show Go d MX10_level 143 [some (vR a0), some (vI a1), some (vI a2), some (vI a3), some (vI a4), some (vI a5), some (vJ a6), none, some (vJ a8), none, some (vJ a10), none, some (vJ a12), none, some (vI a14), some (vI s0), none, none, none, none] [vJ 0, vJ a12] S3 F4 G5 Q
  obtain ⟨ht, hf⟩ := h
  refine go_jle (tgt := 156) (show decode cX10_level 143 = .ok (.lcmp, 1) by decide +kernel) (show decode cX10_level 144 = .ok (.ifCond .le 12, 3) by decide +kernel) (by decide) (fun hc => ?_) (fun hc => ?_)
  · have h := ht hc
    exact R_X10_level_156 h
  · have h := hf hc
    refine go_aload_n (show decode cX10_level 147 = .ok (.aload_n 0, 1) by decide +kernel) (by rfl) ?_
    refine go_iconst (show decode cX10_level 148 = .ok (.iconst 0, 1) by decide +kernel) (by decide) ?_
    refine go_iload (show decode cX10_level 149 = .ok (.iload 14, 2) by decide +kernel) (by rfl) ?_
    refine go_iconst (show decode cX10_level 151 = .ok (.iconst 1, 1) by decide +kernel) (by decide) ?_
    obtain ⟨q7, h⟩ := h
    refine go_iadd (show decode cX10_level 152 = .ok (.iadd, 1) by decide +kernel) q7 ?_
    obtain ⟨q12, h⟩ := h
    refine go_callV (d2 := d - 1) (M2 := MX10_wants) (n := 2) (ci := 10) (av := [vI 0, vI (a14 + 1)]) (st := []) (show decode cX10_level 153 = .ok (.invokevirtual 145, 3) by decide +kernel) ml_X10_145 mt_X10_wants min_X10_wants mse_X10_wants (by decide) q12 rfl (Nat.le_of_ble_eq_true rfl) (by omega) (ok_mono h (fun w8 S9 F10 G11 h => ?_))
    obtain ⟨e9, h⟩ := h
    subst e9
    show Go d MX10_level 156 [some (vR a0), some (vI a1), some (vI a2), some (vI a3), some (vI a4), some (vI a5), some (vJ a6), none, some (vJ a8), none, some (vJ a10), none, some (vJ a12), none, some (vI a14), some (vI s0), none, none, none, none] [] S9 F10 G11 Q
    exact R_X10_level_156 h
def V_X10_level_101 (d : Nat) (S : AS) (F : AF) (G : AG) (Q : AQ) (a0 : Nat) (a1 : Int) (a2 : Int) (a3 : Int) (a4 : Int) (a5 : Int) (a6 : Int) (a8 : Int) (a10 : Int) (a12 : Int) (s0 : Int) : Prop :=
  ((¬ a12 = 0) →
    (r64 (a12 - 1)) ∧
    (r32 (a4 - a2)) ∧
    (r32 ((a4 - a2) + 1)) ∧
    (¬ ((a4 - a2) + 1) = 0) ∧
    (r64 (Int.tdiv (a12 - 1) ((a4 - a2) + 1))) ∧
    (r32 (Int.tdiv (a12 - 1) ((a4 - a2) + 1))) ∧
    (r32 (a3 + (Int.tdiv (a12 - 1) ((a4 - a2) + 1)))) ∧
    V_X10_level_129 d S F G Q a0 a1 a2 a3 a4 a5 a6 a8 a10 a12 s0 (a3 + (Int.tdiv (a12 - 1) ((a4 - a2) + 1)))) ∧
  ((a12 = 0) →
    V_X10_level_129 d S F G Q a0 a1 a2 a3 a4 a5 a6 a8 a10 a12 s0 a3)
theorem R_X10_level_101 {d : Nat} {S : AS} {F : AF} {G : AG} {Q : AQ} {a0 : Nat} {a1 : Int} {a2 : Int} {a3 : Int} {a4 : Int} {a5 : Int} {a6 : Int} {a8 : Int} {a10 : Int} {a12 : Int} {s0 : Int} (h : V_X10_level_101 d S F G Q a0 a1 a2 a3 a4 a5 a6 a8 a10 a12 s0) : Go d MX10_level 101 [some (vR a0), some (vI a1), some (vI a2), some (vI a3), some (vI a4), some (vI a5), some (vJ a6), none, some (vJ a8), none, some (vJ a10), none, some (vJ a12), none, none, none, none, none, none, none] [vI s0] S F G Q := by
  unfold V_X10_level_101 at h
  refine go_istore (show decode cX10_level 101 = .ok (.istore 14, 2) by decide +kernel) (by decide) ?_
  show Go d MX10_level 103 [some (vR a0), some (vI a1), some (vI a2), some (vI a3), some (vI a4), some (vI a5), some (vJ a6), none, some (vJ a8), none, some (vJ a10), none, some (vJ a12), none, some (vI s0), none, none, none, none, none] [] S F G Q
  refine go_lload (show decode cX10_level 103 = .ok (.lload 12, 2) by decide +kernel) (by rfl) ?_
  refine go_lconst (n := 0) (show decode cX10_level 105 = .ok (.lconst 0, 1) by decide +kernel) ?_
  show Go d MX10_level 106 [some (vR a0), some (vI a1), some (vI a2), some (vI a3), some (vI a4), some (vI a5), some (vJ a6), none, some (vJ a8), none, some (vJ a10), none, some (vJ a12), none, some (vI s0), none, none, none, none, none] [vJ 0, vJ a12] S F G Q
  obtain ⟨ht, hf⟩ := h
  refine go_jne (tgt := 114) (show decode cX10_level 106 = .ok (.lcmp, 1) by decide +kernel) (show decode cX10_level 107 = .ok (.ifCond .ne 7, 3) by decide +kernel) (by decide) (fun hc => ?_) (fun hc => ?_)
  · have h := ht hc
    refine go_iload_n (show decode cX10_level 114 = .ok (.iload_n 3, 1) by decide +kernel) (by rfl) ?_
    refine go_lload (show decode cX10_level 115 = .ok (.lload 12, 2) by decide +kernel) (by rfl) ?_
    refine go_lconst (n := 1) (show decode cX10_level 117 = .ok (.lconst 1, 1) by decide +kernel) ?_
    show Go d MX10_level 118 [some (vR a0), some (vI a1), some (vI a2), some (vI a3), some (vI a4), some (vI a5), some (vJ a6), none, some (vJ a8), none, some (vJ a10), none, some (vJ a12), none, some (vI s0), none, none, none, none, none] [vJ 1, vJ a12, vI a3] S F G Q
    obtain ⟨q1, h⟩ := h
    refine go_lsub (show decode cX10_level 118 = .ok (.lsub, 1) by decide +kernel) q1 ?_
    refine go_iload (show decode cX10_level 119 = .ok (.iload 4, 2) by decide +kernel) (by rfl) ?_
    refine go_iload_n (show decode cX10_level 121 = .ok (.iload_n 2, 1) by decide +kernel) (by rfl) ?_
    obtain ⟨q2, h⟩ := h
    refine go_isub (show decode cX10_level 122 = .ok (.isub, 1) by decide +kernel) q2 ?_
    refine go_iconst (show decode cX10_level 123 = .ok (.iconst 1, 1) by decide +kernel) (by decide) ?_
    obtain ⟨q3, h⟩ := h
    refine go_iadd (show decode cX10_level 124 = .ok (.iadd, 1) by decide +kernel) q3 ?_
    refine go_i2l (show decode cX10_level 125 = .ok (.i2l, 1) by decide +kernel) ?_
    obtain ⟨q4, h⟩ := h
    obtain ⟨q5, h⟩ := h
    refine go_ldiv (show decode cX10_level 126 = .ok (.ldiv, 1) by decide +kernel) q4 q5 ?_
    obtain ⟨q6, h⟩ := h
    refine go_l2i (show decode cX10_level 127 = .ok (.l2i, 1) by decide +kernel) q6 ?_
    obtain ⟨q7, h⟩ := h
    refine go_iadd (show decode cX10_level 128 = .ok (.iadd, 1) by decide +kernel) q7 ?_
    exact R_X10_level_129 h
  · have h := hf hc
    refine go_iload_n (show decode cX10_level 110 = .ok (.iload_n 3, 1) by decide +kernel) (by rfl) ?_
    refine go_goto (tgt := 129) (show decode cX10_level 111 = .ok (.goto 18, 3) by decide +kernel) (by decide) ?_
    exact R_X10_level_129 h
def V_X10_level_0 (d : Nat) (S : AS) (F : AF) (G : AG) (Q : AQ) (a0 : Nat) (a1 : Int) (a2 : Int) (a3 : Int) (a4 : Int) (a5 : Int) : Prop :=
  (sK S a0 = 10) ∧
  ∀ F2 : AF, F2 = fu F a0 0 0 →
  (1 ≤ d) ∧
  Ok (d - 1) MX10_isGood [vI a1] S F2 G (fun w4 S5 F6 G7 =>
  ∃ z8 : Int, w4 = some (vI z8) ∧
  ((z8 = 0) →
    Q (some (vJ (-2))) S5 F6 G7) ∧
  ((¬ z8 = 0) →
    (sK S5 a0 = 10) ∧
    Ok (d - 1) MX10_isRectangle [vR a0, vI a2, vI a3, vI a4, vI a5] S5 F6 G7 (fun w9 S10 F11 G12 =>
    ∃ z14 : Int, w9 = some (vI z14) ∧
    ((¬ z14 = 0) →
      (r32 (a4 - a2)) ∧
      (r64 ((a4 - a2) + 1)) ∧
      (r32 (a5 - a3)) ∧
      (r64 ((a5 - a3) + 1)) ∧
      (r64 (((a4 - a2) + 1) * ((a5 - a3) + 1))) ∧
      ∀ x20 : Int, x20 = ((a4 - a2) + 1) * ((a5 - a3) + 1) →
      (sK S10 a0 = 10) ∧
      Ok (d - 1) MX10_sumOf [vR a0, vI a1, vI a2, vI a3, vI a4, vI a5] S10 F11 G12 (fun w21 S22 F23 G24 =>
      ∃ z26 : Int, w21 = some (vJ z26) ∧
      (¬ x20 = 0) ∧
      (r64 (Int.tdiv z26 x20)) ∧
      ∀ x29 : Int, x29 = Int.tdiv z26 x20 →
      (r64 (Int.tmod z26 x20)) ∧
      ∀ x31 : Int, x31 = Int.tmod z26 x20 →
      ((¬ x31 = 0) →
        (r64 (x31 - 1)) ∧
        (r32 (a4 - a2)) ∧
        (r32 ((a4 - a2) + 1)) ∧
        (¬ ((a4 - a2) + 1) = 0) ∧
        (r64 (Int.tdiv (x31 - 1) ((a4 - a2) + 1))) ∧
        (r64 (Int.tmod (x31 - 1) ((a4 - a2) + 1))) ∧
        (r32 (Int.tmod (x31 - 1) ((a4 - a2) + 1))) ∧
        (r32 (a2 + (Int.tmod (x31 - 1) ((a4 - a2) + 1)))) ∧
        V_X10_level_101 d S22 F23 G24 Q a0 a1 a2 a3 a4 a5 x20 z26 x29 x31 (a2 + (Int.tmod (x31 - 1) ((a4 - a2) + 1)))) ∧
      ((x31 = 0) →
        (r32 (a2 - 1)) ∧
        V_X10_level_101 d S22 F23 G24 Q a0 a1 a2 a3 a4 a5 x20 z26 x29 x31 (a2 - 1)))) ∧
    ((z14 = 0) →
      Q (some (vJ (-2))) S10 F11 G12))))
theorem R_X10_level_0 {d : Nat} {S : AS} {F : AF} {G : AG} {Q : AQ} {a0 : Nat} {a1 : Int} {a2 : Int} {a3 : Int} {a4 : Int} {a5 : Int} (h : V_X10_level_0 d S F G Q a0 a1 a2 a3 a4 a5) : Go d MX10_level 0 [some (vR a0), some (vI a1), some (vI a2), some (vI a3), some (vI a4), some (vI a5), none, none, none, none, none, none, none, none, none, none, none, none, none, none] [] S F G Q := by
  unfold V_X10_level_0 at h
  refine go_aload_n (show decode cX10_level 0 = .ok (.aload_n 0, 1) by decide +kernel) (by rfl) ?_
  refine go_iconst (show decode cX10_level 1 = .ok (.iconst 0, 1) by decide +kernel) (by decide) ?_
  obtain ⟨q1, h⟩ := h
  refine go_putI (show decode cX10_level 2 = .ok (.putfield 1, 3) by decide +kernel) fl_X10_1 rfl (Or.inl rfl) q1 ?_
  obtain ⟨F2, F2e⟩ : ∃ F2 : AF, F2 = fu F a0 0 0 := ⟨_, rfl⟩
  have h := h F2 F2e
  rw [← F2e]
  refine go_iload_n (show decode cX10_level 5 = .ok (.iload_n 1, 1) by decide +kernel) (by rfl) ?_
  obtain ⟨q3, h⟩ := h
  refine go_callS (d2 := d - 1) (M2 := MX10_isGood) (n := 1) (av := [vI a1]) (st := []) (show decode cX10_level 6 = .ok (.invokestatic 167, 3) by decide +kernel) ml_X10_167 mt_X10_isGood mst_X10_isGood rfl (Nat.le_of_ble_eq_true rfl) (by omega) (ok_mono h (fun w4 S5 F6 G7 h => ?_))
  obtain ⟨z8, e9, h⟩ := h
  subst e9
  show Go d MX10_level 9 [some (vR a0), some (vI a1), some (vI a2), some (vI a3), some (vI a4), some (vI a5), none, none, none, none, none, none, none, none, none, none, none, none, none, none] [vI z8] S5 F6 G7 Q
  obtain ⟨ht, hf⟩ := h
  refine go_ifeq (tgt := 25) (show decode cX10_level 9 = .ok (.ifCond .eq 16, 3) by decide +kernel) (by decide) (fun hc => ?_) (fun hc => ?_)
  · have h := ht hc
    refine go_ldc2 (show decode cX10_level 25 = .ok (.ldc2_w 174, 3) by decide +kernel) lc_X10_174 (by decide) ?_
    exact go_lret (show decode cX10_level 28 = .ok (.lreturn, 1) by decide +kernel) rfl h
  · have h := hf hc
    refine go_aload_n (show decode cX10_level 12 = .ok (.aload_n 0, 1) by decide +kernel) (by rfl) ?_
    refine go_iload_n (show decode cX10_level 13 = .ok (.iload_n 2, 1) by decide +kernel) (by rfl) ?_
    refine go_iload_n (show decode cX10_level 14 = .ok (.iload_n 3, 1) by decide +kernel) (by rfl) ?_
    refine go_iload (show decode cX10_level 15 = .ok (.iload 4, 2) by decide +kernel) (by rfl) ?_
    refine go_iload (show decode cX10_level 17 = .ok (.iload 5, 2) by decide +kernel) (by rfl) ?_
    obtain ⟨q13, h⟩ := h
    refine go_callV (d2 := d - 1) (M2 := MX10_isRectangle) (n := 4) (ci := 10) (av := [vI a2, vI a3, vI a4, vI a5]) (st := []) (show decode cX10_level 19 = .ok (.invokevirtual 170, 3) by decide +kernel) ml_X10_170 mt_X10_isRectangle min_X10_isRectangle mse_X10_isRectangle (by decide) q13 rfl (Nat.le_of_ble_eq_true rfl) (by omega) (ok_mono h (fun w9 S10 F11 G12 h => ?_))
    obtain ⟨z14, e9, h⟩ := h
    subst e9
    show Go d MX10_level 22 [some (vR a0), some (vI a1), some (vI a2), some (vI a3), some (vI a4), some (vI a5), none, none, none, none, none, none, none, none, none, none, none, none, none, none] [vI z14] S10 F11 G12 Q
    obtain ⟨ht, hf⟩ := h
    refine go_ifne (tgt := 29) (show decode cX10_level 22 = .ok (.ifCond .ne 7, 3) by decide +kernel) (by decide) (fun hc => ?_) (fun hc => ?_)
    · have h := ht hc
      refine go_iload (show decode cX10_level 29 = .ok (.iload 4, 2) by decide +kernel) (by rfl) ?_
      refine go_iload_n (show decode cX10_level 31 = .ok (.iload_n 2, 1) by decide +kernel) (by rfl) ?_
      obtain ⟨q15, h⟩ := h
      refine go_isub (show decode cX10_level 32 = .ok (.isub, 1) by decide +kernel) q15 ?_
      refine go_i2l (show decode cX10_level 33 = .ok (.i2l, 1) by decide +kernel) ?_
      refine go_lconst (n := 1) (show decode cX10_level 34 = .ok (.lconst 1, 1) by decide +kernel) ?_
      show Go d MX10_level 35 [some (vR a0), some (vI a1), some (vI a2), some (vI a3), some (vI a4), some (vI a5), none, none, none, none, none, none, none, none, none, none, none, none, none, none] [vJ 1, vJ (a4 - a2)] S10 F11 G12 Q
      obtain ⟨q16, h⟩ := h
      refine go_ladd (show decode cX10_level 35 = .ok (.ladd, 1) by decide +kernel) q16 ?_
      refine go_iload (show decode cX10_level 36 = .ok (.iload 5, 2) by decide +kernel) (by rfl) ?_
      refine go_iload_n (show decode cX10_level 38 = .ok (.iload_n 3, 1) by decide +kernel) (by rfl) ?_
      obtain ⟨q17, h⟩ := h
      refine go_isub (show decode cX10_level 39 = .ok (.isub, 1) by decide +kernel) q17 ?_
      refine go_i2l (show decode cX10_level 40 = .ok (.i2l, 1) by decide +kernel) ?_
      refine go_lconst (n := 1) (show decode cX10_level 41 = .ok (.lconst 1, 1) by decide +kernel) ?_
      show Go d MX10_level 42 [some (vR a0), some (vI a1), some (vI a2), some (vI a3), some (vI a4), some (vI a5), none, none, none, none, none, none, none, none, none, none, none, none, none, none] [vJ 1, vJ (a5 - a3), vJ ((a4 - a2) + 1)] S10 F11 G12 Q
      obtain ⟨q18, h⟩ := h
      refine go_ladd (show decode cX10_level 42 = .ok (.ladd, 1) by decide +kernel) q18 ?_
      obtain ⟨q19, h⟩ := h
      refine go_lmul (show decode cX10_level 43 = .ok (.lmul, 1) by decide +kernel) q19 ?_
      obtain ⟨x20, x20e⟩ : ∃ x20 : Int, x20 = ((a4 - a2) + 1) * ((a5 - a3) + 1) := ⟨_, rfl⟩
      have h := h x20 x20e
      rw [← x20e]
      refine go_lstore (show decode cX10_level 44 = .ok (.lstore 6, 2) by decide +kernel) (by decide) ?_
      show Go d MX10_level 46 [some (vR a0), some (vI a1), some (vI a2), some (vI a3), some (vI a4), some (vI a5), some (vJ x20), none, none, none, none, none, none, none, none, none, none, none, none, none] [] S10 F11 G12 Q
      refine go_aload_n (show decode cX10_level 46 = .ok (.aload_n 0, 1) by decide +kernel) (by rfl) ?_
      refine go_iload_n (show decode cX10_level 47 = .ok (.iload_n 1, 1) by decide +kernel) (by rfl) ?_
      refine go_iload_n (show decode cX10_level 48 = .ok (.iload_n 2, 1) by decide +kernel) (by rfl) ?_
      refine go_iload_n (show decode cX10_level 49 = .ok (.iload_n 3, 1) by decide +kernel) (by rfl) ?_
      refine go_iload (show decode cX10_level 50 = .ok (.iload 4, 2) by decide +kernel) (by rfl) ?_
      refine go_iload (show decode cX10_level 52 = .ok (.iload 5, 2) by decide +kernel) (by rfl) ?_
      obtain ⟨q25, h⟩ := h
      refine go_callV (d2 := d - 1) (M2 := MX10_sumOf) (n := 5) (ci := 10) (av := [vI a1, vI a2, vI a3, vI a4, vI a5]) (st := []) (show decode cX10_level 54 = .ok (.invokevirtual 251, 3) by decide +kernel) ml_X10_251 mt_X10_sumOf min_X10_sumOf mse_X10_sumOf (by decide) q25 rfl (Nat.le_of_ble_eq_true rfl) (by omega) (ok_mono h (fun w21 S22 F23 G24 h => ?_))
      obtain ⟨z26, e9, h⟩ := h
      subst e9
      show Go d MX10_level 57 [some (vR a0), some (vI a1), some (vI a2), some (vI a3), some (vI a4), some (vI a5), some (vJ x20), none, none, none, none, none, none, none, none, none, none, none, none, none] [vJ z26] S22 F23 G24 Q
      refine go_lstore (show decode cX10_level 57 = .ok (.lstore 8, 2) by decide +kernel) (by decide) ?_
      show Go d MX10_level 59 [some (vR a0), some (vI a1), some (vI a2), some (vI a3), some (vI a4), some (vI a5), some (vJ x20), none, some (vJ z26), none, none, none, none, none, none, none, none, none, none, none] [] S22 F23 G24 Q
      refine go_lload (show decode cX10_level 59 = .ok (.lload 8, 2) by decide +kernel) (by rfl) ?_
      refine go_lload (show decode cX10_level 61 = .ok (.lload 6, 2) by decide +kernel) (by rfl) ?_
      obtain ⟨q27, h⟩ := h
      obtain ⟨q28, h⟩ := h
      refine go_ldiv (show decode cX10_level 63 = .ok (.ldiv, 1) by decide +kernel) q27 q28 ?_
      obtain ⟨x29, x29e⟩ : ∃ x29 : Int, x29 = Int.tdiv z26 x20 := ⟨_, rfl⟩
      have h := h x29 x29e
      rw [← x29e]
      refine go_lstore (show decode cX10_level 64 = .ok (.lstore 10, 2) by decide +kernel) (by decide) ?_
      show Go d MX10_level 66 [some (vR a0), some (vI a1), some (vI a2), some (vI a3), some (vI a4), some (vI a5), some (vJ x20), none, some (vJ z26), none, some (vJ x29), none, none, none, none, none, none, none, none, none] [] S22 F23 G24 Q
      refine go_lload (show decode cX10_level 66 = .ok (.lload 8, 2) by decide +kernel) (by rfl) ?_
      refine go_lload (show decode cX10_level 68 = .ok (.lload 6, 2) by decide +kernel) (by rfl) ?_
      obtain ⟨q30, h⟩ := h
      refine go_lrem (show decode cX10_level 70 = .ok (.lrem, 1) by decide +kernel) q27 q28 q30 ?_
      obtain ⟨x31, x31e⟩ : ∃ x31 : Int, x31 = Int.tmod z26 x20 := ⟨_, rfl⟩
      have h := h x31 x31e
      rw [← x31e]
      refine go_lstore (show decode cX10_level 71 = .ok (.lstore 12, 2) by decide +kernel) (by decide) ?_
      show Go d MX10_level 73 [some (vR a0), some (vI a1), some (vI a2), some (vI a3), some (vI a4), some (vI a5), some (vJ x20), none, some (vJ z26), none, some (vJ x29), none, some (vJ x31), none, none, none, none, none, none, none] [] S22 F23 G24 Q
      refine go_lload (show decode cX10_level 73 = .ok (.lload 12, 2) by decide +kernel) (by rfl) ?_
      refine go_lconst (n := 0) (show decode cX10_level 75 = .ok (.lconst 0, 1) by decide +kernel) ?_
      show Go d MX10_level 76 [some (vR a0), some (vI a1), some (vI a2), some (vI a3), some (vI a4), some (vI a5), some (vJ x20), none, some (vJ z26), none, some (vJ x29), none, some (vJ x31), none, none, none, none, none, none, none] [vJ 0, vJ x31] S22 F23 G24 Q
      obtain ⟨ht, hf⟩ := h
      refine go_jne (tgt := 86) (show decode cX10_level 76 = .ok (.lcmp, 1) by decide +kernel) (show decode cX10_level 77 = .ok (.ifCond .ne 9, 3) by decide +kernel) (by decide) (fun hc => ?_) (fun hc => ?_)
      · have h := ht hc
        refine go_iload_n (show decode cX10_level 86 = .ok (.iload_n 2, 1) by decide +kernel) (by rfl) ?_
        refine go_lload (show decode cX10_level 87 = .ok (.lload 12, 2) by decide +kernel) (by rfl) ?_
        refine go_lconst (n := 1) (show decode cX10_level 89 = .ok (.lconst 1, 1) by decide +kernel) ?_
        show Go d MX10_level 90 [some (vR a0), some (vI a1), some (vI a2), some (vI a3), some (vI a4), some (vI a5), some (vJ x20), none, some (vJ z26), none, some (vJ x29), none, some (vJ x31), none, none, none, none, none, none, none] [vJ 1, vJ x31, vI a2] S22 F23 G24 Q
        obtain ⟨q32, h⟩ := h
        refine go_lsub (show decode cX10_level 90 = .ok (.lsub, 1) by decide +kernel) q32 ?_
        refine go_iload (show decode cX10_level 91 = .ok (.iload 4, 2) by decide +kernel) (by rfl) ?_
        refine go_iload_n (show decode cX10_level 93 = .ok (.iload_n 2, 1) by decide +kernel) (by rfl) ?_
        obtain ⟨q33, h⟩ := h
        refine go_isub (show decode cX10_level 94 = .ok (.isub, 1) by decide +kernel) q33 ?_
        refine go_iconst (show decode cX10_level 95 = .ok (.iconst 1, 1) by decide +kernel) (by decide) ?_
        obtain ⟨q34, h⟩ := h
        refine go_iadd (show decode cX10_level 96 = .ok (.iadd, 1) by decide +kernel) q34 ?_
        refine go_i2l (show decode cX10_level 97 = .ok (.i2l, 1) by decide +kernel) ?_
        obtain ⟨q35, h⟩ := h
        obtain ⟨q36, h⟩ := h
        obtain ⟨q37, h⟩ := h
        refine go_lrem (show decode cX10_level 98 = .ok (.lrem, 1) by decide +kernel) q35 q36 q37 ?_
        obtain ⟨q38, h⟩ := h
        refine go_l2i (show decode cX10_level 99 = .ok (.l2i, 1) by decide +kernel) q38 ?_
        obtain ⟨q39, h⟩ := h
        refine go_iadd (show decode cX10_level 100 = .ok (.iadd, 1) by decide +kernel) q39 ?_
        exact R_X10_level_101 h
      · have h := hf hc
        refine go_iload_n (show decode cX10_level 80 = .ok (.iload_n 2, 1) by decide +kernel) (by rfl) ?_
        refine go_iconst (show decode cX10_level 81 = .ok (.iconst 1, 1) by decide +kernel) (by decide) ?_
        obtain ⟨q40, h⟩ := h
        refine go_isub (show decode cX10_level 82 = .ok (.isub, 1) by decide +kernel) q40 ?_
        refine go_goto (tgt := 101) (show decode cX10_level 83 = .ok (.goto 18, 3) by decide +kernel) (by decide) ?_
        exact R_X10_level_101 h
    · have h := hf hc
      refine go_ldc2 (show decode cX10_level 25 = .ok (.ldc2_w 174, 3) by decide +kernel) lc_X10_174 (by decide) ?_
      exact go_lret (show decode cX10_level 28 = .ok (.lreturn, 1) by decide +kernel) rfl h
def V_X10_first0_99 (d : Nat) (S : AS) (F : AF) (G : AG) (Q : AQ) (a0 : Nat) (a1 : Int) (a2 : Int) (a3 : Int) (a5 : Int) (s0 : Int) (s1 : Int) : Prop :=
  (sK S a0 = 10) ∧
  (r32 (s0 - (F a0 24))) ∧
  (r64 ((s0 - (F a0 24)) + 1)) ∧
  (r64 (s1 + ((s0 - (F a0 24)) + 1))) ∧
  ∀ x5 : Int, x5 = s1 + ((s0 - (F a0 24)) + 1) →
  Q (some (vJ x5)) S F G
theorem R_X10_first0_99 {d : Nat} {S : AS} {F : AF} {G : AG} {Q : AQ} {a0 : Nat} {a1 : Int} {a2 : Int} {a3 : Int} {a5 : Int} {s0 : Int} {s1 : Int} (h : V_X10_first0_99 d S F G Q a0 a1 a2 a3 a5 s0 s1) : Go d MX10_first0 99 [some (vR a0), some (vI a1), some (vI a2), some (vJ a3), none, some (vJ a5), none] [vI s0, vJ s1] S F G Q := by
  unfold V_X10_first0_99 at h
  refine go_aload_n (show decode cX10_first0 99 = .ok (.aload_n 0, 1) by decide +kernel) (by rfl) ?_
  obtain ⟨q1, h⟩ := h
  refine go_getI (show decode cX10_first0 100 = .ok (.getfield 239, 3) by decide +kernel) fl_X10_239 (Or.inl rfl) q1 ?_
  obtain ⟨q2, h⟩ := h
  refine go_isub (show decode cX10_first0 103 = .ok (.isub, 1) by decide +kernel) q2 ?_
  refine go_i2l (show decode cX10_first0 104 = .ok (.i2l, 1) by decide +kernel) ?_
  refine go_lconst (n := 1) (show decode cX10_first0 105 = .ok (.lconst 1, 1) by decide +kernel) ?_
  show Go d MX10_first0 106 [some (vR a0), some (vI a1), some (vI a2), some (vJ a3), none, some (vJ a5), none] [vJ 1, vJ (s0 - (F a0 24)), vJ s1] S F G Q
  obtain ⟨q3, h⟩ := h
  refine go_ladd (show decode cX10_first0 106 = .ok (.ladd, 1) by decide +kernel) q3 ?_
  obtain ⟨q4, h⟩ := h
  refine go_ladd (show decode cX10_first0 107 = .ok (.ladd, 1) by decide +kernel) q4 ?_
  obtain ⟨x5, x5e⟩ : ∃ x5 : Int, x5 = s1 + ((s0 - (F a0 24)) + 1) := ⟨_, rfl⟩
  have h := h x5 x5e
  rw [← x5e]
  refine go_lstore (show decode cX10_first0 108 = .ok (.lstore 5, 2) by decide +kernel) (by decide) ?_
  show Go d MX10_first0 110 [some (vR a0), some (vI a1), some (vI a2), some (vJ a3), none, some (vJ x5), none] [] S F G Q
  refine go_lload (show decode cX10_first0 110 = .ok (.lload 5, 2) by decide +kernel) (by rfl) ?_
  exact go_lret (show decode cX10_first0 112 = .ok (.lreturn, 1) by decide +kernel) rfl h
def V_X10_first0_55 (d : Nat) (S : AS) (F : AF) (G : AG) (Q : AQ) (a0 : Nat) (a1 : Int) (a2 : Int) (a3 : Int) (s0 : Int) : Prop :=
  (sK S a0 = 10) ∧
  ((a2 < F a0 25) →
    Q (some (vJ s0)) S F G) ∧
  ((¬ a2 < F a0 25) →
    ((F a0 27 < a2) →
      Q (some (vJ s0)) S F G) ∧
    ((¬ F a0 27 < a2) →
      ((a1 < F a0 24) →
        Q (some (vJ s0)) S F G) ∧
      ((¬ a1 < F a0 24) →
        ((a1 ≤ F a0 26) →
          V_X10_first0_99 d S F G Q a0 a1 a2 a3 s0 a1 s0) ∧
        ((¬ a1 ≤ F a0 26) →
          V_X10_first0_99 d S F G Q a0 a1 a2 a3 s0 (F a0 26) s0))))
theorem R_X10_first0_55 {d : Nat} {S : AS} {F : AF} {G : AG} {Q : AQ} {a0 : Nat} {a1 : Int} {a2 : Int} {a3 : Int} {s0 : Int} (h : V_X10_first0_55 d S F G Q a0 a1 a2 a3 s0) : Go d MX10_first0 55 [some (vR a0), some (vI a1), some (vI a2), some (vJ a3), none, none, none] [vJ s0] S F G Q := by
  unfold V_X10_first0_55 at h
  refine go_lstore (show decode cX10_first0 55 = .ok (.lstore 5, 2) by decide +kernel) (by decide) ?_
  show Go d MX10_first0 57 [some (vR a0), some (vI a1), some (vI a2), some (vJ a3), none, some (vJ s0), none] [] S F G Q
  refine go_aload_n (show decode cX10_first0 57 = .ok (.aload_n 0, 1) by decide +kernel) (by rfl) ?_
  obtain ⟨q1, h⟩ := h
  refine go_getI (show decode cX10_first0 58 = .ok (.getfield 242, 3) by decide +kernel) fl_X10_242 (Or.inl rfl) q1 ?_
  refine go_iload_n (show decode cX10_first0 61 = .ok (.iload_n 2, 1) by decide +kernel) (by rfl) ?_
  obtain ⟨ht, hf⟩ := h
  refine go_icmpgt (tgt := 110) (show decode cX10_first0 62 = .ok (.if_icmp .gt 48, 3) by decide +kernel) (by decide) (fun hc => ?_) (fun hc => ?_)
  · have h := ht hc
    refine go_lload (show decode cX10_first0 110 = .ok (.lload 5, 2) by decide +kernel) (by rfl) ?_
    exact go_lret (show decode cX10_first0 112 = .ok (.lreturn, 1) by decide +kernel) rfl h
  · have h := hf hc
    refine go_aload_n (show decode cX10_first0 65 = .ok (.aload_n 0, 1) by decide +kernel) (by rfl) ?_
    refine go_getI (show decode cX10_first0 66 = .ok (.getfield 248, 3) by decide +kernel) fl_X10_248 (Or.inl rfl) q1 ?_
    refine go_iload_n (show decode cX10_first0 69 = .ok (.iload_n 2, 1) by decide +kernel) (by rfl) ?_
    obtain ⟨ht, hf⟩ := h
    refine go_icmplt (tgt := 110) (show decode cX10_first0 70 = .ok (.if_icmp .lt 40, 3) by decide +kernel) (by decide) (fun hc => ?_) (fun hc => ?_)
    · have h := ht hc
      refine go_lload (show decode cX10_first0 110 = .ok (.lload 5, 2) by decide +kernel) (by rfl) ?_
      exact go_lret (show decode cX10_first0 112 = .ok (.lreturn, 1) by decide +kernel) rfl h
    · have h := hf hc
      refine go_aload_n (show decode cX10_first0 73 = .ok (.aload_n 0, 1) by decide +kernel) (by rfl) ?_
      refine go_getI (show decode cX10_first0 74 = .ok (.getfield 239, 3) by decide +kernel) fl_X10_239 (Or.inl rfl) q1 ?_
      refine go_iload_n (show decode cX10_first0 77 = .ok (.iload_n 1, 1) by decide +kernel) (by rfl) ?_
      obtain ⟨ht, hf⟩ := h
      refine go_icmpgt (tgt := 110) (show decode cX10_first0 78 = .ok (.if_icmp .gt 32, 3) by decide +kernel) (by decide) (fun hc => ?_) (fun hc => ?_)
      · have h := ht hc
        refine go_lload (show decode cX10_first0 110 = .ok (.lload 5, 2) by decide +kernel) (by rfl) ?_
        exact go_lret (show decode cX10_first0 112 = .ok (.lreturn, 1) by decide +kernel) rfl h
      · have h := hf hc
        refine go_lload (show decode cX10_first0 81 = .ok (.lload 5, 2) by decide +kernel) (by rfl) ?_
        refine go_aload_n (show decode cX10_first0 83 = .ok (.aload_n 0, 1) by decide +kernel) (by rfl) ?_
        refine go_getI (show decode cX10_first0 84 = .ok (.getfield 245, 3) by decide +kernel) fl_X10_245 (Or.inl rfl) q1 ?_
        refine go_iload_n (show decode cX10_first0 87 = .ok (.iload_n 1, 1) by decide +kernel) (by rfl) ?_
        obtain ⟨ht, hf⟩ := h
        refine go_icmpge (tgt := 98) (show decode cX10_first0 88 = .ok (.if_icmp .ge 10, 3) by decide +kernel) (by decide) (fun hc => ?_) (fun hc => ?_)
        · have h := ht hc
          refine go_iload_n (show decode cX10_first0 98 = .ok (.iload_n 1, 1) by decide +kernel) (by rfl) ?_
          exact R_X10_first0_99 h
        · have h := hf hc
          refine go_aload_n (show decode cX10_first0 91 = .ok (.aload_n 0, 1) by decide +kernel) (by rfl) ?_
          refine go_getI (show decode cX10_first0 92 = .ok (.getfield 245, 3) by decide +kernel) fl_X10_245 (Or.inl rfl) q1 ?_
          refine go_goto (tgt := 99) (show decode cX10_first0 95 = .ok (.goto 4, 3) by decide +kernel) (by decide) ?_
          exact R_X10_first0_99 h
def V_X10_first0_30 (d : Nat) (S : AS) (F : AF) (G : AG) (Q : AQ) (a0 : Nat) (a1 : Int) (a2 : Int) (s0 : Int) : Prop :=
  ((s0 ≤ 0) →
    V_X10_first0_55 d S F G Q a0 a1 a2 s0 0) ∧
  ((¬ s0 ≤ 0) →
    (sK S a0 = 10) ∧
    (r32 ((F a0 26) - (F a0 24))) ∧
    (r64 (((F a0 26) - (F a0 24)) + 1)) ∧
    (r64 (s0 * (((F a0 26) - (F a0 24)) + 1))) ∧
    V_X10_first0_55 d S F G Q a0 a1 a2 s0 (s0 * (((F a0 26) - (F a0 24)) + 1)))
theorem R_X10_first0_30 {d : Nat} {S : AS} {F : AF} {G : AG} {Q : AQ} {a0 : Nat} {a1 : Int} {a2 : Int} {s0 : Int} (h : V_X10_first0_30 d S F G Q a0 a1 a2 s0) : Go d MX10_first0 30 [some (vR a0), some (vI a1), some (vI a2), none, none, none, none] [vJ s0] S F G Q := by
  unfold V_X10_first0_30 at h
  refine go_lstore_n (show decode cX10_first0 30 = .ok (.lstore_n 3, 1) by decide +kernel) (by decide) ?_
  show Go d MX10_first0 31 [some (vR a0), some (vI a1), some (vI a2), some (vJ s0), none, none, none] [] S F G Q
  refine go_lload_n (show decode cX10_first0 31 = .ok (.lload_n 3, 1) by decide +kernel) (by rfl) ?_
  refine go_lconst (n := 0) (show decode cX10_first0 32 = .ok (.lconst 0, 1) by decide +kernel) ?_
  show Go d MX10_first0 33 [some (vR a0), some (vI a1), some (vI a2), some (vJ s0), none, none, none] [vJ 0, vJ s0] S F G Q
  obtain ⟨ht, hf⟩ := h
  refine go_jle (tgt := 54) (show decode cX10_first0 33 = .ok (.lcmp, 1) by decide +kernel) (show decode cX10_first0 34 = .ok (.ifCond .le 20, 3) by decide +kernel) (by decide) (fun hc => ?_) (fun hc => ?_)
  · have h := ht hc
    refine go_lconst (n := 0) (show decode cX10_first0 54 = .ok (.lconst 0, 1) by decide +kernel) ?_
    show Go d MX10_first0 55 [some (vR a0), some (vI a1), some (vI a2), some (vJ s0), none, none, none] [vJ 0] S F G Q
    exact R_X10_first0_55 h
  · have h := hf hc
    refine go_lload_n (show decode cX10_first0 37 = .ok (.lload_n 3, 1) by decide +kernel) (by rfl) ?_
    refine go_aload_n (show decode cX10_first0 38 = .ok (.aload_n 0, 1) by decide +kernel) (by rfl) ?_
    obtain ⟨q1, h⟩ := h
    refine go_getI (show decode cX10_first0 39 = .ok (.getfield 245, 3) by decide +kernel) fl_X10_245 (Or.inl rfl) q1 ?_
    refine go_aload_n (show decode cX10_first0 42 = .ok (.aload_n 0, 1) by decide +kernel) (by rfl) ?_
    refine go_getI (show decode cX10_first0 43 = .ok (.getfield 239, 3) by decide +kernel) fl_X10_239 (Or.inl rfl) q1 ?_
    obtain ⟨q2, h⟩ := h
    refine go_isub (show decode cX10_first0 46 = .ok (.isub, 1) by decide +kernel) q2 ?_
    refine go_i2l (show decode cX10_first0 47 = .ok (.i2l, 1) by decide +kernel) ?_
    refine go_lconst (n := 1) (show decode cX10_first0 48 = .ok (.lconst 1, 1) by decide +kernel) ?_
    show Go d MX10_first0 49 [some (vR a0), some (vI a1), some (vI a2), some (vJ s0), none, none, none] [vJ 1, vJ ((F a0 26) - (F a0 24)), vJ s0] S F G Q
    obtain ⟨q3, h⟩ := h
    refine go_ladd (show decode cX10_first0 49 = .ok (.ladd, 1) by decide +kernel) q3 ?_
    obtain ⟨q4, h⟩ := h
    refine go_lmul (show decode cX10_first0 50 = .ok (.lmul, 1) by decide +kernel) q4 ?_
    refine go_goto (tgt := 55) (show decode cX10_first0 51 = .ok (.goto 4, 3) by decide +kernel) (by decide) ?_
    exact R_X10_first0_55 h
def V_X10_first0_0 (d : Nat) (S : AS) (F : AF) (G : AG) (Q : AQ) (a0 : Nat) (a1 : Int) (a2 : Int) : Prop :=
  (sK S a0 = 10) ∧
  ((a2 ≤ F a0 27) →
    (r32 (a2 - (F a0 25))) ∧
    V_X10_first0_30 d S F G Q a0 a1 a2 (a2 - (F a0 25))) ∧
  ((¬ a2 ≤ F a0 27) →
    (r32 ((F a0 27) - (F a0 25))) ∧
    (r64 (((F a0 27) - (F a0 25)) + 1)) ∧
    V_X10_first0_30 d S F G Q a0 a1 a2 (((F a0 27) - (F a0 25)) + 1))
theorem R_X10_first0_0 {d : Nat} {S : AS} {F : AF} {G : AG} {Q : AQ} {a0 : Nat} {a1 : Int} {a2 : Int} (h : V_X10_first0_0 d S F G Q a0 a1 a2) : Go d MX10_first0 0 [some (vR a0), some (vI a1), some (vI a2), none, none, none, none] [] S F G Q := by
  unfold V_X10_first0_0 at h
  refine go_aload_n (show decode cX10_first0 0 = .ok (.aload_n 0, 1) by decide +kernel) (by rfl) ?_
  obtain ⟨q1, h⟩ := h
  refine go_getI (show decode cX10_first0 1 = .ok (.getfield 248, 3) by decide +kernel) fl_X10_248 (Or.inl rfl) q1 ?_
  refine go_iload_n (show decode cX10_first0 4 = .ok (.iload_n 2, 1) by decide +kernel) (by rfl) ?_
  obtain ⟨ht, hf⟩ := h
  refine go_icmpge (tgt := 23) (show decode cX10_first0 5 = .ok (.if_icmp .ge 18, 3) by decide +kernel) (by decide) (fun hc => ?_) (fun hc => ?_)
  · have h := ht hc
    refine go_iload_n (show decode cX10_first0 23 = .ok (.iload_n 2, 1) by decide +kernel) (by rfl) ?_
    refine go_aload_n (show decode cX10_first0 24 = .ok (.aload_n 0, 1) by decide +kernel) (by rfl) ?_
    refine go_getI (show decode cX10_first0 25 = .ok (.getfield 242, 3) by decide +kernel) fl_X10_242 (Or.inl rfl) q1 ?_
    obtain ⟨q2, h⟩ := h
    refine go_isub (show decode cX10_first0 28 = .ok (.isub, 1) by decide +kernel) q2 ?_
    refine go_i2l (show decode cX10_first0 29 = .ok (.i2l, 1) by decide +kernel) ?_
    exact R_X10_first0_30 h
  · have h := hf hc
    refine go_aload_n (show decode cX10_first0 8 = .ok (.aload_n 0, 1) by decide +kernel) (by rfl) ?_
    refine go_getI (show decode cX10_first0 9 = .ok (.getfield 248, 3) by decide +kernel) fl_X10_248 (Or.inl rfl) q1 ?_
    refine go_aload_n (show decode cX10_first0 12 = .ok (.aload_n 0, 1) by decide +kernel) (by rfl) ?_
    refine go_getI (show decode cX10_first0 13 = .ok (.getfield 242, 3) by decide +kernel) fl_X10_242 (Or.inl rfl) q1 ?_
    obtain ⟨q3, h⟩ := h
    refine go_isub (show decode cX10_first0 16 = .ok (.isub, 1) by decide +kernel) q3 ?_
    refine go_i2l (show decode cX10_first0 17 = .ok (.i2l, 1) by decide +kernel) ?_
    refine go_lconst (n := 1) (show decode cX10_first0 18 = .ok (.lconst 1, 1) by decide +kernel) ?_
    show Go d MX10_first0 19 [some (vR a0), some (vI a1), some (vI a2), none, none, none, none] [vJ 1, vJ ((F a0 27) - (F a0 25))] S F G Q
    obtain ⟨q4, h⟩ := h
    refine go_ladd (show decode cX10_first0 19 = .ok (.ladd, 1) by decide +kernel) q4 ?_
    refine go_goto (tgt := 30) (show decode cX10_first0 20 = .ok (.goto 10, 3) by decide +kernel) (by decide) ?_
    exact R_X10_first0_30 h
def V_X10_zone_0 (d : Nat) (S : AS) (F : AF) (G : AG) (Q : AQ) (a0 : Nat) (a1 : Int) (a2 : Int) (a3 : Int) (a4 : Int) (a5 : Int) (a6 : Int) : Prop :=
  (sK S a0 = 10) ∧
  ∀ F2 : AF, F2 = fu F a0 0 0 →
  (1 ≤ d) ∧
  Ok (d - 1) MX10_isIn [vJ a1, vJ 0, vJ 5] S F2 G (fun w4 S5 F6 G7 =>
  ∃ z8 : Int, w4 = some (vI z8) ∧
  ((z8 = 0) →
    Q (some (vJ (-2))) S5 F6 G7) ∧
  ((¬ z8 = 0) →
    (sK S5 a0 = 10) ∧
    Ok (d - 1) MX10_isRectangle [vR a0, vI a2, vI a3, vI a4, vI a5] S5 F6 G7 (fun w9 S10 F11 G12 =>
    ∃ z14 : Int, w9 = some (vI z14) ∧
    ((¬ z14 = 0) →
      Ok (d - 1) MX10_isIn [vJ a6, vJ 0, vJ 3000000000000000000] S10 F11 G12 (fun w15 S16 F17 G18 =>
      ∃ z19 : Int, w15 = some (vI z19) ∧
      ((¬ z19 = 0) →
        (sK S16 a0 = 10) ∧
        Ok (d - 1) MX10_sumOf [vR a0, vI (-1), vI a2, vI a3, vI a4, vI a5] S16 F17 G18 (fun w20 S21 F22 G23 =>
        ∃ z25 : Int, w20 = some (vJ z25) ∧
        ((z25 ≤ a6) →
          (sK S21 a0 = 10) ∧
          (r32 (4 * a1)) ∧
          (sK S21 (sR S21 a0 15) = 20) ∧
          ((0 : Int) ≤ 4 * a1) ∧
          ((4 * a1 : Int) < (sN S21 (sR S21 a0 15) : Int)) ∧
          ∀ G31 : AG, G31 = gu G23 (sR S21 a0 15) (4 * a1) a2 →
          (r32 ((4 * a1) + 1)) ∧
          ((0 : Int) ≤ (4 * a1) + 1) ∧
          (((4 * a1) + 1 : Int) < (sN S21 (sR S21 a0 15) : Int)) ∧
          ∀ G35 : AG, G35 = gu G31 (sR S21 a0 15) ((4 * a1) + 1) a3 →
          (r32 ((4 * a1) + 2)) ∧
          ((0 : Int) ≤ (4 * a1) + 2) ∧
          (((4 * a1) + 2 : Int) < (sN S21 (sR S21 a0 15) : Int)) ∧
          ∀ G39 : AG, G39 = gu G35 (sR S21 a0 15) ((4 * a1) + 2) a4 →
          (r32 ((4 * a1) + 3)) ∧
          ((0 : Int) ≤ (4 * a1) + 3) ∧
          (((4 * a1) + 3 : Int) < (sN S21 (sR S21 a0 15) : Int)) ∧
          ∀ G43 : AG, G43 = gu G39 (sR S21 a0 15) ((4 * a1) + 3) a5 →
          (sK S21 (sR S21 a0 16) = 21) ∧
          ((0 : Int) ≤ a1) ∧
          ((a1 : Int) < (sN S21 (sR S21 a0 16) : Int)) ∧
          ∀ G47 : AG, G47 = gu G43 (sR S21 a0 16) a1 a6 →
          (sK S21 (sR S21 a0 17) = 23) ∧
          ((a1 : Int) < (sN S21 (sR S21 a0 17) : Int)) ∧
          ∀ G50 : AG, G50 = gu G47 (sR S21 a0 17) a1 1 →
          Q (some (vJ z25)) S21 F22 G50) ∧
        ((¬ z25 ≤ a6) →
          Q (some (vJ (-9))) S21 F22 G23))) ∧
      ((z19 = 0) →
        Q (some (vJ (-3))) S16 F17 G18))) ∧
    ((z14 = 0) →
      Q (some (vJ (-2))) S10 F11 G12))))
theorem R_X10_zone_0 {d : Nat} {S : AS} {F : AF} {G : AG} {Q : AQ} {a0 : Nat} {a1 : Int} {a2 : Int} {a3 : Int} {a4 : Int} {a5 : Int} {a6 : Int} (h : V_X10_zone_0 d S F G Q a0 a1 a2 a3 a4 a5 a6) : Go d MX10_zone 0 [some (vR a0), some (vI a1), some (vI a2), some (vI a3), some (vI a4), some (vI a5), some (vJ a6), none, none, none] [] S F G Q := by
  unfold V_X10_zone_0 at h
  refine go_aload_n (show decode cX10_zone 0 = .ok (.aload_n 0, 1) by decide +kernel) (by rfl) ?_
  refine go_iconst (show decode cX10_zone 1 = .ok (.iconst 0, 1) by decide +kernel) (by decide) ?_
  obtain ⟨q1, h⟩ := h
  refine go_putI (show decode cX10_zone 2 = .ok (.putfield 1, 3) by decide +kernel) fl_X10_1 rfl (Or.inl rfl) q1 ?_
  obtain ⟨F2, F2e⟩ : ∃ F2 : AF, F2 = fu F a0 0 0 := ⟨_, rfl⟩
  have h := h F2 F2e
  rw [← F2e]
  refine go_iload_n (show decode cX10_zone 5 = .ok (.iload_n 1, 1) by decide +kernel) (by rfl) ?_
  refine go_i2l (show decode cX10_zone 6 = .ok (.i2l, 1) by decide +kernel) ?_
  refine go_lconst (n := 0) (show decode cX10_zone 7 = .ok (.lconst 0, 1) by decide +kernel) ?_
  show Go d MX10_zone 8 [some (vR a0), some (vI a1), some (vI a2), some (vI a3), some (vI a4), some (vI a5), some (vJ a6), none, none, none] [vJ 0, vJ a1] S F2 G Q
  refine go_ldc2 (show decode cX10_zone 8 = .ok (.ldc2_w 309, 3) by decide +kernel) lc_X10_309 (by decide) ?_
  obtain ⟨q3, h⟩ := h
  refine go_callS (d2 := d - 1) (M2 := MX10_isIn) (n := 3) (av := [vJ a1, vJ 0, vJ 5]) (st := []) (show decode cX10_zone 11 = .ok (.invokestatic 116, 3) by decide +kernel) ml_X10_116 mt_X10_isIn mst_X10_isIn rfl (Nat.le_of_ble_eq_true rfl) (by omega) (ok_mono h (fun w4 S5 F6 G7 h => ?_))
  obtain ⟨z8, e9, h⟩ := h
  subst e9
  show Go d MX10_zone 14 [some (vR a0), some (vI a1), some (vI a2), some (vI a3), some (vI a4), some (vI a5), some (vJ a6), none, none, none] [vI z8] S5 F6 G7 Q
  obtain ⟨ht, hf⟩ := h
  refine go_ifeq (tgt := 30) (show decode cX10_zone 14 = .ok (.ifCond .eq 16, 3) by decide +kernel) (by decide) (fun hc => ?_) (fun hc => ?_)
  · have h := ht hc
    refine go_ldc2 (show decode cX10_zone 30 = .ok (.ldc2_w 174, 3) by decide +kernel) lc_X10_174 (by decide) ?_
    exact go_lret (show decode cX10_zone 33 = .ok (.lreturn, 1) by decide +kernel) rfl h
  · have h := hf hc
    refine go_aload_n (show decode cX10_zone 17 = .ok (.aload_n 0, 1) by decide +kernel) (by rfl) ?_
    refine go_iload_n (show decode cX10_zone 18 = .ok (.iload_n 2, 1) by decide +kernel) (by rfl) ?_
    refine go_iload_n (show decode cX10_zone 19 = .ok (.iload_n 3, 1) by decide +kernel) (by rfl) ?_
    refine go_iload (show decode cX10_zone 20 = .ok (.iload 4, 2) by decide +kernel) (by rfl) ?_
    refine go_iload (show decode cX10_zone 22 = .ok (.iload 5, 2) by decide +kernel) (by rfl) ?_
    obtain ⟨q13, h⟩ := h
    refine go_callV (d2 := d - 1) (M2 := MX10_isRectangle) (n := 4) (ci := 10) (av := [vI a2, vI a3, vI a4, vI a5]) (st := []) (show decode cX10_zone 24 = .ok (.invokevirtual 170, 3) by decide +kernel) ml_X10_170 mt_X10_isRectangle min_X10_isRectangle mse_X10_isRectangle (by decide) q13 rfl (Nat.le_of_ble_eq_true rfl) (by omega) (ok_mono h (fun w9 S10 F11 G12 h => ?_))
    obtain ⟨z14, e9, h⟩ := h
    subst e9
    show Go d MX10_zone 27 [some (vR a0), some (vI a1), some (vI a2), some (vI a3), some (vI a4), some (vI a5), some (vJ a6), none, none, none] [vI z14] S10 F11 G12 Q
    obtain ⟨ht, hf⟩ := h
    refine go_ifne (tgt := 34) (show decode cX10_zone 27 = .ok (.ifCond .ne 7, 3) by decide +kernel) (by decide) (fun hc => ?_) (fun hc => ?_)
    · have h := ht hc
      refine go_lload (show decode cX10_zone 34 = .ok (.lload 6, 2) by decide +kernel) (by rfl) ?_
      refine go_lconst (n := 0) (show decode cX10_zone 36 = .ok (.lconst 0, 1) by decide +kernel) ?_
      show Go d MX10_zone 37 [some (vR a0), some (vI a1), some (vI a2), some (vI a3), some (vI a4), some (vI a5), some (vJ a6), none, none, none] [vJ 0, vJ a6] S10 F11 G12 Q
      refine go_ldc2 (show decode cX10_zone 37 = .ok (.ldc2_w 198, 3) by decide +kernel) lc_X10_198 (by decide) ?_
      refine go_callS (d2 := d - 1) (M2 := MX10_isIn) (n := 3) (av := [vJ a6, vJ 0, vJ 3000000000000000000]) (st := []) (show decode cX10_zone 40 = .ok (.invokestatic 116, 3) by decide +kernel) ml_X10_116 mt_X10_isIn mst_X10_isIn rfl (Nat.le_of_ble_eq_true rfl) (by omega) (ok_mono h (fun w15 S16 F17 G18 h => ?_))
      obtain ⟨z19, e9, h⟩ := h
      subst e9
      show Go d MX10_zone 43 [some (vR a0), some (vI a1), some (vI a2), some (vI a3), some (vI a4), some (vI a5), some (vJ a6), none, none, none] [vI z19] S16 F17 G18 Q
      obtain ⟨ht, hf⟩ := h
      refine go_ifne (tgt := 50) (show decode cX10_zone 43 = .ok (.ifCond .ne 7, 3) by decide +kernel) (by decide) (fun hc => ?_) (fun hc => ?_)
      · have h := ht hc
        refine go_aload_n (show decode cX10_zone 50 = .ok (.aload_n 0, 1) by decide +kernel) (by rfl) ?_
        refine go_iconst (show decode cX10_zone 51 = .ok (.iconst (-1), 1) by decide +kernel) (by decide) ?_
        refine go_iload_n (show decode cX10_zone 52 = .ok (.iload_n 2, 1) by decide +kernel) (by rfl) ?_
        refine go_iload_n (show decode cX10_zone 53 = .ok (.iload_n 3, 1) by decide +kernel) (by rfl) ?_
        refine go_iload (show decode cX10_zone 54 = .ok (.iload 4, 2) by decide +kernel) (by rfl) ?_
        refine go_iload (show decode cX10_zone 56 = .ok (.iload 5, 2) by decide +kernel) (by rfl) ?_
        obtain ⟨q24, h⟩ := h
        refine go_callV (d2 := d - 1) (M2 := MX10_sumOf) (n := 5) (ci := 10) (av := [vI (-1), vI a2, vI a3, vI a4, vI a5]) (st := []) (show decode cX10_zone 58 = .ok (.invokevirtual 251, 3) by decide +kernel) ml_X10_251 mt_X10_sumOf min_X10_sumOf mse_X10_sumOf (by decide) q24 rfl (Nat.le_of_ble_eq_true rfl) (by omega) (ok_mono h (fun w20 S21 F22 G23 h => ?_))
        obtain ⟨z25, e9, h⟩ := h
        subst e9
        show Go d MX10_zone 61 [some (vR a0), some (vI a1), some (vI a2), some (vI a3), some (vI a4), some (vI a5), some (vJ a6), none, none, none] [vJ z25] S21 F22 G23 Q
        refine go_lstore (show decode cX10_zone 61 = .ok (.lstore 8, 2) by decide +kernel) (by decide) ?_
        show Go d MX10_zone 63 [some (vR a0), some (vI a1), some (vI a2), some (vI a3), some (vI a4), some (vI a5), some (vJ a6), none, some (vJ z25), none] [] S21 F22 G23 Q
        refine go_lload (show decode cX10_zone 63 = .ok (.lload 8, 2) by decide +kernel) (by rfl) ?_
        refine go_lload (show decode cX10_zone 65 = .ok (.lload 6, 2) by decide +kernel) (by rfl) ?_
        obtain ⟨ht, hf⟩ := h
        refine go_jle (tgt := 75) (show decode cX10_zone 67 = .ok (.lcmp, 1) by decide +kernel) (show decode cX10_zone 68 = .ok (.ifCond .le 7, 3) by decide +kernel) (by decide) (fun hc => ?_) (fun hc => ?_)
        · have h := ht hc
          refine go_aload_n (show decode cX10_zone 75 = .ok (.aload_n 0, 1) by decide +kernel) (by rfl) ?_
          obtain ⟨q26, h⟩ := h
          refine go_getR (show decode cX10_zone 76 = .ok (.getfield 55, 3) by decide +kernel) fl_X10_55 rfl q26 ?_
          refine go_iconst (show decode cX10_zone 79 = .ok (.iconst 4, 1) by decide +kernel) (by decide) ?_
          refine go_iload_n (show decode cX10_zone 80 = .ok (.iload_n 1, 1) by decide +kernel) (by rfl) ?_
          obtain ⟨q27, h⟩ := h
          refine go_imul (show decode cX10_zone 81 = .ok (.imul, 1) by decide +kernel) q27 ?_
          refine go_iload_n (show decode cX10_zone 82 = .ok (.iload_n 2, 1) by decide +kernel) (by rfl) ?_
          obtain ⟨q28, h⟩ := h
          obtain ⟨q29, h⟩ := h
          obtain ⟨q30, h⟩ := h
          refine go_iastore (show decode cX10_zone 83 = .ok (.iastore, 1) by decide +kernel) q28 q29 q30  ?_
          obtain ⟨G31, G31e⟩ : ∃ G31 : AG, G31 = gu G23 (sR S21 a0 15) (4 * a1) a2 := ⟨_, rfl⟩
          have h := h G31 G31e
          rw [← G31e]
          refine go_aload_n (show decode cX10_zone 84 = .ok (.aload_n 0, 1) by decide +kernel) (by rfl) ?_
          refine go_getR (show decode cX10_zone 85 = .ok (.getfield 55, 3) by decide +kernel) fl_X10_55 rfl q26 ?_
          refine go_iconst (show decode cX10_zone 88 = .ok (.iconst 4, 1) by decide +kernel) (by decide) ?_
          refine go_iload_n (show decode cX10_zone 89 = .ok (.iload_n 1, 1) by decide +kernel) (by rfl) ?_
          refine go_imul (show decode cX10_zone 90 = .ok (.imul, 1) by decide +kernel) q27 ?_
          refine go_iconst (show decode cX10_zone 91 = .ok (.iconst 1, 1) by decide +kernel) (by decide) ?_
          obtain ⟨q32, h⟩ := h
          refine go_iadd (show decode cX10_zone 92 = .ok (.iadd, 1) by decide +kernel) q32 ?_
          refine go_iload_n (show decode cX10_zone 93 = .ok (.iload_n 3, 1) by decide +kernel) (by rfl) ?_
          obtain ⟨q33, h⟩ := h
          obtain ⟨q34, h⟩ := h
          refine go_iastore (show decode cX10_zone 94 = .ok (.iastore, 1) by decide +kernel) q28 q33 q34  ?_
          obtain ⟨G35, G35e⟩ : ∃ G35 : AG, G35 = gu G31 (sR S21 a0 15) ((4 * a1) + 1) a3 := ⟨_, rfl⟩
          have h := h G35 G35e
          rw [← G35e]
          refine go_aload_n (show decode cX10_zone 95 = .ok (.aload_n 0, 1) by decide +kernel) (by rfl) ?_
          refine go_getR (show decode cX10_zone 96 = .ok (.getfield 55, 3) by decide +kernel) fl_X10_55 rfl q26 ?_
          refine go_iconst (show decode cX10_zone 99 = .ok (.iconst 4, 1) by decide +kernel) (by decide) ?_
          refine go_iload_n (show decode cX10_zone 100 = .ok (.iload_n 1, 1) by decide +kernel) (by rfl) ?_
          refine go_imul (show decode cX10_zone 101 = .ok (.imul, 1) by decide +kernel) q27 ?_
          refine go_iconst (show decode cX10_zone 102 = .ok (.iconst 2, 1) by decide +kernel) (by decide) ?_
          obtain ⟨q36, h⟩ := h
          refine go_iadd (show decode cX10_zone 103 = .ok (.iadd, 1) by decide +kernel) q36 ?_
          refine go_iload (show decode cX10_zone 104 = .ok (.iload 4, 2) by decide +kernel) (by rfl) ?_
          obtain ⟨q37, h⟩ := h
          obtain ⟨q38, h⟩ := h
          refine go_iastore (show decode cX10_zone 106 = .ok (.iastore, 1) by decide +kernel) q28 q37 q38  ?_
          obtain ⟨G39, G39e⟩ : ∃ G39 : AG, G39 = gu G35 (sR S21 a0 15) ((4 * a1) + 2) a4 := ⟨_, rfl⟩
          have h := h G39 G39e
          rw [← G39e]
          refine go_aload_n (show decode cX10_zone 107 = .ok (.aload_n 0, 1) by decide +kernel) (by rfl) ?_
          refine go_getR (show decode cX10_zone 108 = .ok (.getfield 55, 3) by decide +kernel) fl_X10_55 rfl q26 ?_
          refine go_iconst (show decode cX10_zone 111 = .ok (.iconst 4, 1) by decide +kernel) (by decide) ?_
          refine go_iload_n (show decode cX10_zone 112 = .ok (.iload_n 1, 1) by decide +kernel) (by rfl) ?_
          refine go_imul (show decode cX10_zone 113 = .ok (.imul, 1) by decide +kernel) q27 ?_
          refine go_iconst (show decode cX10_zone 114 = .ok (.iconst 3, 1) by decide +kernel) (by decide) ?_
          obtain ⟨q40, h⟩ := h
          refine go_iadd (show decode cX10_zone 115 = .ok (.iadd, 1) by decide +kernel) q40 ?_
          refine go_iload (show decode cX10_zone 116 = .ok (.iload 5, 2) by decide +kernel) (by rfl) ?_
          obtain ⟨q41, h⟩ := h
          obtain ⟨q42, h⟩ := h
          refine go_iastore (show decode cX10_zone 118 = .ok (.iastore, 1) by decide +kernel) q28 q41 q42  ?_
          obtain ⟨G43, G43e⟩ : ∃ G43 : AG, G43 = gu G39 (sR S21 a0 15) ((4 * a1) + 3) a5 := ⟨_, rfl⟩
          have h := h G43 G43e
          rw [← G43e]
          refine go_aload_n (show decode cX10_zone 119 = .ok (.aload_n 0, 1) by decide +kernel) (by rfl) ?_
          refine go_getR (show decode cX10_zone 120 = .ok (.getfield 58, 3) by decide +kernel) fl_X10_58 rfl q26 ?_
          refine go_iload_n (show decode cX10_zone 123 = .ok (.iload_n 1, 1) by decide +kernel) (by rfl) ?_
          refine go_lload (show decode cX10_zone 124 = .ok (.lload 6, 2) by decide +kernel) (by rfl) ?_
          obtain ⟨q44, h⟩ := h
          obtain ⟨q45, h⟩ := h
          obtain ⟨q46, h⟩ := h
          refine go_lastore (show decode cX10_zone 126 = .ok (.lastore, 1) by decide +kernel) q44 q45 q46  ?_
          obtain ⟨G47, G47e⟩ : ∃ G47 : AG, G47 = gu G43 (sR S21 a0 16) a1 a6 := ⟨_, rfl⟩
          have h := h G47 G47e
          rw [← G47e]
          refine go_aload_n (show decode cX10_zone 127 = .ok (.aload_n 0, 1) by decide +kernel) (by rfl) ?_
          refine go_getR (show decode cX10_zone 128 = .ok (.getfield 61, 3) by decide +kernel) fl_X10_61 rfl q26 ?_
          refine go_iload_n (show decode cX10_zone 131 = .ok (.iload_n 1, 1) by decide +kernel) (by rfl) ?_
          refine go_iconst (show decode cX10_zone 132 = .ok (.iconst 1, 1) by decide +kernel) (by decide) ?_
          obtain ⟨q48, h⟩ := h
          obtain ⟨q49, h⟩ := h
          refine go_zastore (show decode cX10_zone 133 = .ok (.bastore, 1) by decide +kernel) q48 q45 q49 (by decide) ?_
          obtain ⟨G50, G50e⟩ : ∃ G50 : AG, G50 = gu G47 (sR S21 a0 17) a1 1 := ⟨_, rfl⟩
          have h := h G50 G50e
          rw [← G50e]
          refine go_lload (show decode cX10_zone 134 = .ok (.lload 8, 2) by decide +kernel) (by rfl) ?_
          exact go_lret (show decode cX10_zone 136 = .ok (.lreturn, 1) by decide +kernel) rfl h
        · have h := hf hc
          refine go_ldc2 (show decode cX10_zone 71 = .ok (.ldc2_w 196, 3) by decide +kernel) lc_X10_196 (by decide) ?_
          exact go_lret (show decode cX10_zone 74 = .ok (.lreturn, 1) by decide +kernel) rfl h
      · have h := hf hc
        refine go_ldc2 (show decode cX10_zone 46 = .ok (.ldc2_w 120, 3) by decide +kernel) lc_X10_120 (by decide) ?_
        exact go_lret (show decode cX10_zone 49 = .ok (.lreturn, 1) by decide +kernel) rfl h
    · have h := hf hc
      refine go_ldc2 (show decode cX10_zone 30 = .ok (.ldc2_w 174, 3) by decide +kernel) lc_X10_174 (by decide) ?_
      exact go_lret (show decode cX10_zone 33 = .ok (.lreturn, 1) by decide +kernel) rfl h
def V_X10_zoneAt_0 (d : Nat) (S : AS) (F : AF) (G : AG) (Q : AQ) (a0 : Nat) (a1 : Int) (a2 : Int) : Prop :=
  (sK S a0 = 10) ∧
  ∀ F2 : AF, F2 = fu F a0 0 0 →
  (1 ≤ d) ∧
  Ok (d - 1) MX10_isIn [vJ a1, vJ 0, vJ 5] S F2 G (fun w4 S5 F6 G7 =>
  ∃ z8 : Int, w4 = some (vI z8) ∧
  ((z8 = 0) →
    Q (some (vJ (-2))) S5 F6 G7) ∧
  ((¬ z8 = 0) →
    Ok (d - 1) MX10_isIn [vJ a2, vJ 0, vJ 5] S5 F6 G7 (fun w9 S10 F11 G12 =>
    ∃ z13 : Int, w9 = some (vI z13) ∧
    ((¬ z13 = 0) →
      (sK S10 a0 = 10) ∧
      (sK S10 (sR S10 a0 17) = 23) ∧
      ((0 : Int) ≤ a1) ∧
      ((a1 : Int) < (sN S10 (sR S10 a0 17) : Int)) ∧
      ((¬ G12 (sR S10 a0 17) a1 = 0) →
        ((4 ≤ a2) →
          ((¬ a2 = 4) →
            Ok (d - 1) MX10_zoned [vR a0, vI a1] S10 F11 G12 (fun w18 S19 F20 G21 =>
            ∃ z22 : Int, w18 = some (vJ z22) ∧
            (sK S19 a0 = 10) ∧
            (sK S19 (sR S19 a0 16) = 21) ∧
            ((0 : Int) ≤ a1) ∧
            ((a1 : Int) < (sN S19 (sR S19 a0 16) : Int)) ∧
            ((z22 ≤ G21 (sR S19 a0 16) a1) →
              (r64 ((G21 (sR S19 a0 16) a1) - z22)) ∧
              Q (some (vJ ((G21 (sR S19 a0 16) a1) - z22))) S19 F20 G21) ∧
            ((¬ z22 ≤ G21 (sR S19 a0 16) a1) →
              Q (some (vJ 0)) S19 F20 G21))) ∧
          ((a2 = 4) →
            (sK S10 (sR S10 a0 16) = 21) ∧
            ((a1 : Int) < (sN S10 (sR S10 a0 16) : Int)) ∧
            Q (some (vJ (G12 (sR S10 a0 16) a1))) S10 F11 G12)) ∧
        ((¬ 4 ≤ a2) →
          (r32 (4 * a1)) ∧
          (r32 ((4 * a1) + a2)) ∧
          (sK S10 (sR S10 a0 15) = 20) ∧
          ((0 : Int) ≤ (4 * a1) + a2) ∧
          (((4 * a1) + a2 : Int) < (sN S10 (sR S10 a0 15) : Int)) ∧
          Q (some (vJ (G12 (sR S10 a0 15) ((4 * a1) + a2)))) S10 F11 G12)) ∧
      ((G12 (sR S10 a0 17) a1 = 0) →
        Q (some (vJ (-1))) S10 F11 G12)) ∧
    ((z13 = 0) →
      Q (some (vJ (-2))) S10 F11 G12))))
theorem R_X10_zoneAt_0 {d : Nat} {S : AS} {F : AF} {G : AG} {Q : AQ} {a0 : Nat} {a1 : Int} {a2 : Int} (h : V_X10_zoneAt_0 d S F G Q a0 a1 a2) : Go d MX10_zoneAt 0 [some (vR a0), some (vI a1), some (vI a2), none, none] [] S F G Q := by
  unfold V_X10_zoneAt_0 at h
  refine go_aload_n (show decode cX10_zoneAt 0 = .ok (.aload_n 0, 1) by decide +kernel) (by rfl) ?_
  refine go_iconst (show decode cX10_zoneAt 1 = .ok (.iconst 0, 1) by decide +kernel) (by decide) ?_
  obtain ⟨q1, h⟩ := h
  refine go_putI (show decode cX10_zoneAt 2 = .ok (.putfield 1, 3) by decide +kernel) fl_X10_1 rfl (Or.inl rfl) q1 ?_
  obtain ⟨F2, F2e⟩ : ∃ F2 : AF, F2 = fu F a0 0 0 := ⟨_, rfl⟩
  have h := h F2 F2e
  rw [← F2e]
  refine go_iload_n (show decode cX10_zoneAt 5 = .ok (.iload_n 1, 1) by decide +kernel) (by rfl) ?_
  refine go_i2l (show decode cX10_zoneAt 6 = .ok (.i2l, 1) by decide +kernel) ?_
  refine go_lconst (n := 0) (show decode cX10_zoneAt 7 = .ok (.lconst 0, 1) by decide +kernel) ?_
  show Go d MX10_zoneAt 8 [some (vR a0), some (vI a1), some (vI a2), none, none] [vJ 0, vJ a1] S F2 G Q
  refine go_ldc2 (show decode cX10_zoneAt 8 = .ok (.ldc2_w 309, 3) by decide +kernel) lc_X10_309 (by decide) ?_
  obtain ⟨q3, h⟩ := h
  refine go_callS (d2 := d - 1) (M2 := MX10_isIn) (n := 3) (av := [vJ a1, vJ 0, vJ 5]) (st := []) (show decode cX10_zoneAt 11 = .ok (.invokestatic 116, 3) by decide +kernel) ml_X10_116 mt_X10_isIn mst_X10_isIn rfl (Nat.le_of_ble_eq_true rfl) (by omega) (ok_mono h (fun w4 S5 F6 G7 h => ?_))
  obtain ⟨z8, e9, h⟩ := h
  subst e9
  show Go d MX10_zoneAt 14 [some (vR a0), some (vI a1), some (vI a2), none, none] [vI z8] S5 F6 G7 Q
  obtain ⟨ht, hf⟩ := h
  refine go_ifeq (tgt := 29) (show decode cX10_zoneAt 14 = .ok (.ifCond .eq 15, 3) by decide +kernel) (by decide) (fun hc => ?_) (fun hc => ?_)
  · have h := ht hc
    refine go_ldc2 (show decode cX10_zoneAt 29 = .ok (.ldc2_w 174, 3) by decide +kernel) lc_X10_174 (by decide) ?_
    exact go_lret (show decode cX10_zoneAt 32 = .ok (.lreturn, 1) by decide +kernel) rfl h
  · have h := hf hc
    refine go_iload_n (show decode cX10_zoneAt 17 = .ok (.iload_n 2, 1) by decide +kernel) (by rfl) ?_
    refine go_i2l (show decode cX10_zoneAt 18 = .ok (.i2l, 1) by decide +kernel) ?_
    refine go_lconst (n := 0) (show decode cX10_zoneAt 19 = .ok (.lconst 0, 1) by decide +kernel) ?_
    show Go d MX10_zoneAt 20 [some (vR a0), some (vI a1), some (vI a2), none, none] [vJ 0, vJ a2] S5 F6 G7 Q
    refine go_ldc2 (show decode cX10_zoneAt 20 = .ok (.ldc2_w 309, 3) by decide +kernel) lc_X10_309 (by decide) ?_
    refine go_callS (d2 := d - 1) (M2 := MX10_isIn) (n := 3) (av := [vJ a2, vJ 0, vJ 5]) (st := []) (show decode cX10_zoneAt 23 = .ok (.invokestatic 116, 3) by decide +kernel) ml_X10_116 mt_X10_isIn mst_X10_isIn rfl (Nat.le_of_ble_eq_true rfl) (by omega) (ok_mono h (fun w9 S10 F11 G12 h => ?_))
    obtain ⟨z13, e9, h⟩ := h
    subst e9
    show Go d MX10_zoneAt 26 [some (vR a0), some (vI a1), some (vI a2), none, none] [vI z13] S10 F11 G12 Q
    obtain ⟨ht, hf⟩ := h
    refine go_ifne (tgt := 33) (show decode cX10_zoneAt 26 = .ok (.ifCond .ne 7, 3) by decide +kernel) (by decide) (fun hc => ?_) (fun hc => ?_)
    · have h := ht hc
      refine go_aload_n (show decode cX10_zoneAt 33 = .ok (.aload_n 0, 1) by decide +kernel) (by rfl) ?_
      obtain ⟨q14, h⟩ := h
      refine go_getR (show decode cX10_zoneAt 34 = .ok (.getfield 61, 3) by decide +kernel) fl_X10_61 rfl q14 ?_
      refine go_iload_n (show decode cX10_zoneAt 37 = .ok (.iload_n 1, 1) by decide +kernel) (by rfl) ?_
      obtain ⟨q15, h⟩ := h
      obtain ⟨q16, h⟩ := h
      obtain ⟨q17, h⟩ := h
      refine go_zaload (show decode cX10_zoneAt 38 = .ok (.baload, 1) by decide +kernel) q15 q16 q17 ?_
      obtain ⟨ht, hf⟩ := h
      refine go_ifne (tgt := 46) (show decode cX10_zoneAt 39 = .ok (.ifCond .ne 7, 3) by decide +kernel) (by decide) (fun hc => ?_) (fun hc => ?_)
      · have h := ht hc
        refine go_iload_n (show decode cX10_zoneAt 46 = .ok (.iload_n 2, 1) by decide +kernel) (by rfl) ?_
        refine go_iconst (show decode cX10_zoneAt 47 = .ok (.iconst 4, 1) by decide +kernel) (by decide) ?_
        obtain ⟨ht, hf⟩ := h
        refine go_icmpge (tgt := 63) (show decode cX10_zoneAt 48 = .ok (.if_icmp .ge 15, 3) by decide +kernel) (by decide) (fun hc => ?_) (fun hc => ?_)
        · have h := ht hc
          refine go_iload_n (show decode cX10_zoneAt 63 = .ok (.iload_n 2, 1) by decide +kernel) (by rfl) ?_
          refine go_iconst (show decode cX10_zoneAt 64 = .ok (.iconst 4, 1) by decide +kernel) (by decide) ?_
          obtain ⟨ht, hf⟩ := h
          refine go_icmpne (tgt := 75) (show decode cX10_zoneAt 65 = .ok (.if_icmp .ne 10, 3) by decide +kernel) (by decide) (fun hc => ?_) (fun hc => ?_)
          · have h := ht hc
            refine go_aload_n (show decode cX10_zoneAt 75 = .ok (.aload_n 0, 1) by decide +kernel) (by rfl) ?_
            refine go_iload_n (show decode cX10_zoneAt 76 = .ok (.iload_n 1, 1) by decide +kernel) (by rfl) ?_
            refine go_callV (d2 := d - 1) (M2 := MX10_zoned) (n := 1) (ci := 10) (av := [vI a1]) (st := []) (show decode cX10_zoneAt 77 = .ok (.invokevirtual 188, 3) by decide +kernel) ml_X10_188 mt_X10_zoned min_X10_zoned mse_X10_zoned (by decide) q14 rfl (Nat.le_of_ble_eq_true rfl) (by omega) (ok_mono h (fun w18 S19 F20 G21 h => ?_))
            obtain ⟨z22, e9, h⟩ := h
            subst e9
            show Go d MX10_zoneAt 80 [some (vR a0), some (vI a1), some (vI a2), none, none] [vJ z22] S19 F20 G21 Q
            refine go_lstore_n (show decode cX10_zoneAt 80 = .ok (.lstore_n 3, 1) by decide +kernel) (by decide) ?_
            show Go d MX10_zoneAt 81 [some (vR a0), some (vI a1), some (vI a2), some (vJ z22), none] [] S19 F20 G21 Q
            refine go_lload_n (show decode cX10_zoneAt 81 = .ok (.lload_n 3, 1) by decide +kernel) (by rfl) ?_
            refine go_aload_n (show decode cX10_zoneAt 82 = .ok (.aload_n 0, 1) by decide +kernel) (by rfl) ?_
            obtain ⟨q23, h⟩ := h
            refine go_getR (show decode cX10_zoneAt 83 = .ok (.getfield 58, 3) by decide +kernel) fl_X10_58 rfl q23 ?_
            refine go_iload_n (show decode cX10_zoneAt 86 = .ok (.iload_n 1, 1) by decide +kernel) (by rfl) ?_
            obtain ⟨q24, h⟩ := h
            obtain ⟨q25, h⟩ := h
            obtain ⟨q26, h⟩ := h
            refine go_laload (show decode cX10_zoneAt 87 = .ok (.laload, 1) by decide +kernel) q24 q25 q26 ?_
            obtain ⟨ht, hf⟩ := h
            refine go_jle (tgt := 96) (show decode cX10_zoneAt 88 = .ok (.lcmp, 1) by decide +kernel) (show decode cX10_zoneAt 89 = .ok (.ifCond .le 7, 3) by decide +kernel) (by decide) (fun hc => ?_) (fun hc => ?_)
            · have h := ht hc
              refine go_aload_n (show decode cX10_zoneAt 96 = .ok (.aload_n 0, 1) by decide +kernel) (by rfl) ?_
              refine go_getR (show decode cX10_zoneAt 97 = .ok (.getfield 58, 3) by decide +kernel) fl_X10_58 rfl q23 ?_
              refine go_iload_n (show decode cX10_zoneAt 100 = .ok (.iload_n 1, 1) by decide +kernel) (by rfl) ?_
              refine go_laload (show decode cX10_zoneAt 101 = .ok (.laload, 1) by decide +kernel) q24 q25 q26 ?_
              refine go_lload_n (show decode cX10_zoneAt 102 = .ok (.lload_n 3, 1) by decide +kernel) (by rfl) ?_
              obtain ⟨q27, h⟩ := h
              refine go_lsub (show decode cX10_zoneAt 103 = .ok (.lsub, 1) by decide +kernel) q27 ?_
              exact go_lret (show decode cX10_zoneAt 104 = .ok (.lreturn, 1) by decide +kernel) rfl h
            · have h := hf hc
              refine go_lconst (n := 0) (show decode cX10_zoneAt 92 = .ok (.lconst 0, 1) by decide +kernel) ?_
              show Go d MX10_zoneAt 93 [some (vR a0), some (vI a1), some (vI a2), some (vJ z22), none] [vJ 0] S19 F20 G21 Q
              refine go_goto (tgt := 104) (show decode cX10_zoneAt 93 = .ok (.goto 11, 3) by decide +kernel) (by decide) ?_
              exact go_lret (show decode cX10_zoneAt 104 = .ok (.lreturn, 1) by decide +kernel) rfl h
          · have h := hf hc
            refine go_aload_n (show decode cX10_zoneAt 68 = .ok (.aload_n 0, 1) by decide +kernel) (by rfl) ?_
            refine go_getR (show decode cX10_zoneAt 69 = .ok (.getfield 58, 3) by decide +kernel) fl_X10_58 rfl q14 ?_
            refine go_iload_n (show decode cX10_zoneAt 72 = .ok (.iload_n 1, 1) by decide +kernel) (by rfl) ?_
            obtain ⟨q28, h⟩ := h
            obtain ⟨q29, h⟩ := h
            refine go_laload (show decode cX10_zoneAt 73 = .ok (.laload, 1) by decide +kernel) q28 q16 q29 ?_
            exact go_lret (show decode cX10_zoneAt 74 = .ok (.lreturn, 1) by decide +kernel) rfl h
        · have h := hf hc
          refine go_aload_n (show decode cX10_zoneAt 51 = .ok (.aload_n 0, 1) by decide +kernel) (by rfl) ?_
          refine go_getR (show decode cX10_zoneAt 52 = .ok (.getfield 55, 3) by decide +kernel) fl_X10_55 rfl q14 ?_
          refine go_iconst (show decode cX10_zoneAt 55 = .ok (.iconst 4, 1) by decide +kernel) (by decide) ?_
          refine go_iload_n (show decode cX10_zoneAt 56 = .ok (.iload_n 1, 1) by decide +kernel) (by rfl) ?_
          obtain ⟨q30, h⟩ := h
          refine go_imul (show decode cX10_zoneAt 57 = .ok (.imul, 1) by decide +kernel) q30 ?_
          refine go_iload_n (show decode cX10_zoneAt 58 = .ok (.iload_n 2, 1) by decide +kernel) (by rfl) ?_
          obtain ⟨q31, h⟩ := h
          refine go_iadd (show decode cX10_zoneAt 59 = .ok (.iadd, 1) by decide +kernel) q31 ?_
          obtain ⟨q32, h⟩ := h
          obtain ⟨q33, h⟩ := h
          obtain ⟨q34, h⟩ := h
          refine go_iaload (show decode cX10_zoneAt 60 = .ok (.iaload, 1) by decide +kernel) q32 q33 q34 ?_
          refine go_i2l (show decode cX10_zoneAt 61 = .ok (.i2l, 1) by decide +kernel) ?_
          exact go_lret (show decode cX10_zoneAt 62 = .ok (.lreturn, 1) by decide +kernel) rfl h
      · have h := hf hc
        refine go_ldc2 (show decode cX10_zoneAt 42 = .ok (.ldc2_w 311, 3) by decide +kernel) lc_X10_311 (by decide) ?_
        exact go_lret (show decode cX10_zoneAt 45 = .ok (.lreturn, 1) by decide +kernel) rfl h
    · have h := hf hc
      refine go_ldc2 (show decode cX10_zoneAt 29 = .ok (.ldc2_w 174, 3) by decide +kernel) lc_X10_174 (by decide) ?_
      exact go_lret (show decode cX10_zoneAt 32 = .ok (.lreturn, 1) by decide +kernel) rfl h
def V_X10_begin_55 (d : Nat) (S : AS) (F : AF) (G : AG) (Q : AQ) (a0 : Nat) (a1 : Int) : Prop :=
  ((3 ≤ a1) →
    (sK S a0 = 10) ∧
    (sK S (sR S a0 12) = 20) ∧
    ((0 : Int) ≤ F a0 11) ∧
    ((F a0 11 : Int) < (sN S (sR S a0 12) : Int)) ∧
    ∀ G5 : AG, G5 = gu G (sR S a0 12) (F a0 11) 0 →
    (r32 ((F a0 11) + 1)) ∧
    ∀ F7 : AF, F7 = fu F a0 11 ((F a0 11) + 1) →
    Q (some (vI (F7 a0 11))) S F7 G5) ∧
  ((¬ 3 ≤ a1) →
    (sK S a0 = 10) ∧
    (r32 (3 * (F a0 11))) ∧
    (r32 ((3 * (F a0 11)) + a1)) ∧
    (sK S (sR S a0 9) = 21) ∧
    ((0 : Int) ≤ a1) ∧
    ((a1 : Int) < (sN S (sR S a0 9) : Int)) ∧
    (sK S (sR S a0 10) = 21) ∧
    ((0 : Int) ≤ (3 * (F a0 11)) + a1) ∧
    (((3 * (F a0 11)) + a1 : Int) < (sN S (sR S a0 10) : Int)) ∧
    ∀ G17 : AG, G17 = gu G (sR S a0 10) ((3 * (F a0 11)) + a1) (G (sR S a0 9) a1) →
    (r32 (a1 + 1)) ∧
    Go d MX10_begin 55 [some (vR a0), some (vI (a1 + 1))] [] S F G17 Q)
theorem R_X10_begin_55 {d : Nat} {S : AS} {F : AF} {G : AG} {Q : AQ} {a0 : Nat} {a1 : Int} (h : V_X10_begin_55 d S F G Q a0 a1) : Go d MX10_begin 55 [some (vR a0), some (vI a1)] [] S F G Q := by
  unfold V_X10_begin_55 at h
  refine go_iload_n (show decode cX10_begin 55 = .ok (.iload_n 1, 1) by decide +kernel) (by rfl) ?_
  refine go_iconst (show decode cX10_begin 56 = .ok (.iconst 3, 1) by decide +kernel) (by decide) ?_
  obtain ⟨ht, hf⟩ := h
  refine go_icmpge (tgt := 85) (show decode cX10_begin 57 = .ok (.if_icmp .ge 28, 3) by decide +kernel) (by decide) (fun hc => ?_) (fun hc => ?_)
  · have h := ht hc
    refine go_aload_n (show decode cX10_begin 85 = .ok (.aload_n 0, 1) by decide +kernel) (by rfl) ?_
    obtain ⟨q1, h⟩ := h
    refine go_getR (show decode cX10_begin 86 = .ok (.getfield 49, 3) by decide +kernel) fl_X10_49 rfl q1 ?_
    refine go_aload_n (show decode cX10_begin 89 = .ok (.aload_n 0, 1) by decide +kernel) (by rfl) ?_
    refine go_getI (show decode cX10_begin 90 = .ok (.getfield 108, 3) by decide +kernel) fl_X10_108 (Or.inl rfl) q1 ?_
    refine go_iconst (show decode cX10_begin 93 = .ok (.iconst 0, 1) by decide +kernel) (by decide) ?_
    obtain ⟨q2, h⟩ := h
    obtain ⟨q3, h⟩ := h
    obtain ⟨q4, h⟩ := h
    refine go_iastore (show decode cX10_begin 94 = .ok (.iastore, 1) by decide +kernel) q2 q3 q4  ?_
    obtain ⟨G5, G5e⟩ : ∃ G5 : AG, G5 = gu G (sR S a0 12) (F a0 11) 0 := ⟨_, rfl⟩
    have h := h G5 G5e
    rw [← G5e]
    refine go_aload_n (show decode cX10_begin 95 = .ok (.aload_n 0, 1) by decide +kernel) (by rfl) ?_
    refine go_dup (show decode cX10_begin 96 = .ok (.dup, 1) by decide +kernel) ?_
    refine go_getI (show decode cX10_begin 97 = .ok (.getfield 108, 3) by decide +kernel) fl_X10_108 (Or.inl rfl) q1 ?_
    refine go_iconst (show decode cX10_begin 100 = .ok (.iconst 1, 1) by decide +kernel) (by decide) ?_
    obtain ⟨q6, h⟩ := h
    refine go_iadd (show decode cX10_begin 101 = .ok (.iadd, 1) by decide +kernel) q6 ?_
    refine go_putI (show decode cX10_begin 102 = .ok (.putfield 108, 3) by decide +kernel) fl_X10_108 rfl (Or.inl rfl) q1 ?_
    obtain ⟨F7, F7e⟩ : ∃ F7 : AF, F7 = fu F a0 11 ((F a0 11) + 1) := ⟨_, rfl⟩
    have h := h F7 F7e
    rw [← F7e]
    refine go_aload_n (show decode cX10_begin 105 = .ok (.aload_n 0, 1) by decide +kernel) (by rfl) ?_
    refine go_getI (show decode cX10_begin 106 = .ok (.getfield 108, 3) by decide +kernel) fl_X10_108 (Or.inl rfl) q1 ?_
    exact go_iret (show decode cX10_begin 109 = .ok (.ireturn, 1) by decide +kernel) rfl h
  · have h := hf hc
    refine go_aload_n (show decode cX10_begin 60 = .ok (.aload_n 0, 1) by decide +kernel) (by rfl) ?_
    obtain ⟨q8, h⟩ := h
    refine go_getR (show decode cX10_begin 61 = .ok (.getfield 46, 3) by decide +kernel) fl_X10_46 rfl q8 ?_
    refine go_iconst (show decode cX10_begin 64 = .ok (.iconst 3, 1) by decide +kernel) (by decide) ?_
    refine go_aload_n (show decode cX10_begin 65 = .ok (.aload_n 0, 1) by decide +kernel) (by rfl) ?_
    refine go_getI (show decode cX10_begin 66 = .ok (.getfield 108, 3) by decide +kernel) fl_X10_108 (Or.inl rfl) q8 ?_
    obtain ⟨q9, h⟩ := h
    refine go_imul (show decode cX10_begin 69 = .ok (.imul, 1) by decide +kernel) q9 ?_
    refine go_iload_n (show decode cX10_begin 70 = .ok (.iload_n 1, 1) by decide +kernel) (by rfl) ?_
    obtain ⟨q10, h⟩ := h
    refine go_iadd (show decode cX10_begin 71 = .ok (.iadd, 1) by decide +kernel) q10 ?_
    refine go_aload_n (show decode cX10_begin 72 = .ok (.aload_n 0, 1) by decide +kernel) (by rfl) ?_
    refine go_getR (show decode cX10_begin 73 = .ok (.getfield 43, 3) by decide +kernel) fl_X10_43 rfl q8 ?_
    refine go_iload_n (show decode cX10_begin 76 = .ok (.iload_n 1, 1) by decide +kernel) (by rfl) ?_
    obtain ⟨q11, h⟩ := h
    obtain ⟨q12, h⟩ := h
    obtain ⟨q13, h⟩ := h
    refine go_laload (show decode cX10_begin 77 = .ok (.laload, 1) by decide +kernel) q11 q12 q13 ?_
    obtain ⟨q14, h⟩ := h
    obtain ⟨q15, h⟩ := h
    obtain ⟨q16, h⟩ := h
    refine go_lastore (show decode cX10_begin 78 = .ok (.lastore, 1) by decide +kernel) q14 q15 q16  ?_
    obtain ⟨G17, G17e⟩ : ∃ G17 : AG, G17 = gu G (sR S a0 10) ((3 * (F a0 11)) + a1) (G (sR S a0 9) a1) := ⟨_, rfl⟩
    have h := h G17 G17e
    rw [← G17e]
    obtain ⟨q18, h⟩ := h
    refine go_iinc (show decode cX10_begin 79 = .ok (.iinc 1 1, 3) by decide +kernel) (by rfl) q18 (by decide) ?_
    show Go d MX10_begin 82 [some (vR a0), some (vI (a1 + 1))] [] S F G17 Q
    refine go_goto (tgt := 55) (show decode cX10_begin 82 = .ok (.goto (-27), 3) by decide +kernel) (by decide) ?_
    exact h
def V_X10_begin_19 (d : Nat) (S : AS) (F : AF) (G : AG) (Q : AQ) (a0 : Nat) (a1 : Int) : Prop :=
  ((6912 ≤ a1) →
    Go d MX10_begin 55 [some (vR a0), some (vI 0)] [] S F G Q) ∧
  ((¬ 6912 ≤ a1) →
    (sK S a0 = 10) ∧
    (r32 (6912 * (F a0 11))) ∧
    (r32 ((6912 * (F a0 11)) + a1)) ∧
    (sK S (sR S a0 7) = 21) ∧
    ((0 : Int) ≤ a1) ∧
    ((a1 : Int) < (sN S (sR S a0 7) : Int)) ∧
    (sK S (sR S a0 8) = 21) ∧
    ((0 : Int) ≤ (6912 * (F a0 11)) + a1) ∧
    (((6912 * (F a0 11)) + a1 : Int) < (sN S (sR S a0 8) : Int)) ∧
    ∀ G10 : AG, G10 = gu G (sR S a0 8) ((6912 * (F a0 11)) + a1) (G (sR S a0 7) a1) →
    (r32 (a1 + 1)) ∧
    Go d MX10_begin 19 [some (vR a0), some (vI (a1 + 1))] [] S F G10 Q)
theorem R_X10_begin_19 {d : Nat} {S : AS} {F : AF} {G : AG} {Q : AQ} {a0 : Nat} {a1 : Int} (h : V_X10_begin_19 d S F G Q a0 a1) : Go d MX10_begin 19 [some (vR a0), some (vI a1)] [] S F G Q := by
  unfold V_X10_begin_19 at h
  refine go_iload_n (show decode cX10_begin 19 = .ok (.iload_n 1, 1) by decide +kernel) (by rfl) ?_
  refine go_sipush (show decode cX10_begin 20 = .ok (.sipush 6912, 3) by decide +kernel) (by decide) ?_
  obtain ⟨ht, hf⟩ := h
  refine go_icmpge (tgt := 53) (show decode cX10_begin 23 = .ok (.if_icmp .ge 30, 3) by decide +kernel) (by decide) (fun hc => ?_) (fun hc => ?_)
  · have h := ht hc
    refine go_iconst (show decode cX10_begin 53 = .ok (.iconst 0, 1) by decide +kernel) (by decide) ?_
    refine go_istore_n (show decode cX10_begin 54 = .ok (.istore_n 1, 1) by decide +kernel) (by decide) ?_
    show Go d MX10_begin 55 [some (vR a0), some (vI 0)] [] S F G Q
    exact h
  · have h := hf hc
    refine go_aload_n (show decode cX10_begin 26 = .ok (.aload_n 0, 1) by decide +kernel) (by rfl) ?_
    obtain ⟨q1, h⟩ := h
    refine go_getR (show decode cX10_begin 27 = .ok (.getfield 40, 3) by decide +kernel) fl_X10_40 rfl q1 ?_
    refine go_sipush (show decode cX10_begin 30 = .ok (.sipush 6912, 3) by decide +kernel) (by decide) ?_
    refine go_aload_n (show decode cX10_begin 33 = .ok (.aload_n 0, 1) by decide +kernel) (by rfl) ?_
    refine go_getI (show decode cX10_begin 34 = .ok (.getfield 108, 3) by decide +kernel) fl_X10_108 (Or.inl rfl) q1 ?_
    obtain ⟨q2, h⟩ := h
    refine go_imul (show decode cX10_begin 37 = .ok (.imul, 1) by decide +kernel) q2 ?_
    refine go_iload_n (show decode cX10_begin 38 = .ok (.iload_n 1, 1) by decide +kernel) (by rfl) ?_
    obtain ⟨q3, h⟩ := h
    refine go_iadd (show decode cX10_begin 39 = .ok (.iadd, 1) by decide +kernel) q3 ?_
    refine go_aload_n (show decode cX10_begin 40 = .ok (.aload_n 0, 1) by decide +kernel) (by rfl) ?_
    refine go_getR (show decode cX10_begin 41 = .ok (.getfield 35, 3) by decide +kernel) fl_X10_35 rfl q1 ?_
    refine go_iload_n (show decode cX10_begin 44 = .ok (.iload_n 1, 1) by decide +kernel) (by rfl) ?_
    obtain ⟨q4, h⟩ := h
    obtain ⟨q5, h⟩ := h
    obtain ⟨q6, h⟩ := h
    refine go_laload (show decode cX10_begin 45 = .ok (.laload, 1) by decide +kernel) q4 q5 q6 ?_
    obtain ⟨q7, h⟩ := h
    obtain ⟨q8, h⟩ := h
    obtain ⟨q9, h⟩ := h
    refine go_lastore (show decode cX10_begin 46 = .ok (.lastore, 1) by decide +kernel) q7 q8 q9  ?_
    obtain ⟨G10, G10e⟩ : ∃ G10 : AG, G10 = gu G (sR S a0 8) ((6912 * (F a0 11)) + a1) (G (sR S a0 7) a1) := ⟨_, rfl⟩
    have h := h G10 G10e
    rw [← G10e]
    obtain ⟨q11, h⟩ := h
    refine go_iinc (show decode cX10_begin 47 = .ok (.iinc 1 1, 3) by decide +kernel) (by rfl) q11 (by decide) ?_
    show Go d MX10_begin 50 [some (vR a0), some (vI (a1 + 1))] [] S F G10 Q
    refine go_goto (tgt := 19) (show decode cX10_begin 50 = .ok (.goto (-31), 3) by decide +kernel) (by decide) ?_
    exact h
def V_X10_begin_0 (d : Nat) (S : AS) (F : AF) (G : AG) (Q : AQ) (a0 : Nat) : Prop :=
  (sK S a0 = 10) ∧
  ∀ F2 : AF, F2 = fu F a0 0 0 →
  ((¬ F2 a0 11 = 8) →
    Go d MX10_begin 19 [some (vR a0), some (vI 0)] [] S F2 G Q) ∧
  ((F2 a0 11 = 8) →
    Q (some (vI (-4))) S F2 G)
theorem R_X10_begin_0 {d : Nat} {S : AS} {F : AF} {G : AG} {Q : AQ} {a0 : Nat} (h : V_X10_begin_0 d S F G Q a0) : Go d MX10_begin 0 [some (vR a0), none] [] S F G Q := by
  unfold V_X10_begin_0 at h
  refine go_aload_n (show decode cX10_begin 0 = .ok (.aload_n 0, 1) by decide +kernel) (by rfl) ?_
  refine go_iconst (show decode cX10_begin 1 = .ok (.iconst 0, 1) by decide +kernel) (by decide) ?_
  obtain ⟨q1, h⟩ := h
  refine go_putI (show decode cX10_begin 2 = .ok (.putfield 1, 3) by decide +kernel) fl_X10_1 rfl (Or.inl rfl) q1 ?_
  obtain ⟨F2, F2e⟩ : ∃ F2 : AF, F2 = fu F a0 0 0 := ⟨_, rfl⟩
  have h := h F2 F2e
  rw [← F2e]
  refine go_aload_n (show decode cX10_begin 5 = .ok (.aload_n 0, 1) by decide +kernel) (by rfl) ?_
  refine go_getI (show decode cX10_begin 6 = .ok (.getfield 108, 3) by decide +kernel) fl_X10_108 (Or.inl rfl) q1 ?_
  refine go_bipush (show decode cX10_begin 9 = .ok (.bipush 8, 2) by decide +kernel) (by decide) ?_
  obtain ⟨ht, hf⟩ := h
  refine go_icmpne (tgt := 17) (show decode cX10_begin 11 = .ok (.if_icmp .ne 6, 3) by decide +kernel) (by decide) (fun hc => ?_) (fun hc => ?_)
  · have h := ht hc
    refine go_iconst (show decode cX10_begin 17 = .ok (.iconst 0, 1) by decide +kernel) (by decide) ?_
    refine go_istore_n (show decode cX10_begin 18 = .ok (.istore_n 1, 1) by decide +kernel) (by decide) ?_
    show Go d MX10_begin 19 [some (vR a0), some (vI 0)] [] S F2 G Q
    exact h
  · have h := hf hc
    refine go_bipush (show decode cX10_begin 14 = .ok (.bipush (-4), 2) by decide +kernel) (by decide) ?_
    exact go_iret (show decode cX10_begin 16 = .ok (.ireturn, 1) by decide +kernel) rfl h
def V_X10_commit_0 (d : Nat) (S : AS) (F : AF) (G : AG) (Q : AQ) (a0 : Nat) : Prop :=
  (sK S a0 = 10) ∧
  ∀ F2 : AF, F2 = fu F a0 0 0 →
  ((¬ F2 a0 11 = 0) →
    (r32 ((F2 a0 11) - 1)) ∧
    ∀ F4 : AF, F4 = fu F2 a0 11 ((F2 a0 11) - 1) →
    ((F4 a0 11 ≤ 0) →
      Q (some (vI (F4 a0 11))) S F4 G) ∧
    ((¬ F4 a0 11 ≤ 0) →
      (r32 ((F4 a0 11) - 1)) ∧
      (sK S (sR S a0 12) = 20) ∧
      ((0 : Int) ≤ (F4 a0 11) - 1) ∧
      (((F4 a0 11) - 1 : Int) < (sN S (sR S a0 12) : Int)) ∧
      ((0 : Int) ≤ F4 a0 11) ∧
      ((F4 a0 11 : Int) < (sN S (sR S a0 12) : Int)) ∧
      (r32 ((G (sR S a0 12) ((F4 a0 11) - 1)) + (G (sR S a0 12) (F4 a0 11)))) ∧
      ∀ G12 : AG, G12 = gu G (sR S a0 12) ((F4 a0 11) - 1) ((G (sR S a0 12) ((F4 a0 11) - 1)) + (G (sR S a0 12) (F4 a0 11))) →
      Q (some (vI (F4 a0 11))) S F4 G12)) ∧
  ((F2 a0 11 = 0) →
    Q (some (vI (-8))) S F2 G)
theorem R_X10_commit_0 {d : Nat} {S : AS} {F : AF} {G : AG} {Q : AQ} {a0 : Nat} (h : V_X10_commit_0 d S F G Q a0) : Go d MX10_commit 0 [some (vR a0)] [] S F G Q := by
  unfold V_X10_commit_0 at h
  refine go_aload_n (show decode cX10_commit 0 = .ok (.aload_n 0, 1) by decide +kernel) (by rfl) ?_
  refine go_iconst (show decode cX10_commit 1 = .ok (.iconst 0, 1) by decide +kernel) (by decide) ?_
  obtain ⟨q1, h⟩ := h
  refine go_putI (show decode cX10_commit 2 = .ok (.putfield 1, 3) by decide +kernel) fl_X10_1 rfl (Or.inl rfl) q1 ?_
  obtain ⟨F2, F2e⟩ : ∃ F2 : AF, F2 = fu F a0 0 0 := ⟨_, rfl⟩
  have h := h F2 F2e
  rw [← F2e]
  refine go_aload_n (show decode cX10_commit 5 = .ok (.aload_n 0, 1) by decide +kernel) (by rfl) ?_
  refine go_getI (show decode cX10_commit 6 = .ok (.getfield 108, 3) by decide +kernel) fl_X10_108 (Or.inl rfl) q1 ?_
  obtain ⟨ht, hf⟩ := h
  refine go_ifne (tgt := 15) (show decode cX10_commit 9 = .ok (.ifCond .ne 6, 3) by decide +kernel) (by decide) (fun hc => ?_) (fun hc => ?_)
  · have h := ht hc
    refine go_aload_n (show decode cX10_commit 15 = .ok (.aload_n 0, 1) by decide +kernel) (by rfl) ?_
    refine go_dup (show decode cX10_commit 16 = .ok (.dup, 1) by decide +kernel) ?_
    refine go_getI (show decode cX10_commit 17 = .ok (.getfield 108, 3) by decide +kernel) fl_X10_108 (Or.inl rfl) q1 ?_
    refine go_iconst (show decode cX10_commit 20 = .ok (.iconst 1, 1) by decide +kernel) (by decide) ?_
    obtain ⟨q3, h⟩ := h
    refine go_isub (show decode cX10_commit 21 = .ok (.isub, 1) by decide +kernel) q3 ?_
    refine go_putI (show decode cX10_commit 22 = .ok (.putfield 108, 3) by decide +kernel) fl_X10_108 rfl (Or.inl rfl) q1 ?_
    obtain ⟨F4, F4e⟩ : ∃ F4 : AF, F4 = fu F2 a0 11 ((F2 a0 11) - 1) := ⟨_, rfl⟩
    have h := h F4 F4e
    rw [← F4e]
    refine go_aload_n (show decode cX10_commit 25 = .ok (.aload_n 0, 1) by decide +kernel) (by rfl) ?_
    refine go_getI (show decode cX10_commit 26 = .ok (.getfield 108, 3) by decide +kernel) fl_X10_108 (Or.inl rfl) q1 ?_
    obtain ⟨ht, hf⟩ := h
    refine go_ifle (tgt := 55) (show decode cX10_commit 29 = .ok (.ifCond .le 26, 3) by decide +kernel) (by decide) (fun hc => ?_) (fun hc => ?_)
    · have h := ht hc
      refine go_aload_n (show decode cX10_commit 55 = .ok (.aload_n 0, 1) by decide +kernel) (by rfl) ?_
      refine go_getI (show decode cX10_commit 56 = .ok (.getfield 108, 3) by decide +kernel) fl_X10_108 (Or.inl rfl) q1 ?_
      exact go_iret (show decode cX10_commit 59 = .ok (.ireturn, 1) by decide +kernel) rfl h
    · have h := hf hc
      refine go_aload_n (show decode cX10_commit 32 = .ok (.aload_n 0, 1) by decide +kernel) (by rfl) ?_
      refine go_getR (show decode cX10_commit 33 = .ok (.getfield 49, 3) by decide +kernel) fl_X10_49 rfl q1 ?_
      refine go_aload_n (show decode cX10_commit 36 = .ok (.aload_n 0, 1) by decide +kernel) (by rfl) ?_
      refine go_getI (show decode cX10_commit 37 = .ok (.getfield 108, 3) by decide +kernel) fl_X10_108 (Or.inl rfl) q1 ?_
      refine go_iconst (show decode cX10_commit 40 = .ok (.iconst 1, 1) by decide +kernel) (by decide) ?_
      obtain ⟨q5, h⟩ := h
      refine go_isub (show decode cX10_commit 41 = .ok (.isub, 1) by decide +kernel) q5 ?_
      refine go_dup2 (show decode cX10_commit 42 = .ok (.dup2, 1) by decide +kernel) ?_
      obtain ⟨q6, h⟩ := h
      obtain ⟨q7, h⟩ := h
      obtain ⟨q8, h⟩ := h
      refine go_iaload (show decode cX10_commit 43 = .ok (.iaload, 1) by decide +kernel) q6 q7 q8 ?_
      refine go_aload_n (show decode cX10_commit 44 = .ok (.aload_n 0, 1) by decide +kernel) (by rfl) ?_
      refine go_getR (show decode cX10_commit 45 = .ok (.getfield 49, 3) by decide +kernel) fl_X10_49 rfl q1 ?_
      refine go_aload_n (show decode cX10_commit 48 = .ok (.aload_n 0, 1) by decide +kernel) (by rfl) ?_
      refine go_getI (show decode cX10_commit 49 = .ok (.getfield 108, 3) by decide +kernel) fl_X10_108 (Or.inl rfl) q1 ?_
      obtain ⟨q9, h⟩ := h
      obtain ⟨q10, h⟩ := h
      refine go_iaload (show decode cX10_commit 52 = .ok (.iaload, 1) by decide +kernel) q6 q9 q10 ?_
      obtain ⟨q11, h⟩ := h
      refine go_iadd (show decode cX10_commit 53 = .ok (.iadd, 1) by decide +kernel) q11 ?_
      refine go_iastore (show decode cX10_commit 54 = .ok (.iastore, 1) by decide +kernel) q6 q7 q8  ?_
      obtain ⟨G12, G12e⟩ : ∃ G12 : AG, G12 = gu G (sR S a0 12) ((F4 a0 11) - 1) ((G (sR S a0 12) ((F4 a0 11) - 1)) + (G (sR S a0 12) (F4 a0 11))) := ⟨_, rfl⟩
      have h := h G12 G12e
      rw [← G12e]
      refine go_aload_n (show decode cX10_commit 55 = .ok (.aload_n 0, 1) by decide +kernel) (by rfl) ?_
      refine go_getI (show decode cX10_commit 56 = .ok (.getfield 108, 3) by decide +kernel) fl_X10_108 (Or.inl rfl) q1 ?_
      exact go_iret (show decode cX10_commit 59 = .ok (.ireturn, 1) by decide +kernel) rfl h
  · have h := hf hc
    refine go_bipush (show decode cX10_commit 12 = .ok (.bipush (-8), 2) by decide +kernel) (by decide) ?_
    exact go_iret (show decode cX10_commit 14 = .ok (.ireturn, 1) by decide +kernel) rfl h
def V_X10_cancel_128 (d : Nat) (S : AS) (F : AF) (G : AG) (Q : AQ) (a0 : Nat) (a1 : Int) (s0 : Int) (s1 : Nat) : Prop :=
  (sK S s1 = 10) ∧
  ∀ F2 : AF, F2 = fu F s1 14 s0 →
  (sK S a0 = 10) ∧
  (sK S (sR S a0 12) = 20) ∧
  ((0 : Int) ≤ F2 a0 11) ∧
  ((F2 a0 11 : Int) < (sN S (sR S a0 12) : Int)) ∧
  Q (some (vI (G (sR S a0 12) (F2 a0 11)))) S F2 G
theorem R_X10_cancel_128 {d : Nat} {S : AS} {F : AF} {G : AG} {Q : AQ} {a0 : Nat} {a1 : Int} {s0 : Int} {s1 : Nat} (h : V_X10_cancel_128 d S F G Q a0 a1 s0 s1) : Go d MX10_cancel 128 [some (vR a0), some (vI a1)] [vI s0, vR s1] S F G Q := by
  unfold V_X10_cancel_128 at h
  obtain ⟨q1, h⟩ := h
  refine go_putI (show decode cX10_cancel 128 = .ok (.putfield 111, 3) by decide +kernel) fl_X10_111 rfl (Or.inl rfl) q1 ?_
  obtain ⟨F2, F2e⟩ : ∃ F2 : AF, F2 = fu F s1 14 s0 := ⟨_, rfl⟩
  have h := h F2 F2e
  rw [← F2e]
  refine go_aload_n (show decode cX10_cancel 131 = .ok (.aload_n 0, 1) by decide +kernel) (by rfl) ?_
  obtain ⟨q3, h⟩ := h
  refine go_getR (show decode cX10_cancel 132 = .ok (.getfield 49, 3) by decide +kernel) fl_X10_49 rfl q3 ?_
  refine go_aload_n (show decode cX10_cancel 135 = .ok (.aload_n 0, 1) by decide +kernel) (by rfl) ?_
  refine go_getI (show decode cX10_cancel 136 = .ok (.getfield 108, 3) by decide +kernel) fl_X10_108 (Or.inl rfl) q3 ?_
  obtain ⟨q4, h⟩ := h
  obtain ⟨q5, h⟩ := h
  obtain ⟨q6, h⟩ := h
  refine go_iaload (show decode cX10_cancel 139 = .ok (.iaload, 1) by decide +kernel) q4 q5 q6 ?_
  exact go_iret (show decode cX10_cancel 140 = .ok (.ireturn, 1) by decide +kernel) rfl h
def V_X10_cancel_63 (d : Nat) (S : AS) (F : AF) (G : AG) (Q : AQ) (a0 : Nat) (a1 : Int) : Prop :=
  ((3 ≤ a1) →
    (sK S a0 = 10) ∧
    (sK S (sR S a0 12) = 20) ∧
    ((0 : Int) ≤ F a0 11) ∧
    ((F a0 11 : Int) < (sN S (sR S a0 12) : Int)) ∧
    ((G (sR S a0 12) (F a0 11) ≤ F a0 14) →
      (r32 ((F a0 14) - (G (sR S a0 12) (F a0 11)))) ∧
      V_X10_cancel_128 d S F G Q a0 a1 ((F a0 14) - (G (sR S a0 12) (F a0 11))) a0) ∧
    ((¬ G (sR S a0 12) (F a0 11) ≤ F a0 14) →
      V_X10_cancel_128 d S F G Q a0 a1 0 a0)) ∧
  ((¬ 3 ≤ a1) →
    (sK S a0 = 10) ∧
    (r32 (3 * (F a0 11))) ∧
    (r32 ((3 * (F a0 11)) + a1)) ∧
    (sK S (sR S a0 10) = 21) ∧
    ((0 : Int) ≤ (3 * (F a0 11)) + a1) ∧
    (((3 * (F a0 11)) + a1 : Int) < (sN S (sR S a0 10) : Int)) ∧
    (sK S (sR S a0 9) = 21) ∧
    ((0 : Int) ≤ a1) ∧
    ((a1 : Int) < (sN S (sR S a0 9) : Int)) ∧
    ∀ G15 : AG, G15 = gu G (sR S a0 9) a1 (G (sR S a0 10) ((3 * (F a0 11)) + a1)) →
    (r32 (a1 + 1)) ∧
    Go d MX10_cancel 63 [some (vR a0), some (vI (a1 + 1))] [] S F G15 Q)
theorem R_X10_cancel_63 {d : Nat} {S : AS} {F : AF} {G : AG} {Q : AQ} {a0 : Nat} {a1 : Int} (h : V_X10_cancel_63 d S F G Q a0 a1) : Go d MX10_cancel 63 [some (vR a0), some (vI a1)] [] S F G Q := by
  unfold V_X10_cancel_63 at h
  refine go_iload_n (show decode cX10_cancel 63 = .ok (.iload_n 1, 1) by decide +kernel) (by rfl) ?_
  refine go_iconst (show decode cX10_cancel 64 = .ok (.iconst 3, 1) by decide +kernel) (by decide) ?_
  obtain ⟨ht, hf⟩ := h
  refine go_icmpge (tgt := 93) (show decode cX10_cancel 65 = .ok (.if_icmp .ge 28, 3) by decide +kernel) (by decide) (fun hc => ?_) (fun hc => ?_)
  · have h := ht hc
    refine go_aload_n (show decode cX10_cancel 93 = .ok (.aload_n 0, 1) by decide +kernel) (by rfl) ?_
    refine go_aload_n (show decode cX10_cancel 94 = .ok (.aload_n 0, 1) by decide +kernel) (by rfl) ?_
    obtain ⟨q1, h⟩ := h
    refine go_getR (show decode cX10_cancel 95 = .ok (.getfield 49, 3) by decide +kernel) fl_X10_49 rfl q1 ?_
    refine go_aload_n (show decode cX10_cancel 98 = .ok (.aload_n 0, 1) by decide +kernel) (by rfl) ?_
    refine go_getI (show decode cX10_cancel 99 = .ok (.getfield 108, 3) by decide +kernel) fl_X10_108 (Or.inl rfl) q1 ?_
    obtain ⟨q2, h⟩ := h
    obtain ⟨q3, h⟩ := h
    obtain ⟨q4, h⟩ := h
    refine go_iaload (show decode cX10_cancel 102 = .ok (.iaload, 1) by decide +kernel) q2 q3 q4 ?_
    refine go_aload_n (show decode cX10_cancel 103 = .ok (.aload_n 0, 1) by decide +kernel) (by rfl) ?_
    refine go_getI (show decode cX10_cancel 104 = .ok (.getfield 111, 3) by decide +kernel) fl_X10_111 (Or.inl rfl) q1 ?_
    obtain ⟨ht, hf⟩ := h
    refine go_icmple (tgt := 114) (show decode cX10_cancel 107 = .ok (.if_icmp .le 7, 3) by decide +kernel) (by decide) (fun hc => ?_) (fun hc => ?_)
    · have h := ht hc
      refine go_aload_n (show decode cX10_cancel 114 = .ok (.aload_n 0, 1) by decide +kernel) (by rfl) ?_
      refine go_getI (show decode cX10_cancel 115 = .ok (.getfield 111, 3) by decide +kernel) fl_X10_111 (Or.inl rfl) q1 ?_
      refine go_aload_n (show decode cX10_cancel 118 = .ok (.aload_n 0, 1) by decide +kernel) (by rfl) ?_
      refine go_getR (show decode cX10_cancel 119 = .ok (.getfield 49, 3) by decide +kernel) fl_X10_49 rfl q1 ?_
      refine go_aload_n (show decode cX10_cancel 122 = .ok (.aload_n 0, 1) by decide +kernel) (by rfl) ?_
      refine go_getI (show decode cX10_cancel 123 = .ok (.getfield 108, 3) by decide +kernel) fl_X10_108 (Or.inl rfl) q1 ?_
      refine go_iaload (show decode cX10_cancel 126 = .ok (.iaload, 1) by decide +kernel) q2 q3 q4 ?_
      obtain ⟨q5, h⟩ := h
      refine go_isub (show decode cX10_cancel 127 = .ok (.isub, 1) by decide +kernel) q5 ?_
      exact R_X10_cancel_128 h
    · have h := hf hc
      refine go_iconst (show decode cX10_cancel 110 = .ok (.iconst 0, 1) by decide +kernel) (by decide) ?_
      refine go_goto (tgt := 128) (show decode cX10_cancel 111 = .ok (.goto 17, 3) by decide +kernel) (by decide) ?_
      exact R_X10_cancel_128 h
  · have h := hf hc
    refine go_aload_n (show decode cX10_cancel 68 = .ok (.aload_n 0, 1) by decide +kernel) (by rfl) ?_
    obtain ⟨q6, h⟩ := h
    refine go_getR (show decode cX10_cancel 69 = .ok (.getfield 43, 3) by decide +kernel) fl_X10_43 rfl q6 ?_
    refine go_iload_n (show decode cX10_cancel 72 = .ok (.iload_n 1, 1) by decide +kernel) (by rfl) ?_
    refine go_aload_n (show decode cX10_cancel 73 = .ok (.aload_n 0, 1) by decide +kernel) (by rfl) ?_
    refine go_getR (show decode cX10_cancel 74 = .ok (.getfield 46, 3) by decide +kernel) fl_X10_46 rfl q6 ?_
    refine go_iconst (show decode cX10_cancel 77 = .ok (.iconst 3, 1) by decide +kernel) (by decide) ?_
    refine go_aload_n (show decode cX10_cancel 78 = .ok (.aload_n 0, 1) by decide +kernel) (by rfl) ?_
    refine go_getI (show decode cX10_cancel 79 = .ok (.getfield 108, 3) by decide +kernel) fl_X10_108 (Or.inl rfl) q6 ?_
    obtain ⟨q7, h⟩ := h
    refine go_imul (show decode cX10_cancel 82 = .ok (.imul, 1) by decide +kernel) q7 ?_
    refine go_iload_n (show decode cX10_cancel 83 = .ok (.iload_n 1, 1) by decide +kernel) (by rfl) ?_
    obtain ⟨q8, h⟩ := h
    refine go_iadd (show decode cX10_cancel 84 = .ok (.iadd, 1) by decide +kernel) q8 ?_
    obtain ⟨q9, h⟩ := h
    obtain ⟨q10, h⟩ := h
    obtain ⟨q11, h⟩ := h
    refine go_laload (show decode cX10_cancel 85 = .ok (.laload, 1) by decide +kernel) q9 q10 q11 ?_
    obtain ⟨q12, h⟩ := h
    obtain ⟨q13, h⟩ := h
    obtain ⟨q14, h⟩ := h
    refine go_lastore (show decode cX10_cancel 86 = .ok (.lastore, 1) by decide +kernel) q12 q13 q14  ?_
    obtain ⟨G15, G15e⟩ : ∃ G15 : AG, G15 = gu G (sR S a0 9) a1 (G (sR S a0 10) ((3 * (F a0 11)) + a1)) := ⟨_, rfl⟩
    have h := h G15 G15e
    rw [← G15e]
    obtain ⟨q16, h⟩ := h
    refine go_iinc (show decode cX10_cancel 87 = .ok (.iinc 1 1, 3) by decide +kernel) (by rfl) q16 (by decide) ?_
    show Go d MX10_cancel 90 [some (vR a0), some (vI (a1 + 1))] [] S F G15 Q
    refine go_goto (tgt := 63) (show decode cX10_cancel 90 = .ok (.goto (-27), 3) by decide +kernel) (by decide) ?_
    exact h
def V_X10_cancel_27 (d : Nat) (S : AS) (F : AF) (G : AG) (Q : AQ) (a0 : Nat) (a1 : Int) : Prop :=
  ((6912 ≤ a1) →
    Go d MX10_cancel 63 [some (vR a0), some (vI 0)] [] S F G Q) ∧
  ((¬ 6912 ≤ a1) →
    (sK S a0 = 10) ∧
    (r32 (6912 * (F a0 11))) ∧
    (r32 ((6912 * (F a0 11)) + a1)) ∧
    (sK S (sR S a0 8) = 21) ∧
    ((0 : Int) ≤ (6912 * (F a0 11)) + a1) ∧
    (((6912 * (F a0 11)) + a1 : Int) < (sN S (sR S a0 8) : Int)) ∧
    (sK S (sR S a0 7) = 21) ∧
    ((0 : Int) ≤ a1) ∧
    ((a1 : Int) < (sN S (sR S a0 7) : Int)) ∧
    ∀ G10 : AG, G10 = gu G (sR S a0 7) a1 (G (sR S a0 8) ((6912 * (F a0 11)) + a1)) →
    (r32 (a1 + 1)) ∧
    Go d MX10_cancel 27 [some (vR a0), some (vI (a1 + 1))] [] S F G10 Q)
theorem R_X10_cancel_27 {d : Nat} {S : AS} {F : AF} {G : AG} {Q : AQ} {a0 : Nat} {a1 : Int} (h : V_X10_cancel_27 d S F G Q a0 a1) : Go d MX10_cancel 27 [some (vR a0), some (vI a1)] [] S F G Q := by
  unfold V_X10_cancel_27 at h
  refine go_iload_n (show decode cX10_cancel 27 = .ok (.iload_n 1, 1) by decide +kernel) (by rfl) ?_
  refine go_sipush (show decode cX10_cancel 28 = .ok (.sipush 6912, 3) by decide +kernel) (by decide) ?_
  obtain ⟨ht, hf⟩ := h
  refine go_icmpge (tgt := 61) (show decode cX10_cancel 31 = .ok (.if_icmp .ge 30, 3) by decide +kernel) (by decide) (fun hc => ?_) (fun hc => ?_)
  · have h := ht hc
    refine go_iconst (show decode cX10_cancel 61 = .ok (.iconst 0, 1) by decide +kernel) (by decide) ?_
    refine go_istore_n (show decode cX10_cancel 62 = .ok (.istore_n 1, 1) by decide +kernel) (by decide) ?_
    show Go d MX10_cancel 63 [some (vR a0), some (vI 0)] [] S F G Q
    exact h
  · have h := hf hc
    refine go_aload_n (show decode cX10_cancel 34 = .ok (.aload_n 0, 1) by decide +kernel) (by rfl) ?_
    obtain ⟨q1, h⟩ := h
    refine go_getR (show decode cX10_cancel 35 = .ok (.getfield 35, 3) by decide +kernel) fl_X10_35 rfl q1 ?_
    refine go_iload_n (show decode cX10_cancel 38 = .ok (.iload_n 1, 1) by decide +kernel) (by rfl) ?_
    refine go_aload_n (show decode cX10_cancel 39 = .ok (.aload_n 0, 1) by decide +kernel) (by rfl) ?_
    refine go_getR (show decode cX10_cancel 40 = .ok (.getfield 40, 3) by decide +kernel) fl_X10_40 rfl q1 ?_
    refine go_sipush (show decode cX10_cancel 43 = .ok (.sipush 6912, 3) by decide +kernel) (by decide) ?_
    refine go_aload_n (show decode cX10_cancel 46 = .ok (.aload_n 0, 1) by decide +kernel) (by rfl) ?_
    refine go_getI (show decode cX10_cancel 47 = .ok (.getfield 108, 3) by decide +kernel) fl_X10_108 (Or.inl rfl) q1 ?_
    obtain ⟨q2, h⟩ := h
    refine go_imul (show decode cX10_cancel 50 = .ok (.imul, 1) by decide +kernel) q2 ?_
    refine go_iload_n (show decode cX10_cancel 51 = .ok (.iload_n 1, 1) by decide +kernel) (by rfl) ?_
    obtain ⟨q3, h⟩ := h
    refine go_iadd (show decode cX10_cancel 52 = .ok (.iadd, 1) by decide +kernel) q3 ?_
    obtain ⟨q4, h⟩ := h
    obtain ⟨q5, h⟩ := h
    obtain ⟨q6, h⟩ := h
    refine go_laload (show decode cX10_cancel 53 = .ok (.laload, 1) by decide +kernel) q4 q5 q6 ?_
    obtain ⟨q7, h⟩ := h
    obtain ⟨q8, h⟩ := h
    obtain ⟨q9, h⟩ := h
    refine go_lastore (show decode cX10_cancel 54 = .ok (.lastore, 1) by decide +kernel) q7 q8 q9  ?_
    obtain ⟨G10, G10e⟩ : ∃ G10 : AG, G10 = gu G (sR S a0 7) a1 (G (sR S a0 8) ((6912 * (F a0 11)) + a1)) := ⟨_, rfl⟩
    have h := h G10 G10e
    rw [← G10e]
    obtain ⟨q11, h⟩ := h
    refine go_iinc (show decode cX10_cancel 55 = .ok (.iinc 1 1, 3) by decide +kernel) (by rfl) q11 (by decide) ?_
    show Go d MX10_cancel 58 [some (vR a0), some (vI (a1 + 1))] [] S F G10 Q
    refine go_goto (tgt := 27) (show decode cX10_cancel 58 = .ok (.goto (-31), 3) by decide +kernel) (by decide) ?_
    exact h
def V_X10_cancel_0 (d : Nat) (S : AS) (F : AF) (G : AG) (Q : AQ) (a0 : Nat) : Prop :=
  (sK S a0 = 10) ∧
  ∀ F2 : AF, F2 = fu F a0 0 0 →
  ((¬ F2 a0 11 = 0) →
    (r32 ((F2 a0 11) - 1)) ∧
    ∀ F4 : AF, F4 = fu F2 a0 11 ((F2 a0 11) - 1) →
    Go d MX10_cancel 27 [some (vR a0), some (vI 0)] [] S F4 G Q) ∧
  ((F2 a0 11 = 0) →
    Q (some (vI (-8))) S F2 G)
theorem R_X10_cancel_0 {d : Nat} {S : AS} {F : AF} {G : AG} {Q : AQ} {a0 : Nat} (h : V_X10_cancel_0 d S F G Q a0) : Go d MX10_cancel 0 [some (vR a0), none] [] S F G Q := by
  unfold V_X10_cancel_0 at h
  refine go_aload_n (show decode cX10_cancel 0 = .ok (.aload_n 0, 1) by decide +kernel) (by rfl) ?_
  refine go_iconst (show decode cX10_cancel 1 = .ok (.iconst 0, 1) by decide +kernel) (by decide) ?_
  obtain ⟨q1, h⟩ := h
  refine go_putI (show decode cX10_cancel 2 = .ok (.putfield 1, 3) by decide +kernel) fl_X10_1 rfl (Or.inl rfl) q1 ?_
  obtain ⟨F2, F2e⟩ : ∃ F2 : AF, F2 = fu F a0 0 0 := ⟨_, rfl⟩
  have h := h F2 F2e
  rw [← F2e]
  refine go_aload_n (show decode cX10_cancel 5 = .ok (.aload_n 0, 1) by decide +kernel) (by rfl) ?_
  refine go_getI (show decode cX10_cancel 6 = .ok (.getfield 108, 3) by decide +kernel) fl_X10_108 (Or.inl rfl) q1 ?_
  obtain ⟨ht, hf⟩ := h
  refine go_ifne (tgt := 15) (show decode cX10_cancel 9 = .ok (.ifCond .ne 6, 3) by decide +kernel) (by decide) (fun hc => ?_) (fun hc => ?_)
  · have h := ht hc
    refine go_aload_n (show decode cX10_cancel 15 = .ok (.aload_n 0, 1) by decide +kernel) (by rfl) ?_
    refine go_dup (show decode cX10_cancel 16 = .ok (.dup, 1) by decide +kernel) ?_
    refine go_getI (show decode cX10_cancel 17 = .ok (.getfield 108, 3) by decide +kernel) fl_X10_108 (Or.inl rfl) q1 ?_
    refine go_iconst (show decode cX10_cancel 20 = .ok (.iconst 1, 1) by decide +kernel) (by decide) ?_
    obtain ⟨q3, h⟩ := h
    refine go_isub (show decode cX10_cancel 21 = .ok (.isub, 1) by decide +kernel) q3 ?_
    refine go_putI (show decode cX10_cancel 22 = .ok (.putfield 108, 3) by decide +kernel) fl_X10_108 rfl (Or.inl rfl) q1 ?_
    obtain ⟨F4, F4e⟩ : ∃ F4 : AF, F4 = fu F2 a0 11 ((F2 a0 11) - 1) := ⟨_, rfl⟩
    have h := h F4 F4e
    rw [← F4e]
    refine go_iconst (show decode cX10_cancel 25 = .ok (.iconst 0, 1) by decide +kernel) (by decide) ?_
    refine go_istore_n (show decode cX10_cancel 26 = .ok (.istore_n 1, 1) by decide +kernel) (by decide) ?_
    show Go d MX10_cancel 27 [some (vR a0), some (vI 0)] [] S F4 G Q
    exact h
  · have h := hf hc
    refine go_bipush (show decode cX10_cancel 12 = .ok (.bipush (-8), 2) by decide +kernel) (by decide) ?_
    exact go_iret (show decode cX10_cancel 14 = .ok (.ireturn, 1) by decide +kernel) rfl h
def V_X10_feed_77 (d : Nat) (S : AS) (F : AF) (G : AG) (Q : AQ) (a0 : Nat) (a1 : Int) (a2 : Int) (a3 : Int) (a4 : Int) (a5 : Int) (a6 : Int) (s0 : Int) : Prop :=
  (sK S a0 = 10) ∧
  (r32 (Int.tdiv a6 4)) ∧
  (r32 (Int.tmod a6 4)) ∧
  (r32 (8 * (Int.tmod a6 4))) ∧
  (r32 (24 - (8 * (Int.tmod a6 4)))) ∧
  (sK S (sR S a0 33) = 22) ∧
  ((0 : Int) ≤ F a0 34) ∧
  ((F a0 34 : Int) < (sN S (sR S a0 33) : Int)) ∧
  (-128 ≤ iB (bShr s0 (24 - (8 * (Int.tmod a6 4)))) ∧ iB (bShr s0 (24 - (8 * (Int.tmod a6 4)))) < 128) ∧
  ∀ G10 : AG, G10 = gu G (sR S a0 33) (F a0 34) (iB (bShr s0 (24 - (8 * (Int.tmod a6 4))))) →
  (r32 ((F a0 34) + 1)) ∧
  ∀ F12 : AF, F12 = fu F a0 34 ((F a0 34) + 1) →
  (r32 (a6 + 1)) ∧
  Go d MX10_feed 24 [some (vR a0), some (vI a1), some (vI a2), some (vI a3), some (vI a4), some (vI a5), some (vI (a6 + 1)), none] [] S F12 G10 Q
theorem R_X10_feed_77 {d : Nat} {S : AS} {F : AF} {G : AG} {Q : AQ} {a0 : Nat} {a1 : Int} {a2 : Int} {a3 : Int} {a4 : Int} {a5 : Int} {a6 : Int} {s0 : Int} (h : V_X10_feed_77 d S F G Q a0 a1 a2 a3 a4 a5 a6 s0) : Go d MX10_feed 77 [some (vR a0), some (vI a1), some (vI a2), some (vI a3), some (vI a4), some (vI a5), some (vI a6), none] [vI s0] S F G Q := by
  unfold V_X10_feed_77 at h
  refine go_istore (show decode cX10_feed 77 = .ok (.istore 7, 2) by decide +kernel) (by decide) ?_
  show Go d MX10_feed 79 [some (vR a0), some (vI a1), some (vI a2), some (vI a3), some (vI a4), some (vI a5), some (vI a6), some (vI s0)] [] S F G Q
  refine go_aload_n (show decode cX10_feed 79 = .ok (.aload_n 0, 1) by decide +kernel) (by rfl) ?_
  obtain ⟨q1, h⟩ := h
  refine go_getR (show decode cX10_feed 80 = .ok (.getfield 83, 3) by decide +kernel) fl_X10_83 rfl q1 ?_
  refine go_aload_n (show decode cX10_feed 83 = .ok (.aload_n 0, 1) by decide +kernel) (by rfl) ?_
  refine go_getI (show decode cX10_feed 84 = .ok (.getfield 313, 3) by decide +kernel) fl_X10_313 (Or.inl rfl) q1 ?_
  refine go_iload (show decode cX10_feed 87 = .ok (.iload 7, 2) by decide +kernel) (by rfl) ?_
  refine go_bipush (show decode cX10_feed 89 = .ok (.bipush 24, 2) by decide +kernel) (by decide) ?_
  refine go_bipush (show decode cX10_feed 91 = .ok (.bipush 8, 2) by decide +kernel) (by decide) ?_
  refine go_iload (show decode cX10_feed 93 = .ok (.iload 6, 2) by decide +kernel) (by rfl) ?_
  refine go_iconst (show decode cX10_feed 95 = .ok (.iconst 4, 1) by decide +kernel) (by decide) ?_
  obtain ⟨q2, h⟩ := h
  obtain ⟨q3, h⟩ := h
  refine go_irem (show decode cX10_feed 96 = .ok (.irem, 1) by decide +kernel) (by decide) q2 q3 ?_
  obtain ⟨q4, h⟩ := h
  refine go_imul (show decode cX10_feed 97 = .ok (.imul, 1) by decide +kernel) q4 ?_
  obtain ⟨q5, h⟩ := h
  refine go_isub (show decode cX10_feed 98 = .ok (.isub, 1) by decide +kernel) q5 ?_
  refine go_ishr (show decode cX10_feed 99 = .ok (.ishr, 1) by decide +kernel) ?_
  refine go_i2b (show decode cX10_feed 100 = .ok (.i2b, 1) by decide +kernel) ?_
  obtain ⟨q6, h⟩ := h
  obtain ⟨q7, h⟩ := h
  obtain ⟨q8, h⟩ := h
  obtain ⟨q9, h⟩ := h
  refine go_bastore (show decode cX10_feed 101 = .ok (.bastore, 1) by decide +kernel) q6 q7 q8 q9 ?_
  obtain ⟨G10, G10e⟩ : ∃ G10 : AG, G10 = gu G (sR S a0 33) (F a0 34) (iB (bShr s0 (24 - (8 * (Int.tmod a6 4))))) := ⟨_, rfl⟩
  have h := h G10 G10e
  rw [← G10e]
  refine go_aload_n (show decode cX10_feed 102 = .ok (.aload_n 0, 1) by decide +kernel) (by rfl) ?_
  refine go_dup (show decode cX10_feed 103 = .ok (.dup, 1) by decide +kernel) ?_
  refine go_getI (show decode cX10_feed 104 = .ok (.getfield 313, 3) by decide +kernel) fl_X10_313 (Or.inl rfl) q1 ?_
  refine go_iconst (show decode cX10_feed 107 = .ok (.iconst 1, 1) by decide +kernel) (by decide) ?_
  obtain ⟨q11, h⟩ := h
  refine go_iadd (show decode cX10_feed 108 = .ok (.iadd, 1) by decide +kernel) q11 ?_
  refine go_putI (show decode cX10_feed 109 = .ok (.putfield 313, 3) by decide +kernel) fl_X10_313 rfl (Or.inl rfl) q1 ?_
  obtain ⟨F12, F12e⟩ : ∃ F12 : AF, F12 = fu F a0 34 ((F a0 34) + 1) := ⟨_, rfl⟩
  have h := h F12 F12e
  rw [← F12e]
  obtain ⟨q13, h⟩ := h
  refine go_iinc (show decode cX10_feed 112 = .ok (.iinc 6 1, 3) by decide +kernel) (by rfl) q13 (by decide) ?_
  show Go d MX10_feed 115 [some (vR a0), some (vI a1), some (vI a2), some (vI a3), some (vI a4), some (vI a5), some (vI (a6 + 1)), some (vI s0)] [] S F12 G10 Q
  refine go_goto (tgt := 24) (show decode cX10_feed 115 = .ok (.goto (-91), 3) by decide +kernel) (by decide) ?_
  refine go_clr 7 ?_
  exact h
def V_X10_feed_24 (d : Nat) (S : AS) (F : AF) (G : AG) (Q : AQ) (a0 : Nat) (a1 : Int) (a2 : Int) (a3 : Int) (a4 : Int) (a5 : Int) (a6 : Int) : Prop :=
  ((20 ≤ a6) →
    (sK S a0 = 10) ∧
    Q (some (vI (F a0 34))) S F G) ∧
  ((¬ 20 ≤ a6) →
    ((4 ≤ a6) →
      ((8 ≤ a6) →
        ((12 ≤ a6) →
          ((16 ≤ a6) →
            V_X10_feed_77 d S F G Q a0 a1 a2 a3 a4 a5 a6 a5) ∧
          ((¬ 16 ≤ a6) →
            V_X10_feed_77 d S F G Q a0 a1 a2 a3 a4 a5 a6 a4)) ∧
        ((¬ 12 ≤ a6) →
          V_X10_feed_77 d S F G Q a0 a1 a2 a3 a4 a5 a6 a3)) ∧
      ((¬ 8 ≤ a6) →
        V_X10_feed_77 d S F G Q a0 a1 a2 a3 a4 a5 a6 a2)) ∧
    ((¬ 4 ≤ a6) →
      V_X10_feed_77 d S F G Q a0 a1 a2 a3 a4 a5 a6 a1))
theorem R_X10_feed_24 {d : Nat} {S : AS} {F : AF} {G : AG} {Q : AQ} {a0 : Nat} {a1 : Int} {a2 : Int} {a3 : Int} {a4 : Int} {a5 : Int} {a6 : Int} (h : V_X10_feed_24 d S F G Q a0 a1 a2 a3 a4 a5 a6) : Go d MX10_feed 24 [some (vR a0), some (vI a1), some (vI a2), some (vI a3), some (vI a4), some (vI a5), some (vI a6), none] [] S F G Q := by
  unfold V_X10_feed_24 at h
  refine go_iload (show decode cX10_feed 24 = .ok (.iload 6, 2) by decide +kernel) (by rfl) ?_
  refine go_bipush (show decode cX10_feed 26 = .ok (.bipush 20, 2) by decide +kernel) (by decide) ?_
  obtain ⟨ht, hf⟩ := h
  refine go_icmpge (tgt := 118) (show decode cX10_feed 28 = .ok (.if_icmp .ge 90, 3) by decide +kernel) (by decide) (fun hc => ?_) (fun hc => ?_)
  · have h := ht hc
    refine go_aload_n (show decode cX10_feed 118 = .ok (.aload_n 0, 1) by decide +kernel) (by rfl) ?_
    obtain ⟨q1, h⟩ := h
    refine go_getI (show decode cX10_feed 119 = .ok (.getfield 313, 3) by decide +kernel) fl_X10_313 (Or.inl rfl) q1 ?_
    exact go_iret (show decode cX10_feed 122 = .ok (.ireturn, 1) by decide +kernel) rfl h
  · have h := hf hc
    refine go_iload (show decode cX10_feed 31 = .ok (.iload 6, 2) by decide +kernel) (by rfl) ?_
    refine go_iconst (show decode cX10_feed 33 = .ok (.iconst 4, 1) by decide +kernel) (by decide) ?_
    obtain ⟨ht, hf⟩ := h
    refine go_icmpge (tgt := 41) (show decode cX10_feed 34 = .ok (.if_icmp .ge 7, 3) by decide +kernel) (by decide) (fun hc => ?_) (fun hc => ?_)
    · have h := ht hc
      refine go_iload (show decode cX10_feed 41 = .ok (.iload 6, 2) by decide +kernel) (by rfl) ?_
      refine go_bipush (show decode cX10_feed 43 = .ok (.bipush 8, 2) by decide +kernel) (by decide) ?_
      obtain ⟨ht, hf⟩ := h
      refine go_icmpge (tgt := 52) (show decode cX10_feed 45 = .ok (.if_icmp .ge 7, 3) by decide +kernel) (by decide) (fun hc => ?_) (fun hc => ?_)
      · have h := ht hc
        refine go_iload (show decode cX10_feed 52 = .ok (.iload 6, 2) by decide +kernel) (by rfl) ?_
        refine go_bipush (show decode cX10_feed 54 = .ok (.bipush 12, 2) by decide +kernel) (by decide) ?_
        obtain ⟨ht, hf⟩ := h
        refine go_icmpge (tgt := 63) (show decode cX10_feed 56 = .ok (.if_icmp .ge 7, 3) by decide +kernel) (by decide) (fun hc => ?_) (fun hc => ?_)
        · have h := ht hc
          refine go_iload (show decode cX10_feed 63 = .ok (.iload 6, 2) by decide +kernel) (by rfl) ?_
          refine go_bipush (show decode cX10_feed 65 = .ok (.bipush 16, 2) by decide +kernel) (by decide) ?_
          obtain ⟨ht, hf⟩ := h
          refine go_icmpge (tgt := 75) (show decode cX10_feed 67 = .ok (.if_icmp .ge 8, 3) by decide +kernel) (by decide) (fun hc => ?_) (fun hc => ?_)
          · have h := ht hc
            refine go_iload (show decode cX10_feed 75 = .ok (.iload 5, 2) by decide +kernel) (by rfl) ?_
            exact R_X10_feed_77 h
          · have h := hf hc
            refine go_iload (show decode cX10_feed 70 = .ok (.iload 4, 2) by decide +kernel) (by rfl) ?_
            refine go_goto (tgt := 77) (show decode cX10_feed 72 = .ok (.goto 5, 3) by decide +kernel) (by decide) ?_
            exact R_X10_feed_77 h
        · have h := hf hc
          refine go_iload_n (show decode cX10_feed 59 = .ok (.iload_n 3, 1) by decide +kernel) (by rfl) ?_
          refine go_goto (tgt := 77) (show decode cX10_feed 60 = .ok (.goto 17, 3) by decide +kernel) (by decide) ?_
          exact R_X10_feed_77 h
      · have h := hf hc
        refine go_iload_n (show decode cX10_feed 48 = .ok (.iload_n 2, 1) by decide +kernel) (by rfl) ?_
        refine go_goto (tgt := 77) (show decode cX10_feed 49 = .ok (.goto 28, 3) by decide +kernel) (by decide) ?_
        exact R_X10_feed_77 h
    · have h := hf hc
      refine go_iload_n (show decode cX10_feed 37 = .ok (.iload_n 1, 1) by decide +kernel) (by rfl) ?_
      refine go_goto (tgt := 77) (show decode cX10_feed 38 = .ok (.goto 39, 3) by decide +kernel) (by decide) ?_
      exact R_X10_feed_77 h
def V_X10_feed_0 (d : Nat) (S : AS) (F : AF) (G : AG) (Q : AQ) (a0 : Nat) (a1 : Int) (a2 : Int) (a3 : Int) (a4 : Int) (a5 : Int) : Prop :=
  (sK S a0 = 10) ∧
  ∀ F2 : AF, F2 = fu F a0 0 0 →
  (r32 ((F2 a0 34) + 20)) ∧
  (((F2 a0 34) + 20 ≤ 500) →
    Go d MX10_feed 24 [some (vR a0), some (vI a1), some (vI a2), some (vI a3), some (vI a4), some (vI a5), some (vI 0), none] [] S F2 G Q) ∧
  ((¬ (F2 a0 34) + 20 ≤ 500) →
    Q (some (vI (-4))) S F2 G)
theorem R_X10_feed_0 {d : Nat} {S : AS} {F : AF} {G : AG} {Q : AQ} {a0 : Nat} {a1 : Int} {a2 : Int} {a3 : Int} {a4 : Int} {a5 : Int} (h : V_X10_feed_0 d S F G Q a0 a1 a2 a3 a4 a5) : Go d MX10_feed 0 [some (vR a0), some (vI a1), some (vI a2), some (vI a3), some (vI a4), some (vI a5), none, none] [] S F G Q := by
  unfold V_X10_feed_0 at h
  refine go_aload_n (show decode cX10_feed 0 = .ok (.aload_n 0, 1) by decide +kernel) (by rfl) ?_
  refine go_iconst (show decode cX10_feed 1 = .ok (.iconst 0, 1) by decide +kernel) (by decide) ?_
  obtain ⟨q1, h⟩ := h
  refine go_putI (show decode cX10_feed 2 = .ok (.putfield 1, 3) by decide +kernel) fl_X10_1 rfl (Or.inl rfl) q1 ?_
  obtain ⟨F2, F2e⟩ : ∃ F2 : AF, F2 = fu F a0 0 0 := ⟨_, rfl⟩
  have h := h F2 F2e
  rw [← F2e]
  refine go_aload_n (show decode cX10_feed 5 = .ok (.aload_n 0, 1) by decide +kernel) (by rfl) ?_
  refine go_getI (show decode cX10_feed 6 = .ok (.getfield 313, 3) by decide +kernel) fl_X10_313 (Or.inl rfl) q1 ?_
  refine go_bipush (show decode cX10_feed 9 = .ok (.bipush 20, 2) by decide +kernel) (by decide) ?_
  obtain ⟨q3, h⟩ := h
  refine go_iadd (show decode cX10_feed 11 = .ok (.iadd, 1) by decide +kernel) q3 ?_
  refine go_sipush (show decode cX10_feed 12 = .ok (.sipush 500, 3) by decide +kernel) (by decide) ?_
  obtain ⟨ht, hf⟩ := h
  refine go_icmple (tgt := 21) (show decode cX10_feed 15 = .ok (.if_icmp .le 6, 3) by decide +kernel) (by decide) (fun hc => ?_) (fun hc => ?_)
  · have h := ht hc
    refine go_iconst (show decode cX10_feed 21 = .ok (.iconst 0, 1) by decide +kernel) (by decide) ?_
    refine go_istore (show decode cX10_feed 22 = .ok (.istore 6, 2) by decide +kernel) (by decide) ?_
    show Go d MX10_feed 24 [some (vR a0), some (vI a1), some (vI a2), some (vI a3), some (vI a4), some (vI a5), some (vI 0), none] [] S F2 G Q
    exact h
  · have h := hf hc
    refine go_bipush (show decode cX10_feed 18 = .ok (.bipush (-4), 2) by decide +kernel) (by decide) ?_
    exact go_iret (show decode cX10_feed 20 = .ok (.ireturn, 1) by decide +kernel) rfl h
def V_X10_run_88 (d : Nat) (S : AS) (F : AF) (G : AG) (Q : AQ) (a0 : Nat) (a1 : Int) (a2 : Int) : Prop :=
  (sK S a0 = 10) ∧
  ((F a0 41 ≤ a2) →
    Q (some (vI (F a0 41))) S F G) ∧
  ((¬ F a0 41 ≤ a2) →
    (1 ≤ d) ∧
    Ok (d - 1) MX10_does [vR a0, vI a2] S F G (fun w3 S4 F5 G6 =>
    ∃ z7 : Int, w3 = some (vJ z7) ∧
    ((z7 < 0) →
      (r32 (z7)) ∧
      (sK S4 a0 = 10) ∧
      ∀ F10 : AF, F10 = fu F5 a0 39 z7 →
      Q (some (vI a2)) S4 F10 G6) ∧
    ((¬ z7 < 0) →
      (r32 (a2 + 1)) ∧
      Go d MX10_run 88 [some (vR a0), some (vI a1), some (vI (a2 + 1)), none, none] [] S4 F5 G6 Q)))
theorem R_X10_run_88 {d : Nat} {S : AS} {F : AF} {G : AG} {Q : AQ} {a0 : Nat} {a1 : Int} {a2 : Int} (h : V_X10_run_88 d S F G Q a0 a1 a2) : Go d MX10_run 88 [some (vR a0), some (vI a1), some (vI a2), none, none] [] S F G Q := by
  unfold V_X10_run_88 at h
  refine go_iload_n (show decode cX10_run 88 = .ok (.iload_n 2, 1) by decide +kernel) (by rfl) ?_
  refine go_aload_n (show decode cX10_run 89 = .ok (.aload_n 0, 1) by decide +kernel) (by rfl) ?_
  obtain ⟨q1, h⟩ := h
  refine go_getI (show decode cX10_run 90 = .ok (.getfield 366, 3) by decide +kernel) fl_X10_366 (Or.inl rfl) q1 ?_
  obtain ⟨ht, hf⟩ := h
  refine go_icmpge (tgt := 125) (show decode cX10_run 93 = .ok (.if_icmp .ge 32, 3) by decide +kernel) (by decide) (fun hc => ?_) (fun hc => ?_)
  · have h := ht hc
    refine go_aload_n (show decode cX10_run 125 = .ok (.aload_n 0, 1) by decide +kernel) (by rfl) ?_
    refine go_getI (show decode cX10_run 126 = .ok (.getfield 366, 3) by decide +kernel) fl_X10_366 (Or.inl rfl) q1 ?_
    exact go_iret (show decode cX10_run 129 = .ok (.ireturn, 1) by decide +kernel) rfl h
  · have h := hf hc
    refine go_aload_n (show decode cX10_run 96 = .ok (.aload_n 0, 1) by decide +kernel) (by rfl) ?_
    refine go_iload_n (show decode cX10_run 97 = .ok (.iload_n 2, 1) by decide +kernel) (by rfl) ?_
    obtain ⟨q2, h⟩ := h
    refine go_callV (d2 := d - 1) (M2 := MX10_does) (n := 1) (ci := 10) (av := [vI a2]) (st := []) (show decode cX10_run 98 = .ok (.invokevirtual 400, 3) by decide +kernel) ml_X10_400 mt_X10_does min_X10_does mse_X10_does (by decide) q1 rfl (Nat.le_of_ble_eq_true rfl) (by omega) (ok_mono h (fun w3 S4 F5 G6 h => ?_))
    obtain ⟨z7, e9, h⟩ := h
    subst e9
    show Go d MX10_run 101 [some (vR a0), some (vI a1), some (vI a2), none, none] [vJ z7] S4 F5 G6 Q
    refine go_lstore_n (show decode cX10_run 101 = .ok (.lstore_n 3, 1) by decide +kernel) (by decide) ?_
    show Go d MX10_run 102 [some (vR a0), some (vI a1), some (vI a2), some (vJ z7), none] [] S4 F5 G6 Q
    refine go_lload_n (show decode cX10_run 102 = .ok (.lload_n 3, 1) by decide +kernel) (by rfl) ?_
    refine go_lconst (n := 0) (show decode cX10_run 103 = .ok (.lconst 0, 1) by decide +kernel) ?_
    show Go d MX10_run 104 [some (vR a0), some (vI a1), some (vI a2), some (vJ z7), none] [vJ 0, vJ z7] S4 F5 G6 Q
    obtain ⟨ht, hf⟩ := h
    refine go_jlt (tgt := 111) (show decode cX10_run 104 = .ok (.lcmp, 1) by decide +kernel) (show decode cX10_run 105 = .ok (.ifCond .lt 6, 3) by decide +kernel) (by decide) (fun hc => ?_) (fun hc => ?_)
    · have h := ht hc
      refine go_aload_n (show decode cX10_run 111 = .ok (.aload_n 0, 1) by decide +kernel) (by rfl) ?_
      refine go_lload_n (show decode cX10_run 112 = .ok (.lload_n 3, 1) by decide +kernel) (by rfl) ?_
      obtain ⟨q8, h⟩ := h
      refine go_l2i (show decode cX10_run 113 = .ok (.l2i, 1) by decide +kernel) q8 ?_
      obtain ⟨q9, h⟩ := h
      refine go_putI (show decode cX10_run 114 = .ok (.putfield 390, 3) by decide +kernel) fl_X10_390 rfl (Or.inl rfl) q9 ?_
      obtain ⟨F10, F10e⟩ : ∃ F10 : AF, F10 = fu F5 a0 39 z7 := ⟨_, rfl⟩
      have h := h F10 F10e
      rw [← F10e]
      refine go_iload_n (show decode cX10_run 117 = .ok (.iload_n 2, 1) by decide +kernel) (by rfl) ?_
      exact go_iret (show decode cX10_run 118 = .ok (.ireturn, 1) by decide +kernel) rfl h
    · have h := hf hc
      refine go_goto (tgt := 119) (show decode cX10_run 108 = .ok (.goto 11, 3) by decide +kernel) (by decide) ?_
      obtain ⟨q11, h⟩ := h
      refine go_iinc (show decode cX10_run 119 = .ok (.iinc 2 1, 3) by decide +kernel) (by rfl) q11 (by decide) ?_
      show Go d MX10_run 122 [some (vR a0), some (vI a1), some (vI (a2 + 1)), some (vJ z7), none] [] S4 F5 G6 Q
      refine go_goto (tgt := 88) (show decode cX10_run 122 = .ok (.goto (-34), 3) by decide +kernel) (by decide) ?_
      refine go_clr 3 ?_
      exact h
def V_X10_run_57 (d : Nat) (S : AS) (F : AF) (G : AG) (Q : AQ) (a0 : Nat) (a1 : Int) : Prop :=
  (1 ≤ d) ∧
  (sK S a0 = 10) ∧
  Ok (d - 1) MX10_isOver [vR a0] S F G (fun w2 S3 F4 G5 =>
  ∃ z7 : Int, w2 = some (vI z7) ∧
  ((¬ z7 = 0) →
    (sK S3 a0 = 10) ∧
    ((F4 a0 37 = 0) →
      Go d MX10_run 88 [some (vR a0), some (vI a1), some (vI 0), none, none] [] S3 F4 G5 Q) ∧
    ((¬ F4 a0 37 = 0) →
      (r32 ((-30) - (F4 a0 37))) ∧
      Q (some (vI ((-30) - (F4 a0 37)))) S3 F4 G5)) ∧
  ((z7 = 0) →
    (sK S3 a0 = 10) ∧
    Ok (d - 1) MX10_readAct [vR a0] S3 F4 G5 (fun w10 S11 F12 G13 =>
    w10 = none ∧
    Go d MX10_run 57 [some (vR a0), some (vI a1), none, none, none] [] S11 F12 G13 Q)))
theorem R_X10_run_57 {d : Nat} {S : AS} {F : AF} {G : AG} {Q : AQ} {a0 : Nat} {a1 : Int} (h : V_X10_run_57 d S F G Q a0 a1) : Go d MX10_run 57 [some (vR a0), some (vI a1), none, none, none] [] S F G Q := by
  unfold V_X10_run_57 at h
  refine go_aload_n (show decode cX10_run 57 = .ok (.aload_n 0, 1) by decide +kernel) (by rfl) ?_
  obtain ⟨q1, h⟩ := h
  obtain ⟨q6, h⟩ := h
  refine go_callV (d2 := d - 1) (M2 := MX10_isOver) (n := 0) (ci := 10) (av := []) (st := []) (show decode cX10_run 58 = .ok (.invokevirtual 393, 3) by decide +kernel) ml_X10_393 mt_X10_isOver min_X10_isOver mse_X10_isOver (by decide) q6 rfl (Nat.le_of_ble_eq_true rfl) (by omega) (ok_mono h (fun w2 S3 F4 G5 h => ?_))
  obtain ⟨z7, e9, h⟩ := h
  subst e9
  show Go d MX10_run 61 [some (vR a0), some (vI a1), none, none, none] [vI z7] S3 F4 G5 Q
  obtain ⟨ht, hf⟩ := h
  refine go_ifne (tgt := 71) (show decode cX10_run 61 = .ok (.ifCond .ne 10, 3) by decide +kernel) (by decide) (fun hc => ?_) (fun hc => ?_)
  · have h := ht hc
    refine go_aload_n (show decode cX10_run 71 = .ok (.aload_n 0, 1) by decide +kernel) (by rfl) ?_
    obtain ⟨q8, h⟩ := h
    refine go_getI (show decode cX10_run 72 = .ok (.getfield 322, 3) by decide +kernel) fl_X10_322 (Or.inl rfl) q8 ?_
    obtain ⟨ht, hf⟩ := h
    refine go_ifeq (tgt := 86) (show decode cX10_run 75 = .ok (.ifCond .eq 11, 3) by decide +kernel) (by decide) (fun hc => ?_) (fun hc => ?_)
    · have h := ht hc
      refine go_iconst (show decode cX10_run 86 = .ok (.iconst 0, 1) by decide +kernel) (by decide) ?_
      refine go_istore_n (show decode cX10_run 87 = .ok (.istore_n 2, 1) by decide +kernel) (by decide) ?_
      show Go d MX10_run 88 [some (vR a0), some (vI a1), some (vI 0), none, none] [] S3 F4 G5 Q
      exact h
    · have h := hf hc
      refine go_bipush (show decode cX10_run 78 = .ok (.bipush (-30), 2) by decide +kernel) (by decide) ?_
      refine go_aload_n (show decode cX10_run 80 = .ok (.aload_n 0, 1) by decide +kernel) (by rfl) ?_
      refine go_getI (show decode cX10_run 81 = .ok (.getfield 322, 3) by decide +kernel) fl_X10_322 (Or.inl rfl) q8 ?_
      obtain ⟨q9, h⟩ := h
      refine go_isub (show decode cX10_run 84 = .ok (.isub, 1) by decide +kernel) q9 ?_
      exact go_iret (show decode cX10_run 85 = .ok (.ireturn, 1) by decide +kernel) rfl h
  · have h := hf hc
    refine go_aload_n (show decode cX10_run 64 = .ok (.aload_n 0, 1) by decide +kernel) (by rfl) ?_
    obtain ⟨q14, h⟩ := h
    refine go_callV (d2 := d - 1) (M2 := MX10_readAct) (n := 0) (ci := 10) (av := []) (st := []) (show decode cX10_run 65 = .ok (.invokevirtual 397, 3) by decide +kernel) ml_X10_397 mt_X10_readAct min_X10_readAct mse_X10_readAct (by decide) q14 rfl (Nat.le_of_ble_eq_true rfl) (by omega) (ok_mono h (fun w10 S11 F12 G13 h => ?_))
    obtain ⟨e9, h⟩ := h
    subst e9
    show Go d MX10_run 68 [some (vR a0), some (vI a1), none, none, none] [] S11 F12 G13 Q
    refine go_goto (tgt := 57) (show decode cX10_run 68 = .ok (.goto (-11), 3) by decide +kernel) (by decide) ?_
    exact h
def V_X10_run_0 (d : Nat) (S : AS) (F : AF) (G : AG) (Q : AQ) (a0 : Nat) (a1 : Int) : Prop :=
  (sK S a0 = 10) ∧
  ∀ F2 : AF, F2 = fu F a0 0 0 →
  (1 ≤ d) ∧
  Ok (d - 1) MX10_isIn [vJ a1, vJ 0, vJ (F2 a0 34)] S F2 G (fun w4 S5 F6 G7 =>
  ∃ z8 : Int, w4 = some (vI z8) ∧
  ((¬ z8 = 0) →
    (sK S5 a0 = 10) ∧
    ∀ F10 : AF, F10 = fu F6 a0 34 0 →
    ∀ F11 : AF, F11 = fu F10 a0 35 a1 →
    ∀ F12 : AF, F12 = fu F11 a0 36 0 →
    ∀ F13 : AF, F13 = fu F12 a0 37 0 →
    ∀ F14 : AF, F14 = fu F13 a0 38 (-1) →
    ∀ F15 : AF, F15 = fu F14 a0 39 0 →
    ∀ F16 : AF, F16 = fu F15 a0 41 0 →
    Go d MX10_run 57 [some (vR a0), some (vI a1), none, none, none] [] S5 F16 G7 Q) ∧
  ((z8 = 0) →
    Q (some (vI (-3))) S5 F6 G7))
theorem R_X10_run_0 {d : Nat} {S : AS} {F : AF} {G : AG} {Q : AQ} {a0 : Nat} {a1 : Int} (h : V_X10_run_0 d S F G Q a0 a1) : Go d MX10_run 0 [some (vR a0), some (vI a1), none, none, none] [] S F G Q := by
  unfold V_X10_run_0 at h
  refine go_aload_n (show decode cX10_run 0 = .ok (.aload_n 0, 1) by decide +kernel) (by rfl) ?_
  refine go_iconst (show decode cX10_run 1 = .ok (.iconst 0, 1) by decide +kernel) (by decide) ?_
  obtain ⟨q1, h⟩ := h
  refine go_putI (show decode cX10_run 2 = .ok (.putfield 1, 3) by decide +kernel) fl_X10_1 rfl (Or.inl rfl) q1 ?_
  obtain ⟨F2, F2e⟩ : ∃ F2 : AF, F2 = fu F a0 0 0 := ⟨_, rfl⟩
  have h := h F2 F2e
  rw [← F2e]
  refine go_iload_n (show decode cX10_run 5 = .ok (.iload_n 1, 1) by decide +kernel) (by rfl) ?_
  refine go_i2l (show decode cX10_run 6 = .ok (.i2l, 1) by decide +kernel) ?_
  refine go_lconst (n := 0) (show decode cX10_run 7 = .ok (.lconst 0, 1) by decide +kernel) ?_
  show Go d MX10_run 8 [some (vR a0), some (vI a1), none, none, none] [vJ 0, vJ a1] S F2 G Q
  refine go_aload_n (show decode cX10_run 8 = .ok (.aload_n 0, 1) by decide +kernel) (by rfl) ?_
  refine go_getI (show decode cX10_run 9 = .ok (.getfield 313, 3) by decide +kernel) fl_X10_313 (Or.inl rfl) q1 ?_
  refine go_i2l (show decode cX10_run 12 = .ok (.i2l, 1) by decide +kernel) ?_
  obtain ⟨q3, h⟩ := h
  refine go_callS (d2 := d - 1) (M2 := MX10_isIn) (n := 3) (av := [vJ a1, vJ 0, vJ (F2 a0 34)]) (st := []) (show decode cX10_run 13 = .ok (.invokestatic 116, 3) by decide +kernel) ml_X10_116 mt_X10_isIn mst_X10_isIn rfl (Nat.le_of_ble_eq_true rfl) (by omega) (ok_mono h (fun w4 S5 F6 G7 h => ?_))
  obtain ⟨z8, e9, h⟩ := h
  subst e9
  show Go d MX10_run 16 [some (vR a0), some (vI a1), none, none, none] [vI z8] S5 F6 G7 Q
  obtain ⟨ht, hf⟩ := h
  refine go_ifne (tgt := 22) (show decode cX10_run 16 = .ok (.ifCond .ne 6, 3) by decide +kernel) (by decide) (fun hc => ?_) (fun hc => ?_)
  · have h := ht hc
    refine go_aload_n (show decode cX10_run 22 = .ok (.aload_n 0, 1) by decide +kernel) (by rfl) ?_
    refine go_iconst (show decode cX10_run 23 = .ok (.iconst 0, 1) by decide +kernel) (by decide) ?_
    obtain ⟨q9, h⟩ := h
    refine go_putI (show decode cX10_run 24 = .ok (.putfield 313, 3) by decide +kernel) fl_X10_313 rfl (Or.inl rfl) q9 ?_
    obtain ⟨F10, F10e⟩ : ∃ F10 : AF, F10 = fu F6 a0 34 0 := ⟨_, rfl⟩
    have h := h F10 F10e
    rw [← F10e]
    refine go_aload_n (show decode cX10_run 27 = .ok (.aload_n 0, 1) by decide +kernel) (by rfl) ?_
    refine go_iload_n (show decode cX10_run 28 = .ok (.iload_n 1, 1) by decide +kernel) (by rfl) ?_
    refine go_putI (show decode cX10_run 29 = .ok (.putfield 319, 3) by decide +kernel) fl_X10_319 rfl (Or.inl rfl) q9 ?_
    obtain ⟨F11, F11e⟩ : ∃ F11 : AF, F11 = fu F10 a0 35 a1 := ⟨_, rfl⟩
    have h := h F11 F11e
    rw [← F11e]
    refine go_aload_n (show decode cX10_run 32 = .ok (.aload_n 0, 1) by decide +kernel) (by rfl) ?_
    refine go_iconst (show decode cX10_run 33 = .ok (.iconst 0, 1) by decide +kernel) (by decide) ?_
    refine go_putI (show decode cX10_run 34 = .ok (.putfield 316, 3) by decide +kernel) fl_X10_316 rfl (Or.inl rfl) q9 ?_
    obtain ⟨F12, F12e⟩ : ∃ F12 : AF, F12 = fu F11 a0 36 0 := ⟨_, rfl⟩
    have h := h F12 F12e
    rw [← F12e]
    refine go_aload_n (show decode cX10_run 37 = .ok (.aload_n 0, 1) by decide +kernel) (by rfl) ?_
    refine go_iconst (show decode cX10_run 38 = .ok (.iconst 0, 1) by decide +kernel) (by decide) ?_
    refine go_putI (show decode cX10_run 39 = .ok (.putfield 322, 3) by decide +kernel) fl_X10_322 rfl (Or.inl rfl) q9 ?_
    obtain ⟨F13, F13e⟩ : ∃ F13 : AF, F13 = fu F12 a0 37 0 := ⟨_, rfl⟩
    have h := h F13 F13e
    rw [← F13e]
    refine go_aload_n (show decode cX10_run 42 = .ok (.aload_n 0, 1) by decide +kernel) (by rfl) ?_
    refine go_iconst (show decode cX10_run 43 = .ok (.iconst (-1), 1) by decide +kernel) (by decide) ?_
    refine go_putI (show decode cX10_run 44 = .ok (.putfield 87, 3) by decide +kernel) fl_X10_87 rfl (Or.inl rfl) q9 ?_
    obtain ⟨F14, F14e⟩ : ∃ F14 : AF, F14 = fu F13 a0 38 (-1) := ⟨_, rfl⟩
    have h := h F14 F14e
    rw [← F14e]
    refine go_aload_n (show decode cX10_run 47 = .ok (.aload_n 0, 1) by decide +kernel) (by rfl) ?_
    refine go_iconst (show decode cX10_run 48 = .ok (.iconst 0, 1) by decide +kernel) (by decide) ?_
    refine go_putI (show decode cX10_run 49 = .ok (.putfield 390, 3) by decide +kernel) fl_X10_390 rfl (Or.inl rfl) q9 ?_
    obtain ⟨F15, F15e⟩ : ∃ F15 : AF, F15 = fu F14 a0 39 0 := ⟨_, rfl⟩
    have h := h F15 F15e
    rw [← F15e]
    refine go_aload_n (show decode cX10_run 52 = .ok (.aload_n 0, 1) by decide +kernel) (by rfl) ?_
    refine go_iconst (show decode cX10_run 53 = .ok (.iconst 0, 1) by decide +kernel) (by decide) ?_
    refine go_putI (show decode cX10_run 54 = .ok (.putfield 366, 3) by decide +kernel) fl_X10_366 rfl (Or.inl rfl) q9 ?_
    obtain ⟨F16, F16e⟩ : ∃ F16 : AF, F16 = fu F15 a0 41 0 := ⟨_, rfl⟩
    have h := h F16 F16e
    rw [← F16e]
    exact h
  · have h := hf hc
    refine go_bipush (show decode cX10_run 19 = .ok (.bipush (-3), 2) by decide +kernel) (by decide) ?_
    exact go_iret (show decode cX10_run 21 = .ok (.ireturn, 1) by decide +kernel) rfl h
def V_X10_isOver_0 (d : Nat) (S : AS) (F : AF) (G : AG) (Q : AQ) (a0 : Nat) : Prop :=
  (1 ≤ d) ∧
  (sK S a0 = 10) ∧
  Ok (d - 1) MX10_blanks [vR a0] S F G (fun w2 S3 F4 G5 =>
  w2 = none ∧
  (sK S3 a0 = 10) ∧
  ((¬ F4 a0 37 = 0) →
    Q (some (vI 1)) S3 F4 G5) ∧
  ((F4 a0 37 = 0) →
    Ok (d - 1) MX10_peek [vR a0] S3 F4 G5 (fun w8 S9 F10 G11 =>
    ∃ z12 : Int, w8 = some (vI z12) ∧
    ((¬ z12 = -1) →
      Q (some (vI 0)) S9 F10 G11) ∧
    ((z12 = -1) →
      Q (some (vI 1)) S9 F10 G11))))
theorem R_X10_isOver_0 {d : Nat} {S : AS} {F : AF} {G : AG} {Q : AQ} {a0 : Nat} (h : V_X10_isOver_0 d S F G Q a0) : Go d MX10_isOver 0 [some (vR a0)] [] S F G Q := by
  unfold V_X10_isOver_0 at h
  refine go_aload_n (show decode cX10_isOver 0 = .ok (.aload_n 0, 1) by decide +kernel) (by rfl) ?_
  obtain ⟨q1, h⟩ := h
  obtain ⟨q6, h⟩ := h
  refine go_callV (d2 := d - 1) (M2 := MX10_blanks) (n := 0) (ci := 10) (av := []) (st := []) (show decode cX10_isOver 1 = .ok (.invokevirtual 329, 3) by decide +kernel) ml_X10_329 mt_X10_blanks min_X10_blanks mse_X10_blanks (by decide) q6 rfl (Nat.le_of_ble_eq_true rfl) (by omega) (ok_mono h (fun w2 S3 F4 G5 h => ?_))
  obtain ⟨e9, h⟩ := h
  subst e9
  show Go d MX10_isOver 4 [some (vR a0)] [] S3 F4 G5 Q
  refine go_aload_n (show decode cX10_isOver 4 = .ok (.aload_n 0, 1) by decide +kernel) (by rfl) ?_
  obtain ⟨q7, h⟩ := h
  refine go_getI (show decode cX10_isOver 5 = .ok (.getfield 322, 3) by decide +kernel) fl_X10_322 (Or.inl rfl) q7 ?_
  obtain ⟨ht, hf⟩ := h
  refine go_ifne (tgt := 19) (show decode cX10_isOver 8 = .ok (.ifCond .ne 11, 3) by decide +kernel) (by decide) (fun hc => ?_) (fun hc => ?_)
  · have h := ht hc
    refine go_iconst (show decode cX10_isOver 19 = .ok (.iconst 1, 1) by decide +kernel) (by decide) ?_
    refine go_goto (tgt := 24) (show decode cX10_isOver 20 = .ok (.goto 4, 3) by decide +kernel) (by decide) ?_
    exact go_zret (show decode cX10_isOver 24 = .ok (.ireturn, 1) by decide +kernel) rfl (by decide) h
  · have h := hf hc
    refine go_aload_n (show decode cX10_isOver 11 = .ok (.aload_n 0, 1) by decide +kernel) (by rfl) ?_
    refine go_callV (d2 := d - 1) (M2 := MX10_peek) (n := 0) (ci := 10) (av := []) (st := []) (show decode cX10_isOver 12 = .ok (.invokevirtual 325, 3) by decide +kernel) ml_X10_325 mt_X10_peek min_X10_peek mse_X10_peek (by decide) q7 rfl (Nat.le_of_ble_eq_true rfl) (by omega) (ok_mono h (fun w8 S9 F10 G11 h => ?_))
    obtain ⟨z12, e9, h⟩ := h
    subst e9
    show Go d MX10_isOver 15 [some (vR a0)] [vI z12] S9 F10 G11 Q
    refine go_iconst (show decode cX10_isOver 15 = .ok (.iconst (-1), 1) by decide +kernel) (by decide) ?_
    obtain ⟨ht, hf⟩ := h
    refine go_icmpne (tgt := 23) (show decode cX10_isOver 16 = .ok (.if_icmp .ne 7, 3) by decide +kernel) (by decide) (fun hc => ?_) (fun hc => ?_)
    · have h := ht hc
      refine go_iconst (show decode cX10_isOver 23 = .ok (.iconst 0, 1) by decide +kernel) (by decide) ?_
      exact go_zret (show decode cX10_isOver 24 = .ok (.ireturn, 1) by decide +kernel) rfl (by decide) h
    · have h := hf hc
      refine go_iconst (show decode cX10_isOver 19 = .ok (.iconst 1, 1) by decide +kernel) (by decide) ?_
      refine go_goto (tgt := 24) (show decode cX10_isOver 20 = .ok (.goto 4, 3) by decide +kernel) (by decide) ?_
      exact go_zret (show decode cX10_isOver 24 = .ok (.ireturn, 1) by decide +kernel) rfl (by decide) h
def V_X10_blanks_0 (d : Nat) (S : AS) (F : AF) (G : AG) (Q : AQ) (a0 : Nat) : Prop :=
  (1 ≤ d) ∧
  (sK S a0 = 10) ∧
  Ok (d - 1) MX10_peek [vR a0] S F G (fun w2 S3 F4 G5 =>
  ∃ z7 : Int, w2 = some (vI z7) ∧
  ((¬ z7 = 32) →
    Q none S3 F4 G5) ∧
  ((z7 = 32) →
    (sK S3 a0 = 10) ∧
    (r32 ((F4 a0 36) + 1)) ∧
    ∀ F10 : AF, F10 = fu F4 a0 36 ((F4 a0 36) + 1) →
    Go d MX10_blanks 0 [some (vR a0)] [] S3 F10 G5 Q))
theorem R_X10_blanks_0 {d : Nat} {S : AS} {F : AF} {G : AG} {Q : AQ} {a0 : Nat} (h : V_X10_blanks_0 d S F G Q a0) : Go d MX10_blanks 0 [some (vR a0)] [] S F G Q := by
  unfold V_X10_blanks_0 at h
  refine go_aload_n (show decode cX10_blanks 0 = .ok (.aload_n 0, 1) by decide +kernel) (by rfl) ?_
  obtain ⟨q1, h⟩ := h
  obtain ⟨q6, h⟩ := h
  refine go_callV (d2 := d - 1) (M2 := MX10_peek) (n := 0) (ci := 10) (av := []) (st := []) (show decode cX10_blanks 1 = .ok (.invokevirtual 325, 3) by decide +kernel) ml_X10_325 mt_X10_peek min_X10_peek mse_X10_peek (by decide) q6 rfl (Nat.le_of_ble_eq_true rfl) (by omega) (ok_mono h (fun w2 S3 F4 G5 h => ?_))
  obtain ⟨z7, e9, h⟩ := h
  subst e9
  show Go d MX10_blanks 4 [some (vR a0)] [vI z7] S3 F4 G5 Q
  refine go_bipush (show decode cX10_blanks 4 = .ok (.bipush 32, 2) by decide +kernel) (by decide) ?_
  obtain ⟨ht, hf⟩ := h
  refine go_icmpne (tgt := 22) (show decode cX10_blanks 6 = .ok (.if_icmp .ne 16, 3) by decide +kernel) (by decide) (fun hc => ?_) (fun hc => ?_)
  · have h := ht hc
    exact go_vret (show decode cX10_blanks 22 = .ok (.return_, 1) by decide +kernel) rfl h
  · have h := hf hc
    refine go_aload_n (show decode cX10_blanks 9 = .ok (.aload_n 0, 1) by decide +kernel) (by rfl) ?_
    refine go_dup (show decode cX10_blanks 10 = .ok (.dup, 1) by decide +kernel) ?_
    obtain ⟨q8, h⟩ := h
    refine go_getI (show decode cX10_blanks 11 = .ok (.getfield 316, 3) by decide +kernel) fl_X10_316 (Or.inl rfl) q8 ?_
    refine go_iconst (show decode cX10_blanks 14 = .ok (.iconst 1, 1) by decide +kernel) (by decide) ?_
    obtain ⟨q9, h⟩ := h
    refine go_iadd (show decode cX10_blanks 15 = .ok (.iadd, 1) by decide +kernel) q9 ?_
    refine go_putI (show decode cX10_blanks 16 = .ok (.putfield 316, 3) by decide +kernel) fl_X10_316 rfl (Or.inl rfl) q8 ?_
    obtain ⟨F10, F10e⟩ : ∃ F10 : AF, F10 = fu F4 a0 36 ((F4 a0 36) + 1) := ⟨_, rfl⟩
    have h := h F10 F10e
    rw [← F10e]
    refine go_goto (tgt := 0) (show decode cX10_blanks 19 = .ok (.goto (-19), 3) by decide +kernel) (by decide) ?_
    exact h
