def V_X10_lettersHere_9 (d : Nat) (S : AS) (F : AF) (G : AG) (Q : AQ) (a1 : Int) : Prop :=
  ((F 53 35 ≤ a1) →
    (r32 (a1 - (F 53 36))) ∧
    Q (some (vI (a1 - (F 53 36)))) S F G) ∧
  ((¬ F 53 35 ≤ a1) →
    ((0 : Int) ≤ a1) ∧
    ((a1 : Int) < 500) ∧
    (1 ≤ d) ∧
    ∃ z9 : Int, Pu (d - 1) MX10_isIn [vJ (G 72 a1), vJ 97, vJ 122] S F G (some (vI z9)) ∧
    ((z9 = 0) →
      (r32 (a1 - (F 53 36))) ∧
      Q (some (vI (a1 - (F 53 36)))) S F G) ∧
    ((¬ z9 = 0) →
      (r32 (a1 + 1)) ∧
      Go d MX10_lettersHere 9 [some (vR 53), some (vI (a1 + 1))] [] S F G Q))
theorem R_X10_lettersHere_9 {d : Nat} {S : AS} {F : AF} {G : AG} {Q : AQ} {a1 : Int} (hsm : ShM S) (h : V_X10_lettersHere_9 d S F G Q a1) : Go d MX10_lettersHere 9 [some (vR 53), some (vI a1)] [] S F G Q := by
  unfold V_X10_lettersHere_9 at h
  refine go_iload_n (show decode cX10_lettersHere 9 = .ok (.iload_n 1, 1) by decide +kernel) (by rfl) ?_
  refine go_aload_n (show decode cX10_lettersHere 10 = .ok (.aload_n 0, 1) by decide +kernel) (by rfl) ?_
  refine go_getI (show decode cX10_lettersHere 11 = .ok (.getfield 319, 3) by decide +kernel) fl_X10_319 (Or.inl rfl) (shm_k hsm 53 (by decide) (by decide)) ?_
  obtain ⟨ht, hf⟩ := h
  refine go_icmpge (tgt := 42) (show decode cX10_lettersHere 14 = .ok (.if_icmp .ge 28, 3) by decide +kernel) (by decide) (fun hc => ?_) (fun hc => ?_)
  · have h := ht hc
    refine go_iload_n (show decode cX10_lettersHere 42 = .ok (.iload_n 1, 1) by decide +kernel) (by rfl) ?_
    refine go_aload_n (show decode cX10_lettersHere 43 = .ok (.aload_n 0, 1) by decide +kernel) (by rfl) ?_
    refine go_getI (show decode cX10_lettersHere 44 = .ok (.getfield 316, 3) by decide +kernel) fl_X10_316 (Or.inl rfl) (shm_k hsm 53 (by decide) (by decide)) ?_
    obtain ⟨q1, h⟩ := h
    refine go_isub (show decode cX10_lettersHere 47 = .ok (.isub, 1) by decide +kernel) q1 ?_
    exact go_iret (show decode cX10_lettersHere 48 = .ok (.ireturn, 1) by decide +kernel) rfl h
  · have h := hf hc
    refine go_aload_n (show decode cX10_lettersHere 17 = .ok (.aload_n 0, 1) by decide +kernel) (by rfl) ?_
    refine go_getRc (show decode cX10_lettersHere 18 = .ok (.getfield 83, 3) by decide +kernel) fl_X10_83 rfl (shm_k hsm 53 (by decide) (by decide)) (v := 72) (shm_r hsm 53 33 (by decide) (by decide)) ?_
    refine go_iload_n (show decode cX10_lettersHere 21 = .ok (.iload_n 1, 1) by decide +kernel) (by rfl) ?_
    obtain ⟨q2, h⟩ := h
    obtain ⟨q3, h⟩ := h
    refine go_baload (show decode cX10_lettersHere 22 = .ok (.baload, 1) by decide +kernel) (shm_k hsm 72 (by decide) (by decide)) q2 (lt_n (m := 500) q3 (shm_n hsm 72 (by decide) (by decide))) ?_
    refine go_i2l (show decode cX10_lettersHere 23 = .ok (.i2l, 1) by decide +kernel) ?_
    refine go_ldc2 (show decode cX10_lettersHere 24 = .ok (.ldc2_w 332, 3) by decide +kernel) lc_X10_332 (by decide) ?_
    refine go_ldc2 (show decode cX10_lettersHere 27 = .ok (.ldc2_w 334, 3) by decide +kernel) lc_X10_334 (by decide) ?_
    obtain ⟨q4, h⟩ := h
    obtain ⟨z9, p10, h⟩ := h
    refine go_callS (d2 := d - 1) (M2 := MX10_isIn) (n := 3) (av := [vJ (G 72 a1), vJ 97, vJ 122]) (st := []) (show decode cX10_lettersHere 30 = .ok (.invokestatic 116, 3) by decide +kernel) ml_X10_116 mt_X10_isIn mst_X10_isIn rfl (Nat.le_of_ble_eq_true rfl) (by omega) (ok_mono p10 (fun w5 S6 F7 G8 e9 => ?_))
    obtain ⟨e1, e2, e3, e4⟩ := e9
    subst e1
    replace e2 := e2.symm; subst e2
    replace e3 := e3.symm; subst e3
    replace e4 := e4.symm; subst e4
    show Go d MX10_lettersHere 33 [some (vR 53), some (vI a1)] [vI z9] S F G Q
    obtain ⟨ht, hf⟩ := h
    refine go_ifeq (tgt := 42) (show decode cX10_lettersHere 33 = .ok (.ifCond .eq 9, 3) by decide +kernel) (by decide) (fun hc => ?_) (fun hc => ?_)
    · have h := ht hc
      refine go_iload_n (show decode cX10_lettersHere 42 = .ok (.iload_n 1, 1) by decide +kernel) (by rfl) ?_
      refine go_aload_n (show decode cX10_lettersHere 43 = .ok (.aload_n 0, 1) by decide +kernel) (by rfl) ?_
      refine go_getI (show decode cX10_lettersHere 44 = .ok (.getfield 316, 3) by decide +kernel) fl_X10_316 (Or.inl rfl) (shm_k hsm 53 (by decide) (by decide)) ?_
      obtain ⟨q11, h⟩ := h
      refine go_isub (show decode cX10_lettersHere 47 = .ok (.isub, 1) by decide +kernel) q11 ?_
      exact go_iret (show decode cX10_lettersHere 48 = .ok (.ireturn, 1) by decide +kernel) rfl h
    · have h := hf hc
      obtain ⟨q12, h⟩ := h
      refine go_iinc (show decode cX10_lettersHere 36 = .ok (.iinc 1 1, 3) by decide +kernel) (by rfl) q12 (by decide) ?_
      show Go d MX10_lettersHere 39 [some (vR 53), some (vI (a1 + 1))] [] S F G Q
      refine go_goto (tgt := 9) (show decode cX10_lettersHere 39 = .ok (.goto (-30), 3) by decide +kernel) (by decide) ?_
      exact h
def V_X10_lettersHere_0 (d : Nat) (S : AS) (F : AF) (G : AG) (Q : AQ)  : Prop :=
  (1 ≤ d) ∧
  Ok (d - 1) MX10_blanks [vR 53] S F G (fun w2 S3 F4 G5 =>
  S3 = S ∧
  w2 = none ∧
  ∀ x6 : Int, x6 = F4 53 36 →
  Go d MX10_lettersHere 9 [some (vR 53), some (vI x6)] [] S F4 G5 Q)
theorem R_X10_lettersHere_0 {d : Nat} {S : AS} {F : AF} {G : AG} {Q : AQ}  (hsm : ShM S) (h : V_X10_lettersHere_0 d S F G Q ) : Go d MX10_lettersHere 0 [some (vR 53), none] [] S F G Q := by
  unfold V_X10_lettersHere_0 at h
  refine go_aload_n (show decode cX10_lettersHere 0 = .ok (.aload_n 0, 1) by decide +kernel) (by rfl) ?_
  obtain ⟨q1, h⟩ := h
  refine go_callV (d2 := d - 1) (M2 := MX10_blanks) (n := 0) (ci := 10) (av := []) (st := []) (show decode cX10_lettersHere 1 = .ok (.invokevirtual 329, 3) by decide +kernel) ml_X10_329 mt_X10_blanks min_X10_blanks mse_X10_blanks (by decide) (shm_k hsm 53 (by decide) (by decide)) rfl (Nat.le_of_ble_eq_true rfl) (by omega) (ok_mono h (fun w2 S3 F4 G5 h => ?_))
  obtain ⟨e8, h⟩ := h
  replace e8 := e8.symm; subst e8
  obtain ⟨e9, h⟩ := h
  subst e9
  show Go d MX10_lettersHere 4 [some (vR 53), none] [] S F4 G5 Q
  refine go_aload_n (show decode cX10_lettersHere 4 = .ok (.aload_n 0, 1) by decide +kernel) (by rfl) ?_
  refine go_getI (show decode cX10_lettersHere 5 = .ok (.getfield 316, 3) by decide +kernel) fl_X10_316 (Or.inl rfl) (shm_k hsm 53 (by decide) (by decide)) ?_
  obtain ⟨x6, x6e⟩ : ∃ x6 : Int, x6 = F4 53 36 := ⟨_, rfl⟩
  have h := h x6 x6e
  rw [← x6e]
  refine go_istore_n (show decode cX10_lettersHere 8 = .ok (.istore_n 1, 1) by decide +kernel) (by decide) ?_
  show Go d MX10_lettersHere 9 [some (vR 53), some (vI x6)] [] S F4 G5 Q
  exact h
def V_X10_fails_0 (d : Nat) (S : AS) (F : AF) (G : AG) (Q : AQ) (a1 : Int) (a2 : Int) : Prop :=
  ((F 53 37 = 0) →
    ∀ F1 : AF, F1 = fu F 53 37 a1 →
    ∀ F2 : AF, F2 = fu F1 53 38 a2 →
    Q none S F2 G) ∧
  ((¬ F 53 37 = 0) →
    Q none S F G)
theorem R_X10_fails_0 {d : Nat} {S : AS} {F : AF} {G : AG} {Q : AQ} {a1 : Int} {a2 : Int} (hsm : ShM S) (h : V_X10_fails_0 d S F G Q a1 a2) : Go d MX10_fails 0 [some (vR 53), some (vI a1), some (vI a2)] [] S F G Q := by
  unfold V_X10_fails_0 at h
  refine go_aload_n (show decode cX10_fails 0 = .ok (.aload_n 0, 1) by decide +kernel) (by rfl) ?_
  refine go_getI (show decode cX10_fails 1 = .ok (.getfield 322, 3) by decide +kernel) fl_X10_322 (Or.inl rfl) (shm_k hsm 53 (by decide) (by decide)) ?_
  obtain ⟨ht, hf⟩ := h
  refine go_ifeq (tgt := 8) (show decode cX10_fails 4 = .ok (.ifCond .eq 4, 3) by decide +kernel) (by decide) (fun hc => ?_) (fun hc => ?_)
  · have h := ht hc
    refine go_aload_n (show decode cX10_fails 8 = .ok (.aload_n 0, 1) by decide +kernel) (by rfl) ?_
    refine go_iload_n (show decode cX10_fails 9 = .ok (.iload_n 1, 1) by decide +kernel) (by rfl) ?_
    refine go_putI (show decode cX10_fails 10 = .ok (.putfield 322, 3) by decide +kernel) fl_X10_322 rfl (Or.inl rfl) (shm_k hsm 53 (by decide) (by decide)) ?_
    obtain ⟨F1, F1e⟩ : ∃ F1 : AF, F1 = fu F 53 37 a1 := ⟨_, rfl⟩
    have h := h F1 F1e
    rw [← F1e]
    refine go_aload_n (show decode cX10_fails 13 = .ok (.aload_n 0, 1) by decide +kernel) (by rfl) ?_
    refine go_iload_n (show decode cX10_fails 14 = .ok (.iload_n 2, 1) by decide +kernel) (by rfl) ?_
    refine go_putI (show decode cX10_fails 15 = .ok (.putfield 87, 3) by decide +kernel) fl_X10_87 rfl (Or.inl rfl) (shm_k hsm 53 (by decide) (by decide)) ?_
    obtain ⟨F2, F2e⟩ : ∃ F2 : AF, F2 = fu F1 53 38 a2 := ⟨_, rfl⟩
    have h := h F2 F2e
    rw [← F2e]
    exact go_vret (show decode cX10_fails 18 = .ok (.return_, 1) by decide +kernel) rfl h
  · have h := hf hc
    exact go_vret (show decode cX10_fails 7 = .ok (.return_, 1) by decide +kernel) rfl h
def V_X10_numeral_145 (d : Nat) (S : AS) (F : AF) (G : AG) (Q : AQ) (a1 : Int) (a3 : Int) (a5 : Int) (a6 : Int) : Prop :=
  (1 ≤ d) ∧
  Ok (d - 1) MX10_fails [vR 53, vI 2, vI a5] S F G (fun w2 S3 F4 G5 =>
  S3 = S ∧
  w2 = none ∧
  Q (some (vJ a6)) S F4 G5)
theorem R_X10_numeral_145 {d : Nat} {S : AS} {F : AF} {G : AG} {Q : AQ} {a1 : Int} {a3 : Int} {a5 : Int} {a6 : Int} (hsm : ShM S) (h : V_X10_numeral_145 d S F G Q a1 a3 a5 a6) : Go d MX10_numeral 145 [some (vR 53), some (vJ a1), none, some (vJ a3), none, some (vI a5), some (vJ a6), none] [] S F G Q := by
  unfold V_X10_numeral_145 at h
  refine go_aload_n (show decode cX10_numeral 145 = .ok (.aload_n 0, 1) by decide +kernel) (by rfl) ?_
  refine go_iconst (show decode cX10_numeral 146 = .ok (.iconst 2, 1) by decide +kernel) (by decide) ?_
  refine go_iload (show decode cX10_numeral 147 = .ok (.iload 5, 2) by decide +kernel) (by rfl) ?_
  obtain ⟨q1, h⟩ := h
  refine go_callV (d2 := d - 1) (M2 := MX10_fails) (n := 2) (ci := 10) (av := [vI 2, vI a5]) (st := []) (show decode cX10_numeral 149 = .ok (.invokevirtual 360, 3) by decide +kernel) ml_X10_360 mt_X10_fails min_X10_fails mse_X10_fails (by decide) (shm_k hsm 53 (by decide) (by decide)) rfl (Nat.le_of_ble_eq_true rfl) (by omega) (ok_mono h (fun w2 S3 F4 G5 h => ?_))
  obtain ⟨e8, h⟩ := h
  replace e8 := e8.symm; subst e8
  obtain ⟨e9, h⟩ := h
  subst e9
  show Go d MX10_numeral 152 [some (vR 53), some (vJ a1), none, some (vJ a3), none, some (vI a5), some (vJ a6), none] [] S F4 G5 Q
  refine go_lload (show decode cX10_numeral 152 = .ok (.lload 6, 2) by decide +kernel) (by rfl) ?_
  exact go_lret (show decode cX10_numeral 154 = .ok (.lreturn, 1) by decide +kernel) rfl h
def V_X10_numeral_89 (d : Nat) (S : AS) (F : AF) (G : AG) (Q : AQ) (a1 : Int) (a3 : Int) (a5 : Int) (a6 : Int) (s0 : Int) : Prop :=
  (r32 ((F 53 36) + 1)) ∧
  ∀ F2 : AF, F2 = fu F 53 36 ((F 53 36) + 1) →
  Go d MX10_numeral 22 [some (vR 53), some (vJ a1), none, some (vJ a3), none, some (vI a5), some (vJ s0), none] [] S F2 G Q
theorem R_X10_numeral_89 {d : Nat} {S : AS} {F : AF} {G : AG} {Q : AQ} {a1 : Int} {a3 : Int} {a5 : Int} {a6 : Int} {s0 : Int} (hsm : ShM S) (h : V_X10_numeral_89 d S F G Q a1 a3 a5 a6 s0) : Go d MX10_numeral 89 [some (vR 53), some (vJ a1), none, some (vJ a3), none, some (vI a5), some (vJ a6), none] [vJ s0] S F G Q := by
  unfold V_X10_numeral_89 at h
  refine go_lstore (show decode cX10_numeral 89 = .ok (.lstore 6, 2) by decide +kernel) (by decide) ?_
  show Go d MX10_numeral 91 [some (vR 53), some (vJ a1), none, some (vJ a3), none, some (vI a5), some (vJ s0), none] [] S F G Q
  refine go_aload_n (show decode cX10_numeral 91 = .ok (.aload_n 0, 1) by decide +kernel) (by rfl) ?_
  refine go_dup (show decode cX10_numeral 92 = .ok (.dup, 1) by decide +kernel) ?_
  refine go_getI (show decode cX10_numeral 93 = .ok (.getfield 316, 3) by decide +kernel) fl_X10_316 (Or.inl rfl) (shm_k hsm 53 (by decide) (by decide)) ?_
  refine go_iconst (show decode cX10_numeral 96 = .ok (.iconst 1, 1) by decide +kernel) (by decide) ?_
  obtain ⟨q1, h⟩ := h
  refine go_iadd (show decode cX10_numeral 97 = .ok (.iadd, 1) by decide +kernel) q1 ?_
  refine go_putI (show decode cX10_numeral 98 = .ok (.putfield 316, 3) by decide +kernel) fl_X10_316 rfl (Or.inl rfl) (shm_k hsm 53 (by decide) (by decide)) ?_
  obtain ⟨F2, F2e⟩ : ∃ F2 : AF, F2 = fu F 53 36 ((F 53 36) + 1) := ⟨_, rfl⟩
  have h := h F2 F2e
  rw [← F2e]
  refine go_goto (tgt := 22) (show decode cX10_numeral 101 = .ok (.goto (-79), 3) by decide +kernel) (by decide) ?_
  exact h
def V_X10_numeral_70 (d : Nat) (S : AS) (F : AF) (G : AG) (Q : AQ) (a1 : Int) (a3 : Int) (a5 : Int) (a6 : Int) (s0 : Int) : Prop :=
  ((s0 ≤ 3000000000000000000) →
    V_X10_numeral_89 d S F G Q a1 a3 a5 s0 s0) ∧
  ((¬ s0 ≤ 3000000000000000000) →
    V_X10_numeral_89 d S F G Q a1 a3 a5 s0 3000000000000000001)
theorem R_X10_numeral_70 {d : Nat} {S : AS} {F : AF} {G : AG} {Q : AQ} {a1 : Int} {a3 : Int} {a5 : Int} {a6 : Int} {s0 : Int} (hsm : ShM S) (h : V_X10_numeral_70 d S F G Q a1 a3 a5 a6 s0) : Go d MX10_numeral 70 [some (vR 53), some (vJ a1), none, some (vJ a3), none, some (vI a5), some (vJ a6), none] [vJ s0] S F G Q := by
  unfold V_X10_numeral_70 at h
  refine go_lstore (show decode cX10_numeral 70 = .ok (.lstore 6, 2) by decide +kernel) (by decide) ?_
  show Go d MX10_numeral 72 [some (vR 53), some (vJ a1), none, some (vJ a3), none, some (vI a5), some (vJ s0), none] [] S F G Q
  refine go_lload (show decode cX10_numeral 72 = .ok (.lload 6, 2) by decide +kernel) (by rfl) ?_
  refine go_ldc2 (show decode cX10_numeral 74 = .ok (.ldc2_w 198, 3) by decide +kernel) lc_X10_198 (by decide) ?_
  obtain ⟨ht, hf⟩ := h
  refine go_jle (tgt := 87) (show decode cX10_numeral 77 = .ok (.lcmp, 1) by decide +kernel) (show decode cX10_numeral 78 = .ok (.ifCond .le 9, 3) by decide +kernel) (by decide) (fun hc => ?_) (fun hc => ?_)
  · have h := ht hc
    refine go_lload (show decode cX10_numeral 87 = .ok (.lload 6, 2) by decide +kernel) (by rfl) ?_
    exact R_X10_numeral_89 hsm h
  · have h := hf hc
    refine go_ldc2 (show decode cX10_numeral 81 = .ok (.ldc2_w 356, 3) by decide +kernel) lc_X10_356 (by decide) ?_
    refine go_goto (tgt := 89) (show decode cX10_numeral 84 = .ok (.goto 5, 3) by decide +kernel) (by decide) ?_
    exact R_X10_numeral_89 hsm h
def V_X10_numeral_22 (d : Nat) (S : AS) (F : AF) (G : AG) (Q : AQ) (a1 : Int) (a3 : Int) (a5 : Int) (a6 : Int) : Prop :=
  (1 ≤ d) ∧
  ∃ z6 : Int, Pu (d - 1) MX10_peek [vR 53] S F G (some (vI z6)) ∧
  ∃ z12 : Int, Pu (d - 1) MX10_isIn [vJ z6, vJ 48, vJ 57] S F G (some (vI z12)) ∧
  ((z12 = 0) →
    ((¬ F 53 36 = a5) →
      (r32 ((F 53 36) - a5)) ∧
      ((19 < (F 53 36) - a5) →
        V_X10_numeral_145 d S F G Q a1 a3 a5 a6) ∧
      ((¬ 19 < (F 53 36) - a5) →
        ∃ z19 : Int, Pu (d - 1) MX10_isIn [vJ a6, vJ a1, vJ a3] S F G (some (vI z19)) ∧
        ((¬ z19 = 0) →
          Q (some (vJ a6)) S F G) ∧
        ((z19 = 0) →
          V_X10_numeral_145 d S F G Q a1 a3 a5 a6))) ∧
    ((F 53 36 = a5) →
      Ok (d - 1) MX10_fails [vR 53, vI 1, vI a5] S F G (fun w21 S22 F23 G24 =>
      S22 = S ∧
      w21 = none ∧
      Q (some (vJ a6)) S F23 G24))) ∧
  ((¬ z12 = 0) →
    ((a6 ≤ 300000000000000001) →
      (r64 (10 * a6)) ∧
      ∃ z30 : Int, Pu (d - 1) MX10_peek [vR 53] S F G (some (vI z30)) ∧
      (r64 ((10 * a6) + z30)) ∧
      (r64 (((10 * a6) + z30) - 48)) ∧
      V_X10_numeral_70 d S F G Q a1 a3 a5 a6 (((10 * a6) + z30) - 48)) ∧
    ((¬ a6 ≤ 300000000000000001) →
      V_X10_numeral_70 d S F G Q a1 a3 a5 a6 3000000000000000001))
theorem R_X10_numeral_22 {d : Nat} {S : AS} {F : AF} {G : AG} {Q : AQ} {a1 : Int} {a3 : Int} {a5 : Int} {a6 : Int} (hsm : ShM S) (h : V_X10_numeral_22 d S F G Q a1 a3 a5 a6) : Go d MX10_numeral 22 [some (vR 53), some (vJ a1), none, some (vJ a3), none, some (vI a5), some (vJ a6), none] [] S F G Q := by
  unfold V_X10_numeral_22 at h
  refine go_aload_n (show decode cX10_numeral 22 = .ok (.aload_n 0, 1) by decide +kernel) (by rfl) ?_
  obtain ⟨q1, h⟩ := h
  obtain ⟨z6, p7, h⟩ := h
  refine go_callV (d2 := d - 1) (M2 := MX10_peek) (n := 0) (ci := 10) (av := []) (st := []) (show decode cX10_numeral 23 = .ok (.invokevirtual 325, 3) by decide +kernel) ml_X10_325 mt_X10_peek min_X10_peek mse_X10_peek (by decide) (shm_k hsm 53 (by decide) (by decide)) rfl (Nat.le_of_ble_eq_true rfl) (by omega) (ok_mono p7 (fun w2 S3 F4 G5 e9 => ?_))
  obtain ⟨e1, e2, e3, e4⟩ := e9
  subst e1
  replace e2 := e2.symm; subst e2
  replace e3 := e3.symm; subst e3
  replace e4 := e4.symm; subst e4
  show Go d MX10_numeral 26 [some (vR 53), some (vJ a1), none, some (vJ a3), none, some (vI a5), some (vJ a6), none] [vI z6] S F G Q
  refine go_i2l (show decode cX10_numeral 26 = .ok (.i2l, 1) by decide +kernel) ?_
  refine go_ldc2 (show decode cX10_numeral 27 = .ok (.ldc2_w 350, 3) by decide +kernel) lc_X10_350 (by decide) ?_
  refine go_ldc2 (show decode cX10_numeral 30 = .ok (.ldc2_w 352, 3) by decide +kernel) lc_X10_352 (by decide) ?_
  obtain ⟨z12, p13, h⟩ := h
  refine go_callS (d2 := d - 1) (M2 := MX10_isIn) (n := 3) (av := [vJ z6, vJ 48, vJ 57]) (st := []) (show decode cX10_numeral 33 = .ok (.invokestatic 116, 3) by decide +kernel) ml_X10_116 mt_X10_isIn mst_X10_isIn rfl (Nat.le_of_ble_eq_true rfl) (by omega) (ok_mono p13 (fun w8 S9 F10 G11 e9 => ?_))
  obtain ⟨e1, e2, e3, e4⟩ := e9
  subst e1
  replace e2 := e2.symm; subst e2
  replace e3 := e3.symm; subst e3
  replace e4 := e4.symm; subst e4
  show Go d MX10_numeral 36 [some (vR 53), some (vJ a1), none, some (vJ a3), none, some (vI a5), some (vJ a6), none] [vI z12] S F G Q
  obtain ⟨ht, hf⟩ := h
  refine go_ifeq (tgt := 104) (show decode cX10_numeral 36 = .ok (.ifCond .eq 68, 3) by decide +kernel) (by decide) (fun hc => ?_) (fun hc => ?_)
  · have h := ht hc
    refine go_aload_n (show decode cX10_numeral 104 = .ok (.aload_n 0, 1) by decide +kernel) (by rfl) ?_
    refine go_getI (show decode cX10_numeral 105 = .ok (.getfield 316, 3) by decide +kernel) fl_X10_316 (Or.inl rfl) (shm_k hsm 53 (by decide) (by decide)) ?_
    refine go_iload (show decode cX10_numeral 108 = .ok (.iload 5, 2) by decide +kernel) (by rfl) ?_
    obtain ⟨ht, hf⟩ := h
    refine go_icmpne (tgt := 123) (show decode cX10_numeral 110 = .ok (.if_icmp .ne 13, 3) by decide +kernel) (by decide) (fun hc => ?_) (fun hc => ?_)
    · have h := ht hc
      refine go_aload_n (show decode cX10_numeral 123 = .ok (.aload_n 0, 1) by decide +kernel) (by rfl) ?_
      refine go_getI (show decode cX10_numeral 124 = .ok (.getfield 316, 3) by decide +kernel) fl_X10_316 (Or.inl rfl) (shm_k hsm 53 (by decide) (by decide)) ?_
      refine go_iload (show decode cX10_numeral 127 = .ok (.iload 5, 2) by decide +kernel) (by rfl) ?_
      obtain ⟨q14, h⟩ := h
      refine go_isub (show decode cX10_numeral 129 = .ok (.isub, 1) by decide +kernel) q14 ?_
      refine go_bipush (show decode cX10_numeral 130 = .ok (.bipush 19, 2) by decide +kernel) (by decide) ?_
      obtain ⟨ht, hf⟩ := h
      refine go_icmpgt (tgt := 145) (show decode cX10_numeral 132 = .ok (.if_icmp .gt 13, 3) by decide +kernel) (by decide) (fun hc => ?_) (fun hc => ?_)
      · have h := ht hc
        exact R_X10_numeral_145 hsm h
      · have h := hf hc
        refine go_lload (show decode cX10_numeral 135 = .ok (.lload 6, 2) by decide +kernel) (by rfl) ?_
        refine go_lload_n (show decode cX10_numeral 137 = .ok (.lload_n 1, 1) by decide +kernel) (by rfl) ?_
        refine go_lload_n (show decode cX10_numeral 138 = .ok (.lload_n 3, 1) by decide +kernel) (by rfl) ?_
        obtain ⟨z19, p20, h⟩ := h
        refine go_callS (d2 := d - 1) (M2 := MX10_isIn) (n := 3) (av := [vJ a6, vJ a1, vJ a3]) (st := []) (show decode cX10_numeral 139 = .ok (.invokestatic 116, 3) by decide +kernel) ml_X10_116 mt_X10_isIn mst_X10_isIn rfl (Nat.le_of_ble_eq_true rfl) (by omega) (ok_mono p20 (fun w15 S16 F17 G18 e9 => ?_))
        obtain ⟨e1, e2, e3, e4⟩ := e9
        subst e1
        replace e2 := e2.symm; subst e2
        replace e3 := e3.symm; subst e3
        replace e4 := e4.symm; subst e4
        show Go d MX10_numeral 142 [some (vR 53), some (vJ a1), none, some (vJ a3), none, some (vI a5), some (vJ a6), none] [vI z19] S F G Q
        obtain ⟨ht, hf⟩ := h
        refine go_ifne (tgt := 152) (show decode cX10_numeral 142 = .ok (.ifCond .ne 10, 3) by decide +kernel) (by decide) (fun hc => ?_) (fun hc => ?_)
        · have h := ht hc
          refine go_lload (show decode cX10_numeral 152 = .ok (.lload 6, 2) by decide +kernel) (by rfl) ?_
          exact go_lret (show decode cX10_numeral 154 = .ok (.lreturn, 1) by decide +kernel) rfl h
        · have h := hf hc
          exact R_X10_numeral_145 hsm h
    · have h := hf hc
      refine go_aload_n (show decode cX10_numeral 113 = .ok (.aload_n 0, 1) by decide +kernel) (by rfl) ?_
      refine go_iconst (show decode cX10_numeral 114 = .ok (.iconst 1, 1) by decide +kernel) (by decide) ?_
      refine go_iload (show decode cX10_numeral 115 = .ok (.iload 5, 2) by decide +kernel) (by rfl) ?_
      refine go_callV (d2 := d - 1) (M2 := MX10_fails) (n := 2) (ci := 10) (av := [vI 1, vI a5]) (st := []) (show decode cX10_numeral 117 = .ok (.invokevirtual 360, 3) by decide +kernel) ml_X10_360 mt_X10_fails min_X10_fails mse_X10_fails (by decide) (shm_k hsm 53 (by decide) (by decide)) rfl (Nat.le_of_ble_eq_true rfl) (by omega) (ok_mono h (fun w21 S22 F23 G24 h => ?_))
      obtain ⟨e8, h⟩ := h
      replace e8 := e8.symm; subst e8
      obtain ⟨e9, h⟩ := h
      subst e9
      show Go d MX10_numeral 120 [some (vR 53), some (vJ a1), none, some (vJ a3), none, some (vI a5), some (vJ a6), none] [] S F23 G24 Q
      refine go_goto (tgt := 152) (show decode cX10_numeral 120 = .ok (.goto 32, 3) by decide +kernel) (by decide) ?_
      refine go_lload (show decode cX10_numeral 152 = .ok (.lload 6, 2) by decide +kernel) (by rfl) ?_
      exact go_lret (show decode cX10_numeral 154 = .ok (.lreturn, 1) by decide +kernel) rfl h
  · have h := hf hc
    refine go_lload (show decode cX10_numeral 39 = .ok (.lload 6, 2) by decide +kernel) (by rfl) ?_
    refine go_ldc2 (show decode cX10_numeral 41 = .ok (.ldc2_w 354, 3) by decide +kernel) lc_X10_354 (by decide) ?_
    obtain ⟨ht, hf⟩ := h
    refine go_jle (tgt := 54) (show decode cX10_numeral 44 = .ok (.lcmp, 1) by decide +kernel) (show decode cX10_numeral 45 = .ok (.ifCond .le 9, 3) by decide +kernel) (by decide) (fun hc => ?_) (fun hc => ?_)
    · have h := ht hc
      refine go_ldc2 (show decode cX10_numeral 54 = .ok (.ldc2_w 358, 3) by decide +kernel) lc_X10_358 (by decide) ?_
      refine go_lload (show decode cX10_numeral 57 = .ok (.lload 6, 2) by decide +kernel) (by rfl) ?_
      obtain ⟨q25, h⟩ := h
      refine go_lmul (show decode cX10_numeral 59 = .ok (.lmul, 1) by decide +kernel) q25 ?_
      refine go_aload_n (show decode cX10_numeral 60 = .ok (.aload_n 0, 1) by decide +kernel) (by rfl) ?_
      obtain ⟨z30, p31, h⟩ := h
      refine go_callV (d2 := d - 1) (M2 := MX10_peek) (n := 0) (ci := 10) (av := []) (st := [vJ (10 * a6)]) (show decode cX10_numeral 61 = .ok (.invokevirtual 325, 3) by decide +kernel) ml_X10_325 mt_X10_peek min_X10_peek mse_X10_peek (by decide) (shm_k hsm 53 (by decide) (by decide)) rfl (Nat.le_of_ble_eq_true rfl) (by omega) (ok_mono p31 (fun w26 S27 F28 G29 e9 => ?_))
      obtain ⟨e1, e2, e3, e4⟩ := e9
      subst e1
      replace e2 := e2.symm; subst e2
      replace e3 := e3.symm; subst e3
      replace e4 := e4.symm; subst e4
      show Go d MX10_numeral 64 [some (vR 53), some (vJ a1), none, some (vJ a3), none, some (vI a5), some (vJ a6), none] [vI z30, vJ (10 * a6)] S F G Q
      refine go_i2l (show decode cX10_numeral 64 = .ok (.i2l, 1) by decide +kernel) ?_
      obtain ⟨q32, h⟩ := h
      refine go_ladd (show decode cX10_numeral 65 = .ok (.ladd, 1) by decide +kernel) q32 ?_
      refine go_ldc2 (show decode cX10_numeral 66 = .ok (.ldc2_w 350, 3) by decide +kernel) lc_X10_350 (by decide) ?_
      obtain ⟨q33, h⟩ := h
      refine go_lsub (show decode cX10_numeral 69 = .ok (.lsub, 1) by decide +kernel) q33 ?_
      exact R_X10_numeral_70 hsm h
    · have h := hf hc
      refine go_ldc2 (show decode cX10_numeral 48 = .ok (.ldc2_w 356, 3) by decide +kernel) lc_X10_356 (by decide) ?_
      refine go_goto (tgt := 70) (show decode cX10_numeral 51 = .ok (.goto 19, 3) by decide +kernel) (by decide) ?_
      exact R_X10_numeral_70 hsm h
def V_X10_numeral_0 (d : Nat) (S : AS) (F : AF) (G : AG) (Q : AQ) (a1 : Int) (a3 : Int) : Prop :=
  ((F 53 37 = 0) →
    (1 ≤ d) ∧
    Ok (d - 1) MX10_blanks [vR 53] S F G (fun w2 S3 F4 G5 =>
    S3 = S ∧
    w2 = none ∧
    ∀ x6 : Int, x6 = F4 53 36 →
    Go d MX10_numeral 22 [some (vR 53), some (vJ a1), none, some (vJ a3), none, some (vI x6), some (vJ 0), none] [] S F4 G5 Q)) ∧
  ((¬ F 53 37 = 0) →
    Q (some (vJ 0)) S F G)
theorem R_X10_numeral_0 {d : Nat} {S : AS} {F : AF} {G : AG} {Q : AQ} {a1 : Int} {a3 : Int} (hsm : ShM S) (h : V_X10_numeral_0 d S F G Q a1 a3) : Go d MX10_numeral 0 [some (vR 53), some (vJ a1), none, some (vJ a3), none, none, none, none] [] S F G Q := by
  unfold V_X10_numeral_0 at h
  refine go_aload_n (show decode cX10_numeral 0 = .ok (.aload_n 0, 1) by decide +kernel) (by rfl) ?_
  refine go_getI (show decode cX10_numeral 1 = .ok (.getfield 322, 3) by decide +kernel) fl_X10_322 (Or.inl rfl) (shm_k hsm 53 (by decide) (by decide)) ?_
  obtain ⟨ht, hf⟩ := h
  refine go_ifeq (tgt := 9) (show decode cX10_numeral 4 = .ok (.ifCond .eq 5, 3) by decide +kernel) (by decide) (fun hc => ?_) (fun hc => ?_)
  · have h := ht hc
    refine go_aload_n (show decode cX10_numeral 9 = .ok (.aload_n 0, 1) by decide +kernel) (by rfl) ?_
    obtain ⟨q1, h⟩ := h
    refine go_callV (d2 := d - 1) (M2 := MX10_blanks) (n := 0) (ci := 10) (av := []) (st := []) (show decode cX10_numeral 10 = .ok (.invokevirtual 329, 3) by decide +kernel) ml_X10_329 mt_X10_blanks min_X10_blanks mse_X10_blanks (by decide) (shm_k hsm 53 (by decide) (by decide)) rfl (Nat.le_of_ble_eq_true rfl) (by omega) (ok_mono h (fun w2 S3 F4 G5 h => ?_))
    obtain ⟨e8, h⟩ := h
    replace e8 := e8.symm; subst e8
    obtain ⟨e9, h⟩ := h
    subst e9
    show Go d MX10_numeral 13 [some (vR 53), some (vJ a1), none, some (vJ a3), none, none, none, none] [] S F4 G5 Q
    refine go_aload_n (show decode cX10_numeral 13 = .ok (.aload_n 0, 1) by decide +kernel) (by rfl) ?_
    refine go_getI (show decode cX10_numeral 14 = .ok (.getfield 316, 3) by decide +kernel) fl_X10_316 (Or.inl rfl) (shm_k hsm 53 (by decide) (by decide)) ?_
    obtain ⟨x6, x6e⟩ : ∃ x6 : Int, x6 = F4 53 36 := ⟨_, rfl⟩
    have h := h x6 x6e
    rw [← x6e]
    refine go_istore (show decode cX10_numeral 17 = .ok (.istore 5, 2) by decide +kernel) (by decide) ?_
    show Go d MX10_numeral 19 [some (vR 53), some (vJ a1), none, some (vJ a3), none, some (vI x6), none, none] [] S F4 G5 Q
    refine go_lconst (n := 0) (show decode cX10_numeral 19 = .ok (.lconst 0, 1) by decide +kernel) ?_
    show Go d MX10_numeral 20 [some (vR 53), some (vJ a1), none, some (vJ a3), none, some (vI x6), none, none] [vJ 0] S F4 G5 Q
    refine go_lstore (show decode cX10_numeral 20 = .ok (.lstore 6, 2) by decide +kernel) (by decide) ?_
    show Go d MX10_numeral 22 [some (vR 53), some (vJ a1), none, some (vJ a3), none, some (vI x6), some (vJ 0), none] [] S F4 G5 Q
    exact h
  · have h := hf hc
    refine go_lconst (n := 0) (show decode cX10_numeral 7 = .ok (.lconst 0, 1) by decide +kernel) ?_
    show Go d MX10_numeral 8 [some (vR 53), some (vJ a1), none, some (vJ a3), none, none, none, none] [vJ 0] S F G Q
    exact go_lret (show decode cX10_numeral 8 = .ok (.lreturn, 1) by decide +kernel) rfl h
def V_X10_does_0 (d : Nat) (S : AS) (F : AF) (G : AG) (Q : AQ) (a1 : Int) : Prop :=
  (r32 (7 * a1)) ∧
  ∀ x2 : Int, x2 = 7 * a1 →
  (r32 (x2 + 1)) ∧
  ((0 : Int) ≤ x2 + 1) ∧
  ((x2 + 1 : Int) < 210) ∧
  (r32 (G 73 (x2 + 1))) ∧
  ∀ x7 : Int, x7 = G 73 (x2 + 1) →
  (r32 (x2 + 2)) ∧
  ((0 : Int) ≤ x2 + 2) ∧
  ((x2 + 2 : Int) < 210) ∧
  (r32 (G 73 (x2 + 2))) ∧
  ∀ x12 : Int, x12 = G 73 (x2 + 2) →
  (r32 (x2 + 3)) ∧
  ((0 : Int) ≤ x2 + 3) ∧
  ((x2 + 3 : Int) < 210) ∧
  (r32 (G 73 (x2 + 3))) ∧
  ∀ x17 : Int, x17 = G 73 (x2 + 3) →
  (r32 (x2 + 4)) ∧
  ((0 : Int) ≤ x2 + 4) ∧
  ((x2 + 4 : Int) < 210) ∧
  (r32 (G 73 (x2 + 4))) ∧
  ∀ x22 : Int, x22 = G 73 (x2 + 4) →
  (r32 (x2 + 5)) ∧
  ((0 : Int) ≤ x2 + 5) ∧
  ((x2 + 5 : Int) < 210) ∧
  (r32 (G 73 (x2 + 5))) ∧
  ∀ x27 : Int, x27 = G 73 (x2 + 5) →
  ((0 : Int) ≤ x2) ∧
  ((x2 : Int) < 210) ∧
  (r32 (G 73 x2)) ∧
  ((G 73 x2 = 0) →
    (r32 (x2 + 6)) ∧
    ((0 : Int) ≤ x2 + 6) ∧
    ((x2 + 6 : Int) < 210) ∧
    (r32 (G 73 (x2 + 6))) ∧
    (1 ≤ d) ∧
    Ok (d - 1) MX10_add [vR 53, vI x7, vI x12, vI x17, vI x22, vI x27, vI (G 73 (x2 + 6))] S F G (fun w36 S37 F38 G39 =>
    S37 = S ∧
    ∃ z40 : Int, w36 = some (vJ z40) ∧
    Q (some (vJ z40)) S F38 G39)) ∧
  ((G 73 x2 = 1) →
    (r32 (x2 + 6)) ∧
    ((0 : Int) ≤ x2 + 6) ∧
    ((x2 + 6 : Int) < 210) ∧
    (1 ≤ d) ∧
    Ok (d - 1) MX10_pick [vR 53, vI x7, vI x12, vI x17, vI x22, vI x27, vJ (G 73 (x2 + 6))] S F G (fun w45 S46 F47 G48 =>
    S46 = S ∧
    ∃ z49 : Int, w45 = some (vJ z49) ∧
    Q (some (vJ z49)) S F47 G48)) ∧
  ((G 73 x2 = 2) →
    (1 ≤ d) ∧
    Ok (d - 1) MX10_begin [vR 53] S F G (fun w51 S52 F53 G54 =>
    S52 = S ∧
    ∃ z55 : Int, w51 = some (vI z55) ∧
    Q (some (vJ z55)) S F53 G54)) ∧
  ((G 73 x2 = 3) →
    (1 ≤ d) ∧
    Ok (d - 1) MX10_commit [vR 53] S F G (fun w57 S58 F59 G60 =>
    S58 = S ∧
    ∃ z61 : Int, w57 = some (vI z61) ∧
    Q (some (vJ z61)) S F59 G60)) ∧
  ((G 73 x2 < 0 ∨ 3 < G 73 x2) →
    (1 ≤ d) ∧
    Ok (d - 1) MX10_cancel [vR 53] S F G (fun w63 S64 F65 G66 =>
    S64 = S ∧
    ∃ z67 : Int, w63 = some (vI z67) ∧
    Q (some (vJ z67)) S F65 G66))
theorem R_X10_does_0 {d : Nat} {S : AS} {F : AF} {G : AG} {Q : AQ} {a1 : Int} (hsm : ShM S) (h : V_X10_does_0 d S F G Q a1) : Go d MX10_does 0 [some (vR 53), some (vI a1), none, none, none, none, none, none] [] S F G Q := by
  unfold V_X10_does_0 at h
  refine go_bipush (show decode cX10_does 0 = .ok (.bipush 7, 2) by decide +kernel) (by decide) ?_
  refine go_iload_n (show decode cX10_does 2 = .ok (.iload_n 1, 1) by decide +kernel) (by rfl) ?_
  obtain ⟨q1, h⟩ := h
  refine go_imul (show decode cX10_does 3 = .ok (.imul, 1) by decide +kernel) q1 ?_
  obtain ⟨x2, x2e⟩ : ∃ x2 : Int, x2 = 7 * a1 := ⟨_, rfl⟩
  have h := h x2 x2e
  rw [← x2e]
  refine go_istore_n (show decode cX10_does 4 = .ok (.istore_n 2, 1) by decide +kernel) (by decide) ?_
  show Go d MX10_does 5 [some (vR 53), some (vI a1), some (vI x2), none, none, none, none, none] [] S F G Q
  refine go_aload_n (show decode cX10_does 5 = .ok (.aload_n 0, 1) by decide +kernel) (by rfl) ?_
  refine go_getRc (show decode cX10_does 6 = .ok (.getfield 90, 3) by decide +kernel) fl_X10_90 rfl (shm_k hsm 53 (by decide) (by decide)) (v := 73) (shm_r hsm 53 40 (by decide) (by decide)) ?_
  refine go_iload_n (show decode cX10_does 9 = .ok (.iload_n 2, 1) by decide +kernel) (by rfl) ?_
  refine go_iconst (show decode cX10_does 10 = .ok (.iconst 1, 1) by decide +kernel) (by decide) ?_
  obtain ⟨q3, h⟩ := h
  refine go_iadd (show decode cX10_does 11 = .ok (.iadd, 1) by decide +kernel) q3 ?_
  obtain ⟨q4, h⟩ := h
  obtain ⟨q5, h⟩ := h
  refine go_laload (show decode cX10_does 12 = .ok (.laload, 1) by decide +kernel) (shm_k hsm 73 (by decide) (by decide)) q4 (lt_n (m := 210) q5 (shm_n hsm 73 (by decide) (by decide))) ?_
  obtain ⟨q6, h⟩ := h
  refine go_l2i (show decode cX10_does 13 = .ok (.l2i, 1) by decide +kernel) q6 ?_
  obtain ⟨x7, x7e⟩ : ∃ x7 : Int, x7 = G 73 (x2 + 1) := ⟨_, rfl⟩
  have h := h x7 x7e
  rw [← x7e]
  refine go_istore_n (show decode cX10_does 14 = .ok (.istore_n 3, 1) by decide +kernel) (by decide) ?_
  show Go d MX10_does 15 [some (vR 53), some (vI a1), some (vI x2), some (vI x7), none, none, none, none] [] S F G Q
  refine go_aload_n (show decode cX10_does 15 = .ok (.aload_n 0, 1) by decide +kernel) (by rfl) ?_
  refine go_getRc (show decode cX10_does 16 = .ok (.getfield 90, 3) by decide +kernel) fl_X10_90 rfl (shm_k hsm 53 (by decide) (by decide)) (v := 73) (shm_r hsm 53 40 (by decide) (by decide)) ?_
  refine go_iload_n (show decode cX10_does 19 = .ok (.iload_n 2, 1) by decide +kernel) (by rfl) ?_
  refine go_iconst (show decode cX10_does 20 = .ok (.iconst 2, 1) by decide +kernel) (by decide) ?_
  obtain ⟨q8, h⟩ := h
  refine go_iadd (show decode cX10_does 21 = .ok (.iadd, 1) by decide +kernel) q8 ?_
  obtain ⟨q9, h⟩ := h
  obtain ⟨q10, h⟩ := h
  refine go_laload (show decode cX10_does 22 = .ok (.laload, 1) by decide +kernel) (shm_k hsm 73 (by decide) (by decide)) q9 (lt_n (m := 210) q10 (shm_n hsm 73 (by decide) (by decide))) ?_
  obtain ⟨q11, h⟩ := h
  refine go_l2i (show decode cX10_does 23 = .ok (.l2i, 1) by decide +kernel) q11 ?_
  obtain ⟨x12, x12e⟩ : ∃ x12 : Int, x12 = G 73 (x2 + 2) := ⟨_, rfl⟩
  have h := h x12 x12e
  rw [← x12e]
  refine go_istore (show decode cX10_does 24 = .ok (.istore 4, 2) by decide +kernel) (by decide) ?_
  show Go d MX10_does 26 [some (vR 53), some (vI a1), some (vI x2), some (vI x7), some (vI x12), none, none, none] [] S F G Q
  refine go_aload_n (show decode cX10_does 26 = .ok (.aload_n 0, 1) by decide +kernel) (by rfl) ?_
  refine go_getRc (show decode cX10_does 27 = .ok (.getfield 90, 3) by decide +kernel) fl_X10_90 rfl (shm_k hsm 53 (by decide) (by decide)) (v := 73) (shm_r hsm 53 40 (by decide) (by decide)) ?_
  refine go_iload_n (show decode cX10_does 30 = .ok (.iload_n 2, 1) by decide +kernel) (by rfl) ?_
  refine go_iconst (show decode cX10_does 31 = .ok (.iconst 3, 1) by decide +kernel) (by decide) ?_
  obtain ⟨q13, h⟩ := h
  refine go_iadd (show decode cX10_does 32 = .ok (.iadd, 1) by decide +kernel) q13 ?_
  obtain ⟨q14, h⟩ := h
  obtain ⟨q15, h⟩ := h
  refine go_laload (show decode cX10_does 33 = .ok (.laload, 1) by decide +kernel) (shm_k hsm 73 (by decide) (by decide)) q14 (lt_n (m := 210) q15 (shm_n hsm 73 (by decide) (by decide))) ?_
  obtain ⟨q16, h⟩ := h
  refine go_l2i (show decode cX10_does 34 = .ok (.l2i, 1) by decide +kernel) q16 ?_
  obtain ⟨x17, x17e⟩ : ∃ x17 : Int, x17 = G 73 (x2 + 3) := ⟨_, rfl⟩
  have h := h x17 x17e
  rw [← x17e]
  refine go_istore (show decode cX10_does 35 = .ok (.istore 5, 2) by decide +kernel) (by decide) ?_
  show Go d MX10_does 37 [some (vR 53), some (vI a1), some (vI x2), some (vI x7), some (vI x12), some (vI x17), none, none] [] S F G Q
  refine go_aload_n (show decode cX10_does 37 = .ok (.aload_n 0, 1) by decide +kernel) (by rfl) ?_
  refine go_getRc (show decode cX10_does 38 = .ok (.getfield 90, 3) by decide +kernel) fl_X10_90 rfl (shm_k hsm 53 (by decide) (by decide)) (v := 73) (shm_r hsm 53 40 (by decide) (by decide)) ?_
  refine go_iload_n (show decode cX10_does 41 = .ok (.iload_n 2, 1) by decide +kernel) (by rfl) ?_
  refine go_iconst (show decode cX10_does 42 = .ok (.iconst 4, 1) by decide +kernel) (by decide) ?_
  obtain ⟨q18, h⟩ := h
  refine go_iadd (show decode cX10_does 43 = .ok (.iadd, 1) by decide +kernel) q18 ?_
  obtain ⟨q19, h⟩ := h
  obtain ⟨q20, h⟩ := h
  refine go_laload (show decode cX10_does 44 = .ok (.laload, 1) by decide +kernel) (shm_k hsm 73 (by decide) (by decide)) q19 (lt_n (m := 210) q20 (shm_n hsm 73 (by decide) (by decide))) ?_
  obtain ⟨q21, h⟩ := h
  refine go_l2i (show decode cX10_does 45 = .ok (.l2i, 1) by decide +kernel) q21 ?_
  obtain ⟨x22, x22e⟩ : ∃ x22 : Int, x22 = G 73 (x2 + 4) := ⟨_, rfl⟩
  have h := h x22 x22e
  rw [← x22e]
  refine go_istore (show decode cX10_does 46 = .ok (.istore 6, 2) by decide +kernel) (by decide) ?_
  show Go d MX10_does 48 [some (vR 53), some (vI a1), some (vI x2), some (vI x7), some (vI x12), some (vI x17), some (vI x22), none] [] S F G Q
  refine go_aload_n (show decode cX10_does 48 = .ok (.aload_n 0, 1) by decide +kernel) (by rfl) ?_
  refine go_getRc (show decode cX10_does 49 = .ok (.getfield 90, 3) by decide +kernel) fl_X10_90 rfl (shm_k hsm 53 (by decide) (by decide)) (v := 73) (shm_r hsm 53 40 (by decide) (by decide)) ?_
  refine go_iload_n (show decode cX10_does 52 = .ok (.iload_n 2, 1) by decide +kernel) (by rfl) ?_
  refine go_iconst (show decode cX10_does 53 = .ok (.iconst 5, 1) by decide +kernel) (by decide) ?_
  obtain ⟨q23, h⟩ := h
  refine go_iadd (show decode cX10_does 54 = .ok (.iadd, 1) by decide +kernel) q23 ?_
  obtain ⟨q24, h⟩ := h
  obtain ⟨q25, h⟩ := h
  refine go_laload (show decode cX10_does 55 = .ok (.laload, 1) by decide +kernel) (shm_k hsm 73 (by decide) (by decide)) q24 (lt_n (m := 210) q25 (shm_n hsm 73 (by decide) (by decide))) ?_
  obtain ⟨q26, h⟩ := h
  refine go_l2i (show decode cX10_does 56 = .ok (.l2i, 1) by decide +kernel) q26 ?_
  obtain ⟨x27, x27e⟩ : ∃ x27 : Int, x27 = G 73 (x2 + 5) := ⟨_, rfl⟩
  have h := h x27 x27e
  rw [← x27e]
  refine go_istore (show decode cX10_does 57 = .ok (.istore 7, 2) by decide +kernel) (by decide) ?_
  show Go d MX10_does 59 [some (vR 53), some (vI a1), some (vI x2), some (vI x7), some (vI x12), some (vI x17), some (vI x22), some (vI x27)] [] S F G Q
  refine go_aload_n (show decode cX10_does 59 = .ok (.aload_n 0, 1) by decide +kernel) (by rfl) ?_
  refine go_getRc (show decode cX10_does 60 = .ok (.getfield 90, 3) by decide +kernel) fl_X10_90 rfl (shm_k hsm 53 (by decide) (by decide)) (v := 73) (shm_r hsm 53 40 (by decide) (by decide)) ?_
  refine go_iload_n (show decode cX10_does 63 = .ok (.iload_n 2, 1) by decide +kernel) (by rfl) ?_
  obtain ⟨q28, h⟩ := h
  obtain ⟨q29, h⟩ := h
  refine go_laload (show decode cX10_does 64 = .ok (.laload, 1) by decide +kernel) (shm_k hsm 73 (by decide) (by decide)) q28 (lt_n (m := 210) q29 (shm_n hsm 73 (by decide) (by decide))) ?_
  obtain ⟨q30, h⟩ := h
  refine go_l2i (show decode cX10_does 65 = .ok (.l2i, 1) by decide +kernel) q30 ?_
  obtain ⟨h_0, h_1, h_2, h_3, h_d⟩ := h
  by_cases hd9 : G 73 x2 < 0 ∨ 3 < G 73 x2
  · have h := h_d hd9
    refine go_swOut (tgt := 155) (show decode cX10_does 66 = .ok (.tableswitch 89 0 3 #[30, 54, 77, 83], 30) by decide +kernel) hd9 (by decide) ?_
    refine go_aload_n (show decode cX10_does 155 = .ok (.aload_n 0, 1) by decide +kernel) (by rfl) ?_
    obtain ⟨q62, h⟩ := h
    refine go_callV (d2 := d - 1) (M2 := MX10_cancel) (n := 0) (ci := 10) (av := []) (st := []) (show decode cX10_does 156 = .ok (.invokevirtual 387, 3) by decide +kernel) ml_X10_387 mt_X10_cancel min_X10_cancel mse_X10_cancel (by decide) (shm_k hsm 53 (by decide) (by decide)) rfl (Nat.le_of_ble_eq_true rfl) (by omega) (ok_mono h (fun w63 S64 F65 G66 h => ?_))
    obtain ⟨e8, h⟩ := h
    replace e8 := e8.symm; subst e8
    obtain ⟨z67, e9, h⟩ := h
    subst e9
    show Go d MX10_does 159 [some (vR 53), some (vI a1), some (vI x2), some (vI x7), some (vI x12), some (vI x17), some (vI x22), some (vI x27)] [vI z67] S F65 G66 Q
    refine go_i2l (show decode cX10_does 159 = .ok (.i2l, 1) by decide +kernel) ?_
    exact go_lret (show decode cX10_does 160 = .ok (.lreturn, 1) by decide +kernel) rfl h
  by_cases hc0 : G 73 x2 = 0
  · have h := h_0 hc0
    refine go_swIn (tgt := 96) (show decode cX10_does 66 = .ok (.tableswitch 89 0 3 #[30, 54, 77, 83], 30) by decide +kernel) (by omega) (by omega) (by rw [hc0]; rfl) (by decide) ?_
    refine go_aload_n (show decode cX10_does 96 = .ok (.aload_n 0, 1) by decide +kernel) (by rfl) ?_
    refine go_iload_n (show decode cX10_does 97 = .ok (.iload_n 3, 1) by decide +kernel) (by rfl) ?_
    refine go_iload (show decode cX10_does 98 = .ok (.iload 4, 2) by decide +kernel) (by rfl) ?_
    refine go_iload (show decode cX10_does 100 = .ok (.iload 5, 2) by decide +kernel) (by rfl) ?_
    refine go_iload (show decode cX10_does 102 = .ok (.iload 6, 2) by decide +kernel) (by rfl) ?_
    refine go_iload (show decode cX10_does 104 = .ok (.iload 7, 2) by decide +kernel) (by rfl) ?_
    refine go_aload_n (show decode cX10_does 106 = .ok (.aload_n 0, 1) by decide +kernel) (by rfl) ?_
    refine go_getRc (show decode cX10_does 107 = .ok (.getfield 90, 3) by decide +kernel) fl_X10_90 rfl (shm_k hsm 53 (by decide) (by decide)) (v := 73) (shm_r hsm 53 40 (by decide) (by decide)) ?_
    refine go_iload_n (show decode cX10_does 110 = .ok (.iload_n 2, 1) by decide +kernel) (by rfl) ?_
    refine go_bipush (show decode cX10_does 111 = .ok (.bipush 6, 2) by decide +kernel) (by decide) ?_
    obtain ⟨q31, h⟩ := h
    refine go_iadd (show decode cX10_does 113 = .ok (.iadd, 1) by decide +kernel) q31 ?_
    obtain ⟨q32, h⟩ := h
    obtain ⟨q33, h⟩ := h
    refine go_laload (show decode cX10_does 114 = .ok (.laload, 1) by decide +kernel) (shm_k hsm 73 (by decide) (by decide)) q32 (lt_n (m := 210) q33 (shm_n hsm 73 (by decide) (by decide))) ?_
    obtain ⟨q34, h⟩ := h
    refine go_l2i (show decode cX10_does 115 = .ok (.l2i, 1) by decide +kernel) q34 ?_
    obtain ⟨q35, h⟩ := h
    refine go_callV (d2 := d - 1) (M2 := MX10_add) (n := 6) (ci := 10) (av := [vI x7, vI x12, vI x17, vI x22, vI x27, vI (G 73 (x2 + 6))]) (st := []) (show decode cX10_does 116 = .ok (.invokevirtual 373, 3) by decide +kernel) ml_X10_373 mt_X10_add min_X10_add mse_X10_add (by decide) (shm_k hsm 53 (by decide) (by decide)) rfl (Nat.le_of_ble_eq_true rfl) (by omega) (ok_mono h (fun w36 S37 F38 G39 h => ?_))
    obtain ⟨e8, h⟩ := h
    replace e8 := e8.symm; subst e8
    obtain ⟨z40, e9, h⟩ := h
    subst e9
    show Go d MX10_does 119 [some (vR 53), some (vI a1), some (vI x2), some (vI x7), some (vI x12), some (vI x17), some (vI x22), some (vI x27)] [vJ z40] S F38 G39 Q
    exact go_lret (show decode cX10_does 119 = .ok (.lreturn, 1) by decide +kernel) rfl h
  by_cases hc1 : G 73 x2 = 1
  · have h := h_1 hc1
    refine go_swIn (tgt := 120) (show decode cX10_does 66 = .ok (.tableswitch 89 0 3 #[30, 54, 77, 83], 30) by decide +kernel) (by omega) (by omega) (by rw [hc1]; rfl) (by decide) ?_
    refine go_aload_n (show decode cX10_does 120 = .ok (.aload_n 0, 1) by decide +kernel) (by rfl) ?_
    refine go_iload_n (show decode cX10_does 121 = .ok (.iload_n 3, 1) by decide +kernel) (by rfl) ?_
    refine go_iload (show decode cX10_does 122 = .ok (.iload 4, 2) by decide +kernel) (by rfl) ?_
    refine go_iload (show decode cX10_does 124 = .ok (.iload 5, 2) by decide +kernel) (by rfl) ?_
    refine go_iload (show decode cX10_does 126 = .ok (.iload 6, 2) by decide +kernel) (by rfl) ?_
    refine go_iload (show decode cX10_does 128 = .ok (.iload 7, 2) by decide +kernel) (by rfl) ?_
    refine go_aload_n (show decode cX10_does 130 = .ok (.aload_n 0, 1) by decide +kernel) (by rfl) ?_
    refine go_getRc (show decode cX10_does 131 = .ok (.getfield 90, 3) by decide +kernel) fl_X10_90 rfl (shm_k hsm 53 (by decide) (by decide)) (v := 73) (shm_r hsm 53 40 (by decide) (by decide)) ?_
    refine go_iload_n (show decode cX10_does 134 = .ok (.iload_n 2, 1) by decide +kernel) (by rfl) ?_
    refine go_bipush (show decode cX10_does 135 = .ok (.bipush 6, 2) by decide +kernel) (by decide) ?_
    obtain ⟨q41, h⟩ := h
    refine go_iadd (show decode cX10_does 137 = .ok (.iadd, 1) by decide +kernel) q41 ?_
    obtain ⟨q42, h⟩ := h
    obtain ⟨q43, h⟩ := h
    refine go_laload (show decode cX10_does 138 = .ok (.laload, 1) by decide +kernel) (shm_k hsm 73 (by decide) (by decide)) q42 (lt_n (m := 210) q43 (shm_n hsm 73 (by decide) (by decide))) ?_
    obtain ⟨q44, h⟩ := h
    refine go_callV (d2 := d - 1) (M2 := MX10_pick) (n := 6) (ci := 10) (av := [vI x7, vI x12, vI x17, vI x22, vI x27, vJ (G 73 (x2 + 6))]) (st := []) (show decode cX10_does 139 = .ok (.invokevirtual 377, 3) by decide +kernel) ml_X10_377 mt_X10_pick min_X10_pick mse_X10_pick (by decide) (shm_k hsm 53 (by decide) (by decide)) rfl (Nat.le_of_ble_eq_true rfl) (by omega) (ok_mono h (fun w45 S46 F47 G48 h => ?_))
    obtain ⟨e8, h⟩ := h
    replace e8 := e8.symm; subst e8
    obtain ⟨z49, e9, h⟩ := h
    subst e9
    show Go d MX10_does 142 [some (vR 53), some (vI a1), some (vI x2), some (vI x7), some (vI x12), some (vI x17), some (vI x22), some (vI x27)] [vJ z49] S F47 G48 Q
    exact go_lret (show decode cX10_does 142 = .ok (.lreturn, 1) by decide +kernel) rfl h
  by_cases hc2 : G 73 x2 = 2
  · have h := h_2 hc2
    refine go_swIn (tgt := 143) (show decode cX10_does 66 = .ok (.tableswitch 89 0 3 #[30, 54, 77, 83], 30) by decide +kernel) (by omega) (by omega) (by rw [hc2]; rfl) (by decide) ?_
    refine go_aload_n (show decode cX10_does 143 = .ok (.aload_n 0, 1) by decide +kernel) (by rfl) ?_
    obtain ⟨q50, h⟩ := h
    refine go_callV (d2 := d - 1) (M2 := MX10_begin) (n := 0) (ci := 10) (av := []) (st := []) (show decode cX10_does 144 = .ok (.invokevirtual 381, 3) by decide +kernel) ml_X10_381 mt_X10_begin min_X10_begin mse_X10_begin (by decide) (shm_k hsm 53 (by decide) (by decide)) rfl (Nat.le_of_ble_eq_true rfl) (by omega) (ok_mono h (fun w51 S52 F53 G54 h => ?_))
    obtain ⟨e8, h⟩ := h
    replace e8 := e8.symm; subst e8
    obtain ⟨z55, e9, h⟩ := h
    subst e9
    show Go d MX10_does 147 [some (vR 53), some (vI a1), some (vI x2), some (vI x7), some (vI x12), some (vI x17), some (vI x22), some (vI x27)] [vI z55] S F53 G54 Q
    refine go_i2l (show decode cX10_does 147 = .ok (.i2l, 1) by decide +kernel) ?_
    exact go_lret (show decode cX10_does 148 = .ok (.lreturn, 1) by decide +kernel) rfl h
  by_cases hc3 : G 73 x2 = 3
  · have h := h_3 hc3
    refine go_swIn (tgt := 149) (show decode cX10_does 66 = .ok (.tableswitch 89 0 3 #[30, 54, 77, 83], 30) by decide +kernel) (by omega) (by omega) (by rw [hc3]; rfl) (by decide) ?_
    refine go_aload_n (show decode cX10_does 149 = .ok (.aload_n 0, 1) by decide +kernel) (by rfl) ?_
    obtain ⟨q56, h⟩ := h
    refine go_callV (d2 := d - 1) (M2 := MX10_commit) (n := 0) (ci := 10) (av := []) (st := []) (show decode cX10_does 150 = .ok (.invokevirtual 384, 3) by decide +kernel) ml_X10_384 mt_X10_commit min_X10_commit mse_X10_commit (by decide) (shm_k hsm 53 (by decide) (by decide)) rfl (Nat.le_of_ble_eq_true rfl) (by omega) (ok_mono h (fun w57 S58 F59 G60 h => ?_))
    obtain ⟨e8, h⟩ := h
    replace e8 := e8.symm; subst e8
    obtain ⟨z61, e9, h⟩ := h
    subst e9
    show Go d MX10_does 153 [some (vR 53), some (vI a1), some (vI x2), some (vI x7), some (vI x12), some (vI x17), some (vI x22), some (vI x27)] [vI z61] S F59 G60 Q
    refine go_i2l (show decode cX10_does 153 = .ok (.i2l, 1) by decide +kernel) ?_
    exact go_lret (show decode cX10_does 154 = .ok (.lreturn, 1) by decide +kernel) rfl h
  exact absurd hd9 (by omega)
def V_X10_fault_0 (d : Nat) (S : AS) (F : AF) (G : AG) (Q : AQ) (a1 : Int) : Prop :=
  ∀ F1 : AF, F1 = fu F 53 0 0 →
  ((¬ a1 = 0) →
    ((¬ a1 = 1) →
      ((¬ a1 = 2) →
        Q (some (vI (-1))) S F1 G) ∧
      ((a1 = 2) →
        Q (some (vI (F1 53 39))) S F1 G)) ∧
    ((a1 = 1) →
      Q (some (vI (F1 53 38))) S F1 G)) ∧
  ((a1 = 0) →
    Q (some (vI (F1 53 37))) S F1 G)
theorem R_X10_fault_0 {d : Nat} {S : AS} {F : AF} {G : AG} {Q : AQ} {a1 : Int} (hsm : ShM S) (h : V_X10_fault_0 d S F G Q a1) : Go d MX10_fault 0 [some (vR 53), some (vI a1)] [] S F G Q := by
  unfold V_X10_fault_0 at h
  refine go_aload_n (show decode cX10_fault 0 = .ok (.aload_n 0, 1) by decide +kernel) (by rfl) ?_
  refine go_iconst (show decode cX10_fault 1 = .ok (.iconst 0, 1) by decide +kernel) (by decide) ?_
  refine go_putI (show decode cX10_fault 2 = .ok (.putfield 1, 3) by decide +kernel) fl_X10_1 rfl (Or.inl rfl) (shm_k hsm 53 (by decide) (by decide)) ?_
  obtain ⟨F1, F1e⟩ : ∃ F1 : AF, F1 = fu F 53 0 0 := ⟨_, rfl⟩
  have h := h F1 F1e
  rw [← F1e]
  refine go_iload_n (show decode cX10_fault 5 = .ok (.iload_n 1, 1) by decide +kernel) (by rfl) ?_
  obtain ⟨ht, hf⟩ := h
  refine go_ifne (tgt := 16) (show decode cX10_fault 6 = .ok (.ifCond .ne 10, 3) by decide +kernel) (by decide) (fun hc => ?_) (fun hc => ?_)
  · have h := ht hc
    refine go_iload_n (show decode cX10_fault 16 = .ok (.iload_n 1, 1) by decide +kernel) (by rfl) ?_
    refine go_iconst (show decode cX10_fault 17 = .ok (.iconst 1, 1) by decide +kernel) (by decide) ?_
    obtain ⟨ht, hf⟩ := h
    refine go_icmpne (tgt := 28) (show decode cX10_fault 18 = .ok (.if_icmp .ne 10, 3) by decide +kernel) (by decide) (fun hc => ?_) (fun hc => ?_)
    · have h := ht hc
      refine go_iload_n (show decode cX10_fault 28 = .ok (.iload_n 1, 1) by decide +kernel) (by rfl) ?_
      refine go_iconst (show decode cX10_fault 29 = .ok (.iconst 2, 1) by decide +kernel) (by decide) ?_
      obtain ⟨ht, hf⟩ := h
      refine go_icmpne (tgt := 40) (show decode cX10_fault 30 = .ok (.if_icmp .ne 10, 3) by decide +kernel) (by decide) (fun hc => ?_) (fun hc => ?_)
      · have h := ht hc
        refine go_iconst (show decode cX10_fault 40 = .ok (.iconst (-1), 1) by decide +kernel) (by decide) ?_
        exact go_iret (show decode cX10_fault 41 = .ok (.ireturn, 1) by decide +kernel) rfl h
      · have h := hf hc
        refine go_aload_n (show decode cX10_fault 33 = .ok (.aload_n 0, 1) by decide +kernel) (by rfl) ?_
        refine go_getI (show decode cX10_fault 34 = .ok (.getfield 390, 3) by decide +kernel) fl_X10_390 (Or.inl rfl) (shm_k hsm 53 (by decide) (by decide)) ?_
        refine go_goto (tgt := 41) (show decode cX10_fault 37 = .ok (.goto 4, 3) by decide +kernel) (by decide) ?_
        exact go_iret (show decode cX10_fault 41 = .ok (.ireturn, 1) by decide +kernel) rfl h
    · have h := hf hc
      refine go_aload_n (show decode cX10_fault 21 = .ok (.aload_n 0, 1) by decide +kernel) (by rfl) ?_
      refine go_getI (show decode cX10_fault 22 = .ok (.getfield 87, 3) by decide +kernel) fl_X10_87 (Or.inl rfl) (shm_k hsm 53 (by decide) (by decide)) ?_
      refine go_goto (tgt := 41) (show decode cX10_fault 25 = .ok (.goto 16, 3) by decide +kernel) (by decide) ?_
      exact go_iret (show decode cX10_fault 41 = .ok (.ireturn, 1) by decide +kernel) rfl h
  · have h := hf hc
    refine go_aload_n (show decode cX10_fault 9 = .ok (.aload_n 0, 1) by decide +kernel) (by rfl) ?_
    refine go_getI (show decode cX10_fault 10 = .ok (.getfield 322, 3) by decide +kernel) fl_X10_322 (Or.inl rfl) (shm_k hsm 53 (by decide) (by decide)) ?_
    refine go_goto (tgt := 41) (show decode cX10_fault 13 = .ok (.goto 28, 3) by decide +kernel) (by decide) ?_
    exact go_iret (show decode cX10_fault 41 = .ok (.ireturn, 1) by decide +kernel) rfl h
def V_X10_sum_0 (d : Nat) (S : AS) (F : AF) (G : AG) (Q : AQ) (a1 : Int) (a2 : Int) (a3 : Int) (a4 : Int) (a5 : Int) : Prop :=
  ∀ F1 : AF, F1 = fu F 53 0 0 →
  (1 ≤ d) ∧
  ∃ z7 : Int, Pu (d - 1) MX10_isGoodOrAll [vI a1] S F1 G (some (vI z7)) ∧
  ((z7 = 0) →
    Q (some (vJ (-2))) S F1 G) ∧
  ((¬ z7 = 0) →
    ∃ z13 : Int, Pu (d - 1) MX10_isRectangle [vR 53, vI a2, vI a3, vI a4, vI a5] S F1 G (some (vI z13)) ∧
    ((z13 = 0) →
      Q (some (vJ (-2))) S F1 G) ∧
    ((¬ z13 = 0) →
      ∃ z19 : Int, Pu (d - 1) MX10_sumOf [vR 53, vI a1, vI a2, vI a3, vI a4, vI a5] S F1 G (some (vJ z19)) ∧
      Q (some (vJ z19)) S F1 G))
theorem R_X10_sum_0 {d : Nat} {S : AS} {F : AF} {G : AG} {Q : AQ} {a1 : Int} {a2 : Int} {a3 : Int} {a4 : Int} {a5 : Int} (hsm : ShM S) (h : V_X10_sum_0 d S F G Q a1 a2 a3 a4 a5) : Go d MX10_sum 0 [some (vR 53), some (vI a1), some (vI a2), some (vI a3), some (vI a4), some (vI a5)] [] S F G Q := by
  unfold V_X10_sum_0 at h
  refine go_aload_n (show decode cX10_sum 0 = .ok (.aload_n 0, 1) by decide +kernel) (by rfl) ?_
  refine go_iconst (show decode cX10_sum 1 = .ok (.iconst 0, 1) by decide +kernel) (by decide) ?_
  refine go_putI (show decode cX10_sum 2 = .ok (.putfield 1, 3) by decide +kernel) fl_X10_1 rfl (Or.inl rfl) (shm_k hsm 53 (by decide) (by decide)) ?_
  obtain ⟨F1, F1e⟩ : ∃ F1 : AF, F1 = fu F 53 0 0 := ⟨_, rfl⟩
  have h := h F1 F1e
  rw [← F1e]
  refine go_iload_n (show decode cX10_sum 5 = .ok (.iload_n 1, 1) by decide +kernel) (by rfl) ?_
  obtain ⟨q2, h⟩ := h
  obtain ⟨z7, p8, h⟩ := h
  refine go_callS (d2 := d - 1) (M2 := MX10_isGoodOrAll) (n := 1) (av := [vI a1]) (st := []) (show decode cX10_sum 6 = .ok (.invokestatic 403, 3) by decide +kernel) ml_X10_403 mt_X10_isGoodOrAll mst_X10_isGoodOrAll rfl (Nat.le_of_ble_eq_true rfl) (by omega) (ok_mono p8 (fun w3 S4 F5 G6 e9 => ?_))
  obtain ⟨e1, e2, e3, e4⟩ := e9
  subst e1
  replace e2 := e2.symm; subst e2
  replace e3 := e3.symm; subst e3
  replace e4 := e4.symm; subst e4
  show Go d MX10_sum 9 [some (vR 53), some (vI a1), some (vI a2), some (vI a3), some (vI a4), some (vI a5)] [vI z7] S F1 G Q
  obtain ⟨ht, hf⟩ := h
  refine go_ifeq (tgt := 39) (show decode cX10_sum 9 = .ok (.ifCond .eq 30, 3) by decide +kernel) (by decide) (fun hc => ?_) (fun hc => ?_)
  · have h := ht hc
    refine go_ldc2 (show decode cX10_sum 39 = .ok (.ldc2_w 174, 3) by decide +kernel) lc_X10_174 (by decide) ?_
    exact go_lret (show decode cX10_sum 42 = .ok (.lreturn, 1) by decide +kernel) rfl h
  · have h := hf hc
    refine go_aload_n (show decode cX10_sum 12 = .ok (.aload_n 0, 1) by decide +kernel) (by rfl) ?_
    refine go_iload_n (show decode cX10_sum 13 = .ok (.iload_n 2, 1) by decide +kernel) (by rfl) ?_
    refine go_iload_n (show decode cX10_sum 14 = .ok (.iload_n 3, 1) by decide +kernel) (by rfl) ?_
    refine go_iload (show decode cX10_sum 15 = .ok (.iload 4, 2) by decide +kernel) (by rfl) ?_
    refine go_iload (show decode cX10_sum 17 = .ok (.iload 5, 2) by decide +kernel) (by rfl) ?_
    obtain ⟨z13, p14, h⟩ := h
    refine go_callV (d2 := d - 1) (M2 := MX10_isRectangle) (n := 4) (ci := 10) (av := [vI a2, vI a3, vI a4, vI a5]) (st := []) (show decode cX10_sum 19 = .ok (.invokevirtual 170, 3) by decide +kernel) ml_X10_170 mt_X10_isRectangle min_X10_isRectangle mse_X10_isRectangle (by decide) (shm_k hsm 53 (by decide) (by decide)) rfl (Nat.le_of_ble_eq_true rfl) (by omega) (ok_mono p14 (fun w9 S10 F11 G12 e9 => ?_))
    obtain ⟨e1, e2, e3, e4⟩ := e9
    subst e1
    replace e2 := e2.symm; subst e2
    replace e3 := e3.symm; subst e3
    replace e4 := e4.symm; subst e4
    show Go d MX10_sum 22 [some (vR 53), some (vI a1), some (vI a2), some (vI a3), some (vI a4), some (vI a5)] [vI z13] S F1 G Q
    obtain ⟨ht, hf⟩ := h
    refine go_ifeq (tgt := 39) (show decode cX10_sum 22 = .ok (.ifCond .eq 17, 3) by decide +kernel) (by decide) (fun hc => ?_) (fun hc => ?_)
    · have h := ht hc
      refine go_ldc2 (show decode cX10_sum 39 = .ok (.ldc2_w 174, 3) by decide +kernel) lc_X10_174 (by decide) ?_
      exact go_lret (show decode cX10_sum 42 = .ok (.lreturn, 1) by decide +kernel) rfl h
    · have h := hf hc
      refine go_aload_n (show decode cX10_sum 25 = .ok (.aload_n 0, 1) by decide +kernel) (by rfl) ?_
      refine go_iload_n (show decode cX10_sum 26 = .ok (.iload_n 1, 1) by decide +kernel) (by rfl) ?_
      refine go_iload_n (show decode cX10_sum 27 = .ok (.iload_n 2, 1) by decide +kernel) (by rfl) ?_
      refine go_iload_n (show decode cX10_sum 28 = .ok (.iload_n 3, 1) by decide +kernel) (by rfl) ?_
      refine go_iload (show decode cX10_sum 29 = .ok (.iload 4, 2) by decide +kernel) (by rfl) ?_
      refine go_iload (show decode cX10_sum 31 = .ok (.iload 5, 2) by decide +kernel) (by rfl) ?_
      obtain ⟨z19, p20, h⟩ := h
      refine go_callV (d2 := d - 1) (M2 := MX10_sumOf) (n := 5) (ci := 10) (av := [vI a1, vI a2, vI a3, vI a4, vI a5]) (st := []) (show decode cX10_sum 33 = .ok (.invokevirtual 251, 3) by decide +kernel) ml_X10_251 mt_X10_sumOf min_X10_sumOf mse_X10_sumOf (by decide) (shm_k hsm 53 (by decide) (by decide)) rfl (Nat.le_of_ble_eq_true rfl) (by omega) (ok_mono p20 (fun w15 S16 F17 G18 e9 => ?_))
      obtain ⟨e1, e2, e3, e4⟩ := e9
      subst e1
      replace e2 := e2.symm; subst e2
      replace e3 := e3.symm; subst e3
      replace e4 := e4.symm; subst e4
      show Go d MX10_sum 36 [some (vR 53), some (vI a1), some (vI a2), some (vI a3), some (vI a4), some (vI a5)] [vJ z19] S F1 G Q
      refine go_goto (tgt := 42) (show decode cX10_sum 36 = .ok (.goto 6, 3) by decide +kernel) (by decide) ?_
      exact go_lret (show decode cX10_sum 42 = .ok (.lreturn, 1) by decide +kernel) rfl h
def V_X10_isGoodOrAll_0 (d : Nat) (S : AS) (F : AF) (G : AG) (Q : AQ) (a0 : Int) : Prop :=
  ((a0 = -1) →
    Q (some (vI 1)) S F G) ∧
  ((¬ a0 = -1) →
    (1 ≤ d) ∧
    ∃ z6 : Int, Pu (d - 1) MX10_isGood [vI a0] S F G (some (vI z6)) ∧
    ((z6 = 0) →
      Q (some (vI 0)) S F G) ∧
    ((¬ z6 = 0) →
      Q (some (vI 1)) S F G))
theorem R_X10_isGoodOrAll_0 {d : Nat} {S : AS} {F : AF} {G : AG} {Q : AQ} {a0 : Int} (hsm : ShM S) (h : V_X10_isGoodOrAll_0 d S F G Q a0) : Go d MX10_isGoodOrAll 0 [some (vI a0)] [] S F G Q := by
  unfold V_X10_isGoodOrAll_0 at h
  refine go_iload_n (show decode cX10_isGoodOrAll 0 = .ok (.iload_n 0, 1) by decide +kernel) (by rfl) ?_
  refine go_iconst (show decode cX10_isGoodOrAll 1 = .ok (.iconst (-1), 1) by decide +kernel) (by decide) ?_
  obtain ⟨ht, hf⟩ := h
  refine go_icmpeq (tgt := 12) (show decode cX10_isGoodOrAll 2 = .ok (.if_icmp .eq 10, 3) by decide +kernel) (by decide) (fun hc => ?_) (fun hc => ?_)
  · have h := ht hc
    refine go_iconst (show decode cX10_isGoodOrAll 12 = .ok (.iconst 1, 1) by decide +kernel) (by decide) ?_
    refine go_goto (tgt := 17) (show decode cX10_isGoodOrAll 13 = .ok (.goto 4, 3) by decide +kernel) (by decide) ?_
    exact go_zret (show decode cX10_isGoodOrAll 17 = .ok (.ireturn, 1) by decide +kernel) rfl (by decide) h
  · have h := hf hc
    refine go_iload_n (show decode cX10_isGoodOrAll 5 = .ok (.iload_n 0, 1) by decide +kernel) (by rfl) ?_
    obtain ⟨q1, h⟩ := h
    obtain ⟨z6, p7, h⟩ := h
    refine go_callS (d2 := d - 1) (M2 := MX10_isGood) (n := 1) (av := [vI a0]) (st := []) (show decode cX10_isGoodOrAll 6 = .ok (.invokestatic 167, 3) by decide +kernel) ml_X10_167 mt_X10_isGood mst_X10_isGood rfl (Nat.le_of_ble_eq_true rfl) (by omega) (ok_mono p7 (fun w2 S3 F4 G5 e9 => ?_))
    obtain ⟨e1, e2, e3, e4⟩ := e9
    subst e1
    replace e2 := e2.symm; subst e2
    replace e3 := e3.symm; subst e3
    replace e4 := e4.symm; subst e4
    show Go d MX10_isGoodOrAll 9 [some (vI a0)] [vI z6] S F G Q
    obtain ⟨ht, hf⟩ := h
    refine go_ifeq (tgt := 16) (show decode cX10_isGoodOrAll 9 = .ok (.ifCond .eq 7, 3) by decide +kernel) (by decide) (fun hc => ?_) (fun hc => ?_)
    · have h := ht hc
      refine go_iconst (show decode cX10_isGoodOrAll 16 = .ok (.iconst 0, 1) by decide +kernel) (by decide) ?_
      exact go_zret (show decode cX10_isGoodOrAll 17 = .ok (.ireturn, 1) by decide +kernel) rfl (by decide) h
    · have h := hf hc
      refine go_iconst (show decode cX10_isGoodOrAll 12 = .ok (.iconst 1, 1) by decide +kernel) (by decide) ?_
      refine go_goto (tgt := 17) (show decode cX10_isGoodOrAll 13 = .ok (.goto 4, 3) by decide +kernel) (by decide) ?_
      exact go_zret (show decode cX10_isGoodOrAll 17 = .ok (.ireturn, 1) by decide +kernel) rfl (by decide) h
def V_X10_at_0 (d : Nat) (S : AS) (F : AF) (G : AG) (Q : AQ) (a1 : Int) (a2 : Int) (a3 : Int) : Prop :=
  ∀ F1 : AF, F1 = fu F 53 0 0 →
  (1 ≤ d) ∧
  ∃ z7 : Int, Pu (d - 1) MX10_isGoodOrAll [vI a1] S F1 G (some (vI z7)) ∧
  ((z7 = 0) →
    Q (some (vJ (-2))) S F1 G) ∧
  ((¬ z7 = 0) →
    ∃ z13 : Int, Pu (d - 1) MX10_isCell [vR 53, vI a2, vI a3] S F1 G (some (vI z13)) ∧
    ((z13 = 0) →
      Q (some (vJ (-2))) S F1 G) ∧
    ((¬ z13 = 0) →
      ∃ z19 : Int, Pu (d - 1) MX10_blockAt [vR 53, vI 0, vI a2] S F1 G (some (vI z19)) ∧
      ∃ z25 : Int, Pu (d - 1) MX10_blockAt [vR 53, vI 1, vI a3] S F1 G (some (vI z25)) ∧
      ∃ z31 : Int, Pu (d - 1) MX10_in [vR 53, vI a1, vI z19, vI z25] S F1 G (some (vJ z31)) ∧
      Q (some (vJ z31)) S F1 G))
theorem R_X10_at_0 {d : Nat} {S : AS} {F : AF} {G : AG} {Q : AQ} {a1 : Int} {a2 : Int} {a3 : Int} (hsm : ShM S) (h : V_X10_at_0 d S F G Q a1 a2 a3) : Go d MX10_at 0 [some (vR 53), some (vI a1), some (vI a2), some (vI a3)] [] S F G Q := by
  unfold V_X10_at_0 at h
  refine go_aload_n (show decode cX10_at 0 = .ok (.aload_n 0, 1) by decide +kernel) (by rfl) ?_
  refine go_iconst (show decode cX10_at 1 = .ok (.iconst 0, 1) by decide +kernel) (by decide) ?_
  refine go_putI (show decode cX10_at 2 = .ok (.putfield 1, 3) by decide +kernel) fl_X10_1 rfl (Or.inl rfl) (shm_k hsm 53 (by decide) (by decide)) ?_
  obtain ⟨F1, F1e⟩ : ∃ F1 : AF, F1 = fu F 53 0 0 := ⟨_, rfl⟩
  have h := h F1 F1e
  rw [← F1e]
  refine go_iload_n (show decode cX10_at 5 = .ok (.iload_n 1, 1) by decide +kernel) (by rfl) ?_
  obtain ⟨q2, h⟩ := h
  obtain ⟨z7, p8, h⟩ := h
  refine go_callS (d2 := d - 1) (M2 := MX10_isGoodOrAll) (n := 1) (av := [vI a1]) (st := []) (show decode cX10_at 6 = .ok (.invokestatic 403, 3) by decide +kernel) ml_X10_403 mt_X10_isGoodOrAll mst_X10_isGoodOrAll rfl (Nat.le_of_ble_eq_true rfl) (by omega) (ok_mono p8 (fun w3 S4 F5 G6 e9 => ?_))
  obtain ⟨e1, e2, e3, e4⟩ := e9
  subst e1
  replace e2 := e2.symm; subst e2
  replace e3 := e3.symm; subst e3
  replace e4 := e4.symm; subst e4
  show Go d MX10_at 9 [some (vR 53), some (vI a1), some (vI a2), some (vI a3)] [vI z7] S F1 G Q
  obtain ⟨ht, hf⟩ := h
  refine go_ifeq (tgt := 41) (show decode cX10_at 9 = .ok (.ifCond .eq 32, 3) by decide +kernel) (by decide) (fun hc => ?_) (fun hc => ?_)
  · have h := ht hc
    refine go_ldc2 (show decode cX10_at 41 = .ok (.ldc2_w 174, 3) by decide +kernel) lc_X10_174 (by decide) ?_
    exact go_lret (show decode cX10_at 44 = .ok (.lreturn, 1) by decide +kernel) rfl h
  · have h := hf hc
    refine go_aload_n (show decode cX10_at 12 = .ok (.aload_n 0, 1) by decide +kernel) (by rfl) ?_
    refine go_iload_n (show decode cX10_at 13 = .ok (.iload_n 2, 1) by decide +kernel) (by rfl) ?_
    refine go_iload_n (show decode cX10_at 14 = .ok (.iload_n 3, 1) by decide +kernel) (by rfl) ?_
    obtain ⟨z13, p14, h⟩ := h
    refine go_callV (d2 := d - 1) (M2 := MX10_isCell) (n := 2) (ci := 10) (av := [vI a2, vI a3]) (st := []) (show decode cX10_at 15 = .ok (.invokevirtual 406, 3) by decide +kernel) ml_X10_406 mt_X10_isCell min_X10_isCell mse_X10_isCell (by decide) (shm_k hsm 53 (by decide) (by decide)) rfl (Nat.le_of_ble_eq_true rfl) (by omega) (ok_mono p14 (fun w9 S10 F11 G12 e9 => ?_))
    obtain ⟨e1, e2, e3, e4⟩ := e9
    subst e1
    replace e2 := e2.symm; subst e2
    replace e3 := e3.symm; subst e3
    replace e4 := e4.symm; subst e4
    show Go d MX10_at 18 [some (vR 53), some (vI a1), some (vI a2), some (vI a3)] [vI z13] S F1 G Q
    obtain ⟨ht, hf⟩ := h
    refine go_ifeq (tgt := 41) (show decode cX10_at 18 = .ok (.ifCond .eq 23, 3) by decide +kernel) (by decide) (fun hc => ?_) (fun hc => ?_)
    · have h := ht hc
      refine go_ldc2 (show decode cX10_at 41 = .ok (.ldc2_w 174, 3) by decide +kernel) lc_X10_174 (by decide) ?_
      exact go_lret (show decode cX10_at 44 = .ok (.lreturn, 1) by decide +kernel) rfl h
    · have h := hf hc
      refine go_aload_n (show decode cX10_at 21 = .ok (.aload_n 0, 1) by decide +kernel) (by rfl) ?_
      refine go_iload_n (show decode cX10_at 22 = .ok (.iload_n 1, 1) by decide +kernel) (by rfl) ?_
      refine go_aload_n (show decode cX10_at 23 = .ok (.aload_n 0, 1) by decide +kernel) (by rfl) ?_
      refine go_iconst (show decode cX10_at 24 = .ok (.iconst 0, 1) by decide +kernel) (by decide) ?_
      refine go_iload_n (show decode cX10_at 25 = .ok (.iload_n 2, 1) by decide +kernel) (by rfl) ?_
      obtain ⟨z19, p20, h⟩ := h
      refine go_callV (d2 := d - 1) (M2 := MX10_blockAt) (n := 2) (ci := 10) (av := [vI 0, vI a2]) (st := [vI a1, vR 53]) (show decode cX10_at 26 = .ok (.invokevirtual 265, 3) by decide +kernel) ml_X10_265 mt_X10_blockAt min_X10_blockAt mse_X10_blockAt (by decide) (shm_k hsm 53 (by decide) (by decide)) rfl (Nat.le_of_ble_eq_true rfl) (by omega) (ok_mono p20 (fun w15 S16 F17 G18 e9 => ?_))
      obtain ⟨e1, e2, e3, e4⟩ := e9
      subst e1
      replace e2 := e2.symm; subst e2
      replace e3 := e3.symm; subst e3
      replace e4 := e4.symm; subst e4
      show Go d MX10_at 29 [some (vR 53), some (vI a1), some (vI a2), some (vI a3)] [vI z19, vI a1, vR 53] S F1 G Q
      refine go_aload_n (show decode cX10_at 29 = .ok (.aload_n 0, 1) by decide +kernel) (by rfl) ?_
      refine go_iconst (show decode cX10_at 30 = .ok (.iconst 1, 1) by decide +kernel) (by decide) ?_
      refine go_iload_n (show decode cX10_at 31 = .ok (.iload_n 3, 1) by decide +kernel) (by rfl) ?_
      obtain ⟨z25, p26, h⟩ := h
      refine go_callV (d2 := d - 1) (M2 := MX10_blockAt) (n := 2) (ci := 10) (av := [vI 1, vI a3]) (st := [vI z19, vI a1, vR 53]) (show decode cX10_at 32 = .ok (.invokevirtual 265, 3) by decide +kernel) ml_X10_265 mt_X10_blockAt min_X10_blockAt mse_X10_blockAt (by decide) (shm_k hsm 53 (by decide) (by decide)) rfl (Nat.le_of_ble_eq_true rfl) (by omega) (ok_mono p26 (fun w21 S22 F23 G24 e9 => ?_))
      obtain ⟨e1, e2, e3, e4⟩ := e9
      subst e1
      replace e2 := e2.symm; subst e2
      replace e3 := e3.symm; subst e3
      replace e4 := e4.symm; subst e4
      show Go d MX10_at 35 [some (vR 53), some (vI a1), some (vI a2), some (vI a3)] [vI z25, vI z19, vI a1, vR 53] S F1 G Q
      obtain ⟨z31, p32, h⟩ := h
      refine go_callV (d2 := d - 1) (M2 := MX10_in) (n := 3) (ci := 10) (av := [vI a1, vI z19, vI z25]) (st := []) (show decode cX10_at 35 = .ok (.invokevirtual 163, 3) by decide +kernel) ml_X10_163 mt_X10_in min_X10_in mse_X10_in (by decide) (shm_k hsm 53 (by decide) (by decide)) rfl (Nat.le_of_ble_eq_true rfl) (by omega) (ok_mono p32 (fun w27 S28 F29 G30 e9 => ?_))
      obtain ⟨e1, e2, e3, e4⟩ := e9
      subst e1
      replace e2 := e2.symm; subst e2
      replace e3 := e3.symm; subst e3
      replace e4 := e4.symm; subst e4
      show Go d MX10_at 38 [some (vR 53), some (vI a1), some (vI a2), some (vI a3)] [vJ z31] S F1 G Q
      refine go_goto (tgt := 44) (show decode cX10_at 38 = .ok (.goto 6, 3) by decide +kernel) (by decide) ?_
      exact go_lret (show decode cX10_at 44 = .ok (.lreturn, 1) by decide +kernel) rfl h
def V_X10_isCell_0 (d : Nat) (S : AS) (F : AF) (G : AG) (Q : AQ) (a1 : Int) (a2 : Int) : Prop :=
  (r32 ((F 53 1) - 1)) ∧
  (1 ≤ d) ∧
  ∃ z7 : Int, Pu (d - 1) MX10_isIn [vJ a1, vJ 0, vJ ((F 53 1) - 1)] S F G (some (vI z7)) ∧
  ((z7 = 0) →
    Q (some (vI 0)) S F G) ∧
  ((¬ z7 = 0) →
    (r32 ((F 53 2) - 1)) ∧
    ∃ z14 : Int, Pu (d - 1) MX10_isIn [vJ a2, vJ 0, vJ ((F 53 2) - 1)] S F G (some (vI z14)) ∧
    ((z14 = 0) →
      Q (some (vI 0)) S F G) ∧
    ((¬ z14 = 0) →
      Q (some (vI 1)) S F G))
theorem R_X10_isCell_0 {d : Nat} {S : AS} {F : AF} {G : AG} {Q : AQ} {a1 : Int} {a2 : Int} (hsm : ShM S) (h : V_X10_isCell_0 d S F G Q a1 a2) : Go d MX10_isCell 0 [some (vR 53), some (vI a1), some (vI a2)] [] S F G Q := by
  unfold V_X10_isCell_0 at h
  refine go_iload_n (show decode cX10_isCell 0 = .ok (.iload_n 1, 1) by decide +kernel) (by rfl) ?_
  refine go_i2l (show decode cX10_isCell 1 = .ok (.i2l, 1) by decide +kernel) ?_
  refine go_lconst (n := 0) (show decode cX10_isCell 2 = .ok (.lconst 0, 1) by decide +kernel) ?_
  show Go d MX10_isCell 3 [some (vR 53), some (vI a1), some (vI a2)] [vJ 0, vJ a1] S F G Q
  refine go_aload_n (show decode cX10_isCell 3 = .ok (.aload_n 0, 1) by decide +kernel) (by rfl) ?_
  refine go_getI (show decode cX10_isCell 4 = .ok (.getfield 13, 3) by decide +kernel) fl_X10_13 (Or.inl rfl) (shm_k hsm 53 (by decide) (by decide)) ?_
  refine go_iconst (show decode cX10_isCell 7 = .ok (.iconst 1, 1) by decide +kernel) (by decide) ?_
  obtain ⟨q1, h⟩ := h
  refine go_isub (show decode cX10_isCell 8 = .ok (.isub, 1) by decide +kernel) q1 ?_
  refine go_i2l (show decode cX10_isCell 9 = .ok (.i2l, 1) by decide +kernel) ?_
  obtain ⟨q2, h⟩ := h
  obtain ⟨z7, p8, h⟩ := h
  refine go_callS (d2 := d - 1) (M2 := MX10_isIn) (n := 3) (av := [vJ a1, vJ 0, vJ ((F 53 1) - 1)]) (st := []) (show decode cX10_isCell 10 = .ok (.invokestatic 116, 3) by decide +kernel) ml_X10_116 mt_X10_isIn mst_X10_isIn rfl (Nat.le_of_ble_eq_true rfl) (by omega) (ok_mono p8 (fun w3 S4 F5 G6 e9 => ?_))
  obtain ⟨e1, e2, e3, e4⟩ := e9
  subst e1
  replace e2 := e2.symm; subst e2
  replace e3 := e3.symm; subst e3
  replace e4 := e4.symm; subst e4
  show Go d MX10_isCell 13 [some (vR 53), some (vI a1), some (vI a2)] [vI z7] S F G Q
  obtain ⟨ht, hf⟩ := h
  refine go_ifeq (tgt := 36) (show decode cX10_isCell 13 = .ok (.ifCond .eq 23, 3) by decide +kernel) (by decide) (fun hc => ?_) (fun hc => ?_)
  · have h := ht hc
    refine go_iconst (show decode cX10_isCell 36 = .ok (.iconst 0, 1) by decide +kernel) (by decide) ?_
    exact go_zret (show decode cX10_isCell 37 = .ok (.ireturn, 1) by decide +kernel) rfl (by decide) h
  · have h := hf hc
    refine go_iload_n (show decode cX10_isCell 16 = .ok (.iload_n 2, 1) by decide +kernel) (by rfl) ?_
    refine go_i2l (show decode cX10_isCell 17 = .ok (.i2l, 1) by decide +kernel) ?_
    refine go_lconst (n := 0) (show decode cX10_isCell 18 = .ok (.lconst 0, 1) by decide +kernel) ?_
    show Go d MX10_isCell 19 [some (vR 53), some (vI a1), some (vI a2)] [vJ 0, vJ a2] S F G Q
    refine go_aload_n (show decode cX10_isCell 19 = .ok (.aload_n 0, 1) by decide +kernel) (by rfl) ?_
    refine go_getI (show decode cX10_isCell 20 = .ok (.getfield 16, 3) by decide +kernel) fl_X10_16 (Or.inl rfl) (shm_k hsm 53 (by decide) (by decide)) ?_
    refine go_iconst (show decode cX10_isCell 23 = .ok (.iconst 1, 1) by decide +kernel) (by decide) ?_
    obtain ⟨q9, h⟩ := h
    refine go_isub (show decode cX10_isCell 24 = .ok (.isub, 1) by decide +kernel) q9 ?_
    refine go_i2l (show decode cX10_isCell 25 = .ok (.i2l, 1) by decide +kernel) ?_
    obtain ⟨z14, p15, h⟩ := h
    refine go_callS (d2 := d - 1) (M2 := MX10_isIn) (n := 3) (av := [vJ a2, vJ 0, vJ ((F 53 2) - 1)]) (st := []) (show decode cX10_isCell 26 = .ok (.invokestatic 116, 3) by decide +kernel) ml_X10_116 mt_X10_isIn mst_X10_isIn rfl (Nat.le_of_ble_eq_true rfl) (by omega) (ok_mono p15 (fun w10 S11 F12 G13 e9 => ?_))
    obtain ⟨e1, e2, e3, e4⟩ := e9
    subst e1
    replace e2 := e2.symm; subst e2
    replace e3 := e3.symm; subst e3
    replace e4 := e4.symm; subst e4
    show Go d MX10_isCell 29 [some (vR 53), some (vI a1), some (vI a2)] [vI z14] S F G Q
    obtain ⟨ht, hf⟩ := h
    refine go_ifeq (tgt := 36) (show decode cX10_isCell 29 = .ok (.ifCond .eq 7, 3) by decide +kernel) (by decide) (fun hc => ?_) (fun hc => ?_)
    · have h := ht hc
      refine go_iconst (show decode cX10_isCell 36 = .ok (.iconst 0, 1) by decide +kernel) (by decide) ?_
      exact go_zret (show decode cX10_isCell 37 = .ok (.ireturn, 1) by decide +kernel) rfl (by decide) h
    · have h := hf hc
      refine go_iconst (show decode cX10_isCell 32 = .ok (.iconst 1, 1) by decide +kernel) (by decide) ?_
      refine go_goto (tgt := 37) (show decode cX10_isCell 33 = .ok (.goto 4, 3) by decide +kernel) (by decide) ?_
      exact go_zret (show decode cX10_isCell 37 = .ok (.ireturn, 1) by decide +kernel) rfl (by decide) h
def V_X10_bound_150 (d : Nat) (S : AS) (F : AF) (G : AG) (Q : AQ) (a1 : Int) (a2 : Int) (a3 : Int) (a4 : Int) (a5 : Int) (a6 : Int) (a7 : Int) (a9 : Int) (a10 : Int) : Prop :=
  (r32 (a10 + 1)) ∧
  Go d MX10_bound 62 [some (vR 53), some (vI a1), some (vI a2), some (vI a3), some (vI a4), some (vI a5), some (vI a6), some (vJ a7), none, some (vI a9), some (vI (a10 + 1)), none, none] [] S F G Q
theorem R_X10_bound_150 {d : Nat} {S : AS} {F : AF} {G : AG} {Q : AQ} {a1 : Int} {a2 : Int} {a3 : Int} {a4 : Int} {a5 : Int} {a6 : Int} {a7 : Int} {a9 : Int} {a10 : Int} (hsm : ShM S) (h : V_X10_bound_150 d S F G Q a1 a2 a3 a4 a5 a6 a7 a9 a10) : Go d MX10_bound 150 [some (vR 53), some (vI a1), some (vI a2), some (vI a3), some (vI a4), some (vI a5), some (vI a6), some (vJ a7), none, some (vI a9), some (vI a10), none, none] [] S F G Q := by
  unfold V_X10_bound_150 at h
  obtain ⟨q1, h⟩ := h
  refine go_iinc (show decode cX10_bound 150 = .ok (.iinc 10 1, 3) by decide +kernel) (by rfl) q1 (by decide) ?_
  show Go d MX10_bound 153 [some (vR 53), some (vI a1), some (vI a2), some (vI a3), some (vI a4), some (vI a5), some (vI a6), some (vJ a7), none, some (vI a9), some (vI (a10 + 1)), none, none] [] S F G Q
  refine go_goto (tgt := 62) (show decode cX10_bound 153 = .ok (.goto (-91), 3) by decide +kernel) (by decide) ?_
  exact h
def V_X10_bound_146 (d : Nat) (S : AS) (F : AF) (G : AG) (Q : AQ) (a1 : Int) (a2 : Int) (a3 : Int) (a4 : Int) (a5 : Int) (a6 : Int) (a7 : Int) (a9 : Int) (a10 : Int) (a11 : Int) : Prop :=
  V_X10_bound_150 d S F G Q a1 a2 a3 a4 a5 a6 a11 a9 a10
theorem R_X10_bound_146 {d : Nat} {S : AS} {F : AF} {G : AG} {Q : AQ} {a1 : Int} {a2 : Int} {a3 : Int} {a4 : Int} {a5 : Int} {a6 : Int} {a7 : Int} {a9 : Int} {a10 : Int} {a11 : Int} (hsm : ShM S) (h : V_X10_bound_146 d S F G Q a1 a2 a3 a4 a5 a6 a7 a9 a10 a11) : Go d MX10_bound 146 [some (vR 53), some (vI a1), some (vI a2), some (vI a3), some (vI a4), some (vI a5), some (vI a6), some (vJ a7), none, some (vI a9), some (vI a10), some (vJ a11), none] [] S F G Q := by
  unfold V_X10_bound_146 at h
  refine go_lload (show decode cX10_bound 146 = .ok (.lload 11, 2) by decide +kernel) (by rfl) ?_
  refine go_lstore (show decode cX10_bound 148 = .ok (.lstore 7, 2) by decide +kernel) (by decide) ?_
  show Go d MX10_bound 150 [some (vR 53), some (vI a1), some (vI a2), some (vI a3), some (vI a4), some (vI a5), some (vI a6), some (vJ a11), none, some (vI a9), some (vI a10), some (vJ a11), none] [] S F G Q
  refine go_clr 11 ?_
  exact R_X10_bound_150 hsm h
def V_X10_bound_62 (d : Nat) (S : AS) (F : AF) (G : AG) (Q : AQ) (a1 : Int) (a2 : Int) (a3 : Int) (a4 : Int) (a5 : Int) (a6 : Int) (a7 : Int) (a9 : Int) (a10 : Int) : Prop :=
  ((G 55 1 ≤ a10) →
    (r32 (a9 + 1)) ∧
    Go d MX10_bound 48 [some (vR 53), some (vI a1), some (vI a2), some (vI a3), some (vI a4), some (vI a5), some (vI a6), some (vJ a7), none, some (vI (a9 + 1)), none, none, none] [] S F G Q) ∧
  ((¬ G 55 1 ≤ a10) →
    (1 ≤ d) ∧
    ∃ z7 : Int, Pu (d - 1) MX10_part [vR 53, vI 0, vI a9, vI a2, vI a4] S F G (some (vI z7)) ∧
    ((z7 = 0) →
      V_X10_bound_150 d S F G Q a1 a2 a3 a4 a5 a6 a7 a9 a10) ∧
    ((¬ z7 = 0) →
      ∃ z13 : Int, Pu (d - 1) MX10_part [vR 53, vI 1, vI a10, vI a3, vI a5] S F G (some (vI z13)) ∧
      ((¬ z13 = 0) →
        ∃ z19 : Int, Pu (d - 1) MX10_in [vR 53, vI a1, vI a9, vI a10] S F G (some (vJ z19)) ∧
        ((a7 = -1) →
          V_X10_bound_146 d S F G Q a1 a2 a3 a4 a5 a6 a7 a9 a10 z19) ∧
        ((¬ a7 = -1) →
          ((¬ a6 = 0) →
            ((z19 ≤ a7) →
              V_X10_bound_150 d S F G Q a1 a2 a3 a4 a5 a6 a7 a9 a10) ∧
            ((¬ z19 ≤ a7) →
              V_X10_bound_146 d S F G Q a1 a2 a3 a4 a5 a6 a7 a9 a10 z19)) ∧
          ((a6 = 0) →
            ((a7 ≤ z19) →
              V_X10_bound_150 d S F G Q a1 a2 a3 a4 a5 a6 a7 a9 a10) ∧
            ((¬ a7 ≤ z19) →
              V_X10_bound_146 d S F G Q a1 a2 a3 a4 a5 a6 a7 a9 a10 z19)))) ∧
      ((z13 = 0) →
        V_X10_bound_150 d S F G Q a1 a2 a3 a4 a5 a6 a7 a9 a10)))
theorem R_X10_bound_62 {d : Nat} {S : AS} {F : AF} {G : AG} {Q : AQ} {a1 : Int} {a2 : Int} {a3 : Int} {a4 : Int} {a5 : Int} {a6 : Int} {a7 : Int} {a9 : Int} {a10 : Int} (hsm : ShM S) (h : V_X10_bound_62 d S F G Q a1 a2 a3 a4 a5 a6 a7 a9 a10) : Go d MX10_bound 62 [some (vR 53), some (vI a1), some (vI a2), some (vI a3), some (vI a4), some (vI a5), some (vI a6), some (vJ a7), none, some (vI a9), some (vI a10), none, none] [] S F G Q := by
  unfold V_X10_bound_62 at h
  refine go_iload (show decode cX10_bound 62 = .ok (.iload 10, 2) by decide +kernel) (by rfl) ?_
  refine go_aload_n (show decode cX10_bound 64 = .ok (.aload_n 0, 1) by decide +kernel) (by rfl) ?_
  refine go_getRc (show decode cX10_bound 65 = .ok (.getfield 29, 3) by decide +kernel) fl_X10_29 rfl (shm_k hsm 53 (by decide) (by decide)) (v := 55) (shm_r hsm 53 5 (by decide) (by decide)) ?_
  refine go_iconst (show decode cX10_bound 68 = .ok (.iconst 1, 1) by decide +kernel) (by decide) ?_
  refine go_iaload (show decode cX10_bound 69 = .ok (.iaload, 1) by decide +kernel) (shm_k hsm 55 (by decide) (by decide)) (by decide) (lt_n (m := 2) (by decide) (shm_n hsm 55 (by decide) (by decide))) ?_
  obtain ⟨ht, hf⟩ := h
  refine go_icmpge (tgt := 156) (show decode cX10_bound 70 = .ok (.if_icmp .ge 86, 3) by decide +kernel) (by decide) (fun hc => ?_) (fun hc => ?_)
  · have h := ht hc
    obtain ⟨q1, h⟩ := h
    refine go_iinc (show decode cX10_bound 156 = .ok (.iinc 9 1, 3) by decide +kernel) (by rfl) q1 (by decide) ?_
    show Go d MX10_bound 159 [some (vR 53), some (vI a1), some (vI a2), some (vI a3), some (vI a4), some (vI a5), some (vI a6), some (vJ a7), none, some (vI (a9 + 1)), some (vI a10), none, none] [] S F G Q
    refine go_goto (tgt := 48) (show decode cX10_bound 159 = .ok (.goto (-111), 3) by decide +kernel) (by decide) ?_
    refine go_clr 10 ?_
    exact h
  · have h := hf hc
    refine go_aload_n (show decode cX10_bound 73 = .ok (.aload_n 0, 1) by decide +kernel) (by rfl) ?_
    refine go_iconst (show decode cX10_bound 74 = .ok (.iconst 0, 1) by decide +kernel) (by decide) ?_
    refine go_iload (show decode cX10_bound 75 = .ok (.iload 9, 2) by decide +kernel) (by rfl) ?_
    refine go_iload_n (show decode cX10_bound 77 = .ok (.iload_n 2, 1) by decide +kernel) (by rfl) ?_
    refine go_iload (show decode cX10_bound 78 = .ok (.iload 4, 2) by decide +kernel) (by rfl) ?_
    obtain ⟨q2, h⟩ := h
    obtain ⟨z7, p8, h⟩ := h
    refine go_callV (d2 := d - 1) (M2 := MX10_part) (n := 4) (ci := 10) (av := [vI 0, vI a9, vI a2, vI a4]) (st := []) (show decode cX10_bound 80 = .ok (.invokevirtual 159, 3) by decide +kernel) ml_X10_159 mt_X10_part min_X10_part mse_X10_part (by decide) (shm_k hsm 53 (by decide) (by decide)) rfl (Nat.le_of_ble_eq_true rfl) (by omega) (ok_mono p8 (fun w3 S4 F5 G6 e9 => ?_))
    obtain ⟨e1, e2, e3, e4⟩ := e9
    subst e1
    replace e2 := e2.symm; subst e2
    replace e3 := e3.symm; subst e3
    replace e4 := e4.symm; subst e4
    show Go d MX10_bound 83 [some (vR 53), some (vI a1), some (vI a2), some (vI a3), some (vI a4), some (vI a5), some (vI a6), some (vJ a7), none, some (vI a9), some (vI a10), none, none] [vI z7] S F G Q
    obtain ⟨ht, hf⟩ := h
    refine go_ifeq (tgt := 150) (show decode cX10_bound 83 = .ok (.ifCond .eq 67, 3) by decide +kernel) (by decide) (fun hc => ?_) (fun hc => ?_)
    · have h := ht hc
      exact R_X10_bound_150 hsm h
    · have h := hf hc
      refine go_aload_n (show decode cX10_bound 86 = .ok (.aload_n 0, 1) by decide +kernel) (by rfl) ?_
      refine go_iconst (show decode cX10_bound 87 = .ok (.iconst 1, 1) by decide +kernel) (by decide) ?_
      refine go_iload (show decode cX10_bound 88 = .ok (.iload 10, 2) by decide +kernel) (by rfl) ?_
      refine go_iload_n (show decode cX10_bound 90 = .ok (.iload_n 3, 1) by decide +kernel) (by rfl) ?_
      refine go_iload (show decode cX10_bound 91 = .ok (.iload 5, 2) by decide +kernel) (by rfl) ?_
      obtain ⟨z13, p14, h⟩ := h
      refine go_callV (d2 := d - 1) (M2 := MX10_part) (n := 4) (ci := 10) (av := [vI 1, vI a10, vI a3, vI a5]) (st := []) (show decode cX10_bound 93 = .ok (.invokevirtual 159, 3) by decide +kernel) ml_X10_159 mt_X10_part min_X10_part mse_X10_part (by decide) (shm_k hsm 53 (by decide) (by decide)) rfl (Nat.le_of_ble_eq_true rfl) (by omega) (ok_mono p14 (fun w9 S10 F11 G12 e9 => ?_))
      obtain ⟨e1, e2, e3, e4⟩ := e9
      subst e1
      replace e2 := e2.symm; subst e2
      replace e3 := e3.symm; subst e3
      replace e4 := e4.symm; subst e4
      show Go d MX10_bound 96 [some (vR 53), some (vI a1), some (vI a2), some (vI a3), some (vI a4), some (vI a5), some (vI a6), some (vJ a7), none, some (vI a9), some (vI a10), none, none] [vI z13] S F G Q
      obtain ⟨ht, hf⟩ := h
      refine go_ifne (tgt := 102) (show decode cX10_bound 96 = .ok (.ifCond .ne 6, 3) by decide +kernel) (by decide) (fun hc => ?_) (fun hc => ?_)
      · have h := ht hc
        refine go_aload_n (show decode cX10_bound 102 = .ok (.aload_n 0, 1) by decide +kernel) (by rfl) ?_
        refine go_iload_n (show decode cX10_bound 103 = .ok (.iload_n 1, 1) by decide +kernel) (by rfl) ?_
        refine go_iload (show decode cX10_bound 104 = .ok (.iload 9, 2) by decide +kernel) (by rfl) ?_
        refine go_iload (show decode cX10_bound 106 = .ok (.iload 10, 2) by decide +kernel) (by rfl) ?_
        obtain ⟨z19, p20, h⟩ := h
        refine go_callV (d2 := d - 1) (M2 := MX10_in) (n := 3) (ci := 10) (av := [vI a1, vI a9, vI a10]) (st := []) (show decode cX10_bound 108 = .ok (.invokevirtual 163, 3) by decide +kernel) ml_X10_163 mt_X10_in min_X10_in mse_X10_in (by decide) (shm_k hsm 53 (by decide) (by decide)) rfl (Nat.le_of_ble_eq_true rfl) (by omega) (ok_mono p20 (fun w15 S16 F17 G18 e9 => ?_))
        obtain ⟨e1, e2, e3, e4⟩ := e9
        subst e1
        replace e2 := e2.symm; subst e2
        replace e3 := e3.symm; subst e3
        replace e4 := e4.symm; subst e4
        show Go d MX10_bound 111 [some (vR 53), some (vI a1), some (vI a2), some (vI a3), some (vI a4), some (vI a5), some (vI a6), some (vJ a7), none, some (vI a9), some (vI a10), none, none] [vJ z19] S F G Q
        refine go_lstore (show decode cX10_bound 111 = .ok (.lstore 11, 2) by decide +kernel) (by decide) ?_
        show Go d MX10_bound 113 [some (vR 53), some (vI a1), some (vI a2), some (vI a3), some (vI a4), some (vI a5), some (vI a6), some (vJ a7), none, some (vI a9), some (vI a10), some (vJ z19), none] [] S F G Q
        refine go_lload (show decode cX10_bound 113 = .ok (.lload 7, 2) by decide +kernel) (by rfl) ?_
        refine go_ldc2 (show decode cX10_bound 115 = .ok (.ldc2_w 311, 3) by decide +kernel) lc_X10_311 (by decide) ?_
        obtain ⟨ht, hf⟩ := h
        refine go_jeq (tgt := 146) (show decode cX10_bound 118 = .ok (.lcmp, 1) by decide +kernel) (show decode cX10_bound 119 = .ok (.ifCond .eq 27, 3) by decide +kernel) (by decide) (fun hc => ?_) (fun hc => ?_)
        · have h := ht hc
          exact R_X10_bound_146 hsm h
        · have h := hf hc
          refine go_iload (show decode cX10_bound 122 = .ok (.iload 6, 2) by decide +kernel) (by rfl) ?_
          obtain ⟨ht, hf⟩ := h
          refine go_ifne (tgt := 138) (show decode cX10_bound 124 = .ok (.ifCond .ne 14, 3) by decide +kernel) (by decide) (fun hc => ?_) (fun hc => ?_)
          · have h := ht hc
            refine go_lload (show decode cX10_bound 138 = .ok (.lload 11, 2) by decide +kernel) (by rfl) ?_
            refine go_lload (show decode cX10_bound 140 = .ok (.lload 7, 2) by decide +kernel) (by rfl) ?_
            obtain ⟨ht, hf⟩ := h
            refine go_jle (tgt := 150) (show decode cX10_bound 142 = .ok (.lcmp, 1) by decide +kernel) (show decode cX10_bound 143 = .ok (.ifCond .le 7, 3) by decide +kernel) (by decide) (fun hc => ?_) (fun hc => ?_)
            · have h := ht hc
              refine go_clr 11 ?_
              exact R_X10_bound_150 hsm h
            · have h := hf hc
              exact R_X10_bound_146 hsm h
          · have h := hf hc
            refine go_lload (show decode cX10_bound 127 = .ok (.lload 11, 2) by decide +kernel) (by rfl) ?_
            refine go_lload (show decode cX10_bound 129 = .ok (.lload 7, 2) by decide +kernel) (by rfl) ?_
            obtain ⟨ht, hf⟩ := h
            refine go_jge (tgt := 150) (show decode cX10_bound 131 = .ok (.lcmp, 1) by decide +kernel) (show decode cX10_bound 132 = .ok (.ifCond .ge 18, 3) by decide +kernel) (by decide) (fun hc => ?_) (fun hc => ?_)
            · have h := ht hc
              refine go_clr 11 ?_
              exact R_X10_bound_150 hsm h
            · have h := hf hc
              refine go_goto (tgt := 146) (show decode cX10_bound 135 = .ok (.goto 11, 3) by decide +kernel) (by decide) ?_
              exact R_X10_bound_146 hsm h
      · have h := hf hc
        refine go_goto (tgt := 150) (show decode cX10_bound 99 = .ok (.goto 51, 3) by decide +kernel) (by decide) ?_
        exact R_X10_bound_150 hsm h
def V_X10_bound_48 (d : Nat) (S : AS) (F : AF) (G : AG) (Q : AQ) (a1 : Int) (a2 : Int) (a3 : Int) (a4 : Int) (a5 : Int) (a6 : Int) (a7 : Int) (a9 : Int) : Prop :=
  ((G 55 0 ≤ a9) →
    Q (some (vJ a7)) S F G) ∧
  ((¬ G 55 0 ≤ a9) →
    Go d MX10_bound 62 [some (vR 53), some (vI a1), some (vI a2), some (vI a3), some (vI a4), some (vI a5), some (vI a6), some (vJ a7), none, some (vI a9), some (vI 0), none, none] [] S F G Q)
theorem R_X10_bound_48 {d : Nat} {S : AS} {F : AF} {G : AG} {Q : AQ} {a1 : Int} {a2 : Int} {a3 : Int} {a4 : Int} {a5 : Int} {a6 : Int} {a7 : Int} {a9 : Int} (hsm : ShM S) (h : V_X10_bound_48 d S F G Q a1 a2 a3 a4 a5 a6 a7 a9) : Go d MX10_bound 48 [some (vR 53), some (vI a1), some (vI a2), some (vI a3), some (vI a4), some (vI a5), some (vI a6), some (vJ a7), none, some (vI a9), none, none, none] [] S F G Q := by
  unfold V_X10_bound_48 at h
  refine go_iload (show decode cX10_bound 48 = .ok (.iload 9, 2) by decide +kernel) (by rfl) ?_
  refine go_aload_n (show decode cX10_bound 50 = .ok (.aload_n 0, 1) by decide +kernel) (by rfl) ?_
  refine go_getRc (show decode cX10_bound 51 = .ok (.getfield 29, 3) by decide +kernel) fl_X10_29 rfl (shm_k hsm 53 (by decide) (by decide)) (v := 55) (shm_r hsm 53 5 (by decide) (by decide)) ?_
  refine go_iconst (show decode cX10_bound 54 = .ok (.iconst 0, 1) by decide +kernel) (by decide) ?_
  refine go_iaload (show decode cX10_bound 55 = .ok (.iaload, 1) by decide +kernel) (shm_k hsm 55 (by decide) (by decide)) (by decide) (lt_n (m := 2) (by decide) (shm_n hsm 55 (by decide) (by decide))) ?_
  obtain ⟨ht, hf⟩ := h
  refine go_icmpge (tgt := 162) (show decode cX10_bound 56 = .ok (.if_icmp .ge 106, 3) by decide +kernel) (by decide) (fun hc => ?_) (fun hc => ?_)
  · have h := ht hc
    refine go_lload (show decode cX10_bound 162 = .ok (.lload 7, 2) by decide +kernel) (by rfl) ?_
    exact go_lret (show decode cX10_bound 164 = .ok (.lreturn, 1) by decide +kernel) rfl h
  · have h := hf hc
    refine go_iconst (show decode cX10_bound 59 = .ok (.iconst 0, 1) by decide +kernel) (by decide) ?_
    refine go_istore (show decode cX10_bound 60 = .ok (.istore 10, 2) by decide +kernel) (by decide) ?_
    show Go d MX10_bound 62 [some (vR 53), some (vI a1), some (vI a2), some (vI a3), some (vI a4), some (vI a5), some (vI a6), some (vJ a7), none, some (vI a9), some (vI 0), none, none] [] S F G Q
    exact h
def V_X10_bound_0 (d : Nat) (S : AS) (F : AF) (G : AG) (Q : AQ) (a1 : Int) (a2 : Int) (a3 : Int) (a4 : Int) (a5 : Int) (a6 : Int) : Prop :=
  ∀ F1 : AF, F1 = fu F 53 0 0 →
  (1 ≤ d) ∧
  ∃ z7 : Int, Pu (d - 1) MX10_isGoodOrAll [vI a1] S F1 G (some (vI z7)) ∧
  ((z7 = 0) →
    Q (some (vJ (-2))) S F1 G) ∧
  ((¬ z7 = 0) →
    ∃ z13 : Int, Pu (d - 1) MX10_isRectangle [vR 53, vI a2, vI a3, vI a4, vI a5] S F1 G (some (vI z13)) ∧
    ((z13 = 0) →
      Q (some (vJ (-2))) S F1 G) ∧
    ((¬ z13 = 0) →
      ∃ z19 : Int, Pu (d - 1) MX10_isIn [vJ a6, vJ 0, vJ 1] S F1 G (some (vI z19)) ∧
      ((¬ z19 = 0) →
        Go d MX10_bound 48 [some (vR 53), some (vI a1), some (vI a2), some (vI a3), some (vI a4), some (vI a5), some (vI a6), some (vJ (-1)), none, some (vI 0), none, none, none] [] S F1 G Q) ∧
      ((z19 = 0) →
        Q (some (vJ (-2))) S F1 G)))
theorem R_X10_bound_0 {d : Nat} {S : AS} {F : AF} {G : AG} {Q : AQ} {a1 : Int} {a2 : Int} {a3 : Int} {a4 : Int} {a5 : Int} {a6 : Int} (hsm : ShM S) (h : V_X10_bound_0 d S F G Q a1 a2 a3 a4 a5 a6) : Go d MX10_bound 0 [some (vR 53), some (vI a1), some (vI a2), some (vI a3), some (vI a4), some (vI a5), some (vI a6), none, none, none, none, none, none] [] S F G Q := by
  unfold V_X10_bound_0 at h
  refine go_aload_n (show decode cX10_bound 0 = .ok (.aload_n 0, 1) by decide +kernel) (by rfl) ?_
  refine go_iconst (show decode cX10_bound 1 = .ok (.iconst 0, 1) by decide +kernel) (by decide) ?_
  refine go_putI (show decode cX10_bound 2 = .ok (.putfield 1, 3) by decide +kernel) fl_X10_1 rfl (Or.inl rfl) (shm_k hsm 53 (by decide) (by decide)) ?_
  obtain ⟨F1, F1e⟩ : ∃ F1 : AF, F1 = fu F 53 0 0 := ⟨_, rfl⟩
  have h := h F1 F1e
  rw [← F1e]
  refine go_iload_n (show decode cX10_bound 5 = .ok (.iload_n 1, 1) by decide +kernel) (by rfl) ?_
  obtain ⟨q2, h⟩ := h
  obtain ⟨z7, p8, h⟩ := h
  refine go_callS (d2 := d - 1) (M2 := MX10_isGoodOrAll) (n := 1) (av := [vI a1]) (st := []) (show decode cX10_bound 6 = .ok (.invokestatic 403, 3) by decide +kernel) ml_X10_403 mt_X10_isGoodOrAll mst_X10_isGoodOrAll rfl (Nat.le_of_ble_eq_true rfl) (by omega) (ok_mono p8 (fun w3 S4 F5 G6 e9 => ?_))
  obtain ⟨e1, e2, e3, e4⟩ := e9
  subst e1
  replace e2 := e2.symm; subst e2
  replace e3 := e3.symm; subst e3
  replace e4 := e4.symm; subst e4
  show Go d MX10_bound 9 [some (vR 53), some (vI a1), some (vI a2), some (vI a3), some (vI a4), some (vI a5), some (vI a6), none, none, none, none, none, none] [vI z7] S F1 G Q
  obtain ⟨ht, hf⟩ := h
  refine go_ifeq (tgt := 36) (show decode cX10_bound 9 = .ok (.ifCond .eq 27, 3) by decide +kernel) (by decide) (fun hc => ?_) (fun hc => ?_)
  · have h := ht hc
    refine go_ldc2 (show decode cX10_bound 36 = .ok (.ldc2_w 174, 3) by decide +kernel) lc_X10_174 (by decide) ?_
    exact go_lret (show decode cX10_bound 39 = .ok (.lreturn, 1) by decide +kernel) rfl h
  · have h := hf hc
    refine go_aload_n (show decode cX10_bound 12 = .ok (.aload_n 0, 1) by decide +kernel) (by rfl) ?_
    refine go_iload_n (show decode cX10_bound 13 = .ok (.iload_n 2, 1) by decide +kernel) (by rfl) ?_
    refine go_iload_n (show decode cX10_bound 14 = .ok (.iload_n 3, 1) by decide +kernel) (by rfl) ?_
    refine go_iload (show decode cX10_bound 15 = .ok (.iload 4, 2) by decide +kernel) (by rfl) ?_
    refine go_iload (show decode cX10_bound 17 = .ok (.iload 5, 2) by decide +kernel) (by rfl) ?_
    obtain ⟨z13, p14, h⟩ := h
    refine go_callV (d2 := d - 1) (M2 := MX10_isRectangle) (n := 4) (ci := 10) (av := [vI a2, vI a3, vI a4, vI a5]) (st := []) (show decode cX10_bound 19 = .ok (.invokevirtual 170, 3) by decide +kernel) ml_X10_170 mt_X10_isRectangle min_X10_isRectangle mse_X10_isRectangle (by decide) (shm_k hsm 53 (by decide) (by decide)) rfl (Nat.le_of_ble_eq_true rfl) (by omega) (ok_mono p14 (fun w9 S10 F11 G12 e9 => ?_))
    obtain ⟨e1, e2, e3, e4⟩ := e9
    subst e1
    replace e2 := e2.symm; subst e2
    replace e3 := e3.symm; subst e3
    replace e4 := e4.symm; subst e4
    show Go d MX10_bound 22 [some (vR 53), some (vI a1), some (vI a2), some (vI a3), some (vI a4), some (vI a5), some (vI a6), none, none, none, none, none, none] [vI z13] S F1 G Q
    obtain ⟨ht, hf⟩ := h
    refine go_ifeq (tgt := 36) (show decode cX10_bound 22 = .ok (.ifCond .eq 14, 3) by decide +kernel) (by decide) (fun hc => ?_) (fun hc => ?_)
    · have h := ht hc
      refine go_ldc2 (show decode cX10_bound 36 = .ok (.ldc2_w 174, 3) by decide +kernel) lc_X10_174 (by decide) ?_
      exact go_lret (show decode cX10_bound 39 = .ok (.lreturn, 1) by decide +kernel) rfl h
    · have h := hf hc
      refine go_iload (show decode cX10_bound 25 = .ok (.iload 6, 2) by decide +kernel) (by rfl) ?_
      refine go_i2l (show decode cX10_bound 27 = .ok (.i2l, 1) by decide +kernel) ?_
      refine go_lconst (n := 0) (show decode cX10_bound 28 = .ok (.lconst 0, 1) by decide +kernel) ?_
      show Go d MX10_bound 29 [some (vR 53), some (vI a1), some (vI a2), some (vI a3), some (vI a4), some (vI a5), some (vI a6), none, none, none, none, none, none] [vJ 0, vJ a6] S F1 G Q
      refine go_lconst (n := 1) (show decode cX10_bound 29 = .ok (.lconst 1, 1) by decide +kernel) ?_
      show Go d MX10_bound 30 [some (vR 53), some (vI a1), some (vI a2), some (vI a3), some (vI a4), some (vI a5), some (vI a6), none, none, none, none, none, none] [vJ 1, vJ 0, vJ a6] S F1 G Q
      obtain ⟨z19, p20, h⟩ := h
      refine go_callS (d2 := d - 1) (M2 := MX10_isIn) (n := 3) (av := [vJ a6, vJ 0, vJ 1]) (st := []) (show decode cX10_bound 30 = .ok (.invokestatic 116, 3) by decide +kernel) ml_X10_116 mt_X10_isIn mst_X10_isIn rfl (Nat.le_of_ble_eq_true rfl) (by omega) (ok_mono p20 (fun w15 S16 F17 G18 e9 => ?_))
      obtain ⟨e1, e2, e3, e4⟩ := e9
      subst e1
      replace e2 := e2.symm; subst e2
      replace e3 := e3.symm; subst e3
      replace e4 := e4.symm; subst e4
      show Go d MX10_bound 33 [some (vR 53), some (vI a1), some (vI a2), some (vI a3), some (vI a4), some (vI a5), some (vI a6), none, none, none, none, none, none] [vI z19] S F1 G Q
      obtain ⟨ht, hf⟩ := h
      refine go_ifne (tgt := 40) (show decode cX10_bound 33 = .ok (.ifCond .ne 7, 3) by decide +kernel) (by decide) (fun hc => ?_) (fun hc => ?_)
      · have h := ht hc
        refine go_ldc2 (show decode cX10_bound 40 = .ok (.ldc2_w 311, 3) by decide +kernel) lc_X10_311 (by decide) ?_
        refine go_lstore (show decode cX10_bound 43 = .ok (.lstore 7, 2) by decide +kernel) (by decide) ?_
        show Go d MX10_bound 45 [some (vR 53), some (vI a1), some (vI a2), some (vI a3), some (vI a4), some (vI a5), some (vI a6), some (vJ (-1)), none, none, none, none, none] [] S F1 G Q
        refine go_iconst (show decode cX10_bound 45 = .ok (.iconst 0, 1) by decide +kernel) (by decide) ?_
        refine go_istore (show decode cX10_bound 46 = .ok (.istore 9, 2) by decide +kernel) (by decide) ?_
        show Go d MX10_bound 48 [some (vR 53), some (vI a1), some (vI a2), some (vI a3), some (vI a4), some (vI a5), some (vI a6), some (vJ (-1)), none, some (vI 0), none, none, none] [] S F1 G Q
        exact h
      · have h := hf hc
        refine go_ldc2 (show decode cX10_bound 36 = .ok (.ldc2_w 174, 3) by decide +kernel) lc_X10_174 (by decide) ?_
        exact go_lret (show decode cX10_bound 39 = .ok (.lreturn, 1) by decide +kernel) rfl h
def V_X10_empty_94 (d : Nat) (S : AS) (F : AF) (G : AG) (Q : AQ) (a1 : Int) (a2 : Int) (a3 : Int) (a4 : Int) (a5 : Int) (a7 : Int) (a8 : Int) (s0 : Int) (s1 : Int) : Prop :=
  (r64 (s1 + s0)) ∧
  ∀ x2 : Int, x2 = s1 + s0 →
  (r32 (a8 + 1)) ∧
  Go d MX10_empty 41 [some (vR 53), some (vI a1), some (vI a2), some (vI a3), some (vI a4), some (vJ x2), none, some (vI a7), some (vI (a8 + 1))] [] S F G Q
theorem R_X10_empty_94 {d : Nat} {S : AS} {F : AF} {G : AG} {Q : AQ} {a1 : Int} {a2 : Int} {a3 : Int} {a4 : Int} {a5 : Int} {a7 : Int} {a8 : Int} {s0 : Int} {s1 : Int} (hsm : ShM S) (h : V_X10_empty_94 d S F G Q a1 a2 a3 a4 a5 a7 a8 s0 s1) : Go d MX10_empty 94 [some (vR 53), some (vI a1), some (vI a2), some (vI a3), some (vI a4), some (vJ a5), none, some (vI a7), some (vI a8)] [vJ s0, vJ s1] S F G Q := by
  unfold V_X10_empty_94 at h
  obtain ⟨q1, h⟩ := h
  refine go_ladd (show decode cX10_empty 94 = .ok (.ladd, 1) by decide +kernel) q1 ?_
  obtain ⟨x2, x2e⟩ : ∃ x2 : Int, x2 = s1 + s0 := ⟨_, rfl⟩
  have h := h x2 x2e
  rw [← x2e]
  refine go_lstore (show decode cX10_empty 95 = .ok (.lstore 5, 2) by decide +kernel) (by decide) ?_
  show Go d MX10_empty 97 [some (vR 53), some (vI a1), some (vI a2), some (vI a3), some (vI a4), some (vJ x2), none, some (vI a7), some (vI a8)] [] S F G Q
  obtain ⟨q3, h⟩ := h
  refine go_iinc (show decode cX10_empty 97 = .ok (.iinc 8 1, 3) by decide +kernel) (by rfl) q3 (by decide) ?_
  show Go d MX10_empty 100 [some (vR 53), some (vI a1), some (vI a2), some (vI a3), some (vI a4), some (vJ x2), none, some (vI a7), some (vI (a8 + 1))] [] S F G Q
  refine go_goto (tgt := 41) (show decode cX10_empty 100 = .ok (.goto (-59), 3) by decide +kernel) (by decide) ?_
  exact h
def V_X10_empty_41 (d : Nat) (S : AS) (F : AF) (G : AG) (Q : AQ) (a1 : Int) (a2 : Int) (a3 : Int) (a4 : Int) (a5 : Int) (a7 : Int) (a8 : Int) : Prop :=
  ((G 55 1 ≤ a8) →
    (r32 (a7 + 1)) ∧
    Go d MX10_empty 27 [some (vR 53), some (vI a1), some (vI a2), some (vI a3), some (vI a4), some (vJ a5), none, some (vI (a7 + 1)), none] [] S F G Q) ∧
  ((¬ G 55 1 ≤ a8) →
    (1 ≤ d) ∧
    ∃ z7 : Int, Pu (d - 1) MX10_in [vR 53, vI (-1), vI a7, vI a8] S F G (some (vJ z7)) ∧
    ((¬ z7 = 0) →
      V_X10_empty_94 d S F G Q a1 a2 a3 a4 a5 a7 a8 0 a5) ∧
    ((z7 = 0) →
      ∃ z13 : Int, Pu (d - 1) MX10_part [vR 53, vI 0, vI a7, vI a1, vI a3] S F G (some (vI z13)) ∧
      ∃ z19 : Int, Pu (d - 1) MX10_part [vR 53, vI 1, vI a8, vI a2, vI a4] S F G (some (vI z19)) ∧
      (r64 (z13 * z19)) ∧
      V_X10_empty_94 d S F G Q a1 a2 a3 a4 a5 a7 a8 (z13 * z19) a5))
theorem R_X10_empty_41 {d : Nat} {S : AS} {F : AF} {G : AG} {Q : AQ} {a1 : Int} {a2 : Int} {a3 : Int} {a4 : Int} {a5 : Int} {a7 : Int} {a8 : Int} (hsm : ShM S) (h : V_X10_empty_41 d S F G Q a1 a2 a3 a4 a5 a7 a8) : Go d MX10_empty 41 [some (vR 53), some (vI a1), some (vI a2), some (vI a3), some (vI a4), some (vJ a5), none, some (vI a7), some (vI a8)] [] S F G Q := by
  unfold V_X10_empty_41 at h
  refine go_iload (show decode cX10_empty 41 = .ok (.iload 8, 2) by decide +kernel) (by rfl) ?_
  refine go_aload_n (show decode cX10_empty 43 = .ok (.aload_n 0, 1) by decide +kernel) (by rfl) ?_
  refine go_getRc (show decode cX10_empty 44 = .ok (.getfield 29, 3) by decide +kernel) fl_X10_29 rfl (shm_k hsm 53 (by decide) (by decide)) (v := 55) (shm_r hsm 53 5 (by decide) (by decide)) ?_
  refine go_iconst (show decode cX10_empty 47 = .ok (.iconst 1, 1) by decide +kernel) (by decide) ?_
  refine go_iaload (show decode cX10_empty 48 = .ok (.iaload, 1) by decide +kernel) (shm_k hsm 55 (by decide) (by decide)) (by decide) (lt_n (m := 2) (by decide) (shm_n hsm 55 (by decide) (by decide))) ?_
  obtain ⟨ht, hf⟩ := h
  refine go_icmpge (tgt := 103) (show decode cX10_empty 49 = .ok (.if_icmp .ge 54, 3) by decide +kernel) (by decide) (fun hc => ?_) (fun hc => ?_)
  · have h := ht hc
    obtain ⟨q1, h⟩ := h
    refine go_iinc (show decode cX10_empty 103 = .ok (.iinc 7 1, 3) by decide +kernel) (by rfl) q1 (by decide) ?_
    show Go d MX10_empty 106 [some (vR 53), some (vI a1), some (vI a2), some (vI a3), some (vI a4), some (vJ a5), none, some (vI (a7 + 1)), some (vI a8)] [] S F G Q
    refine go_goto (tgt := 27) (show decode cX10_empty 106 = .ok (.goto (-79), 3) by decide +kernel) (by decide) ?_
    refine go_clr 8 ?_
    exact h
  · have h := hf hc
    refine go_lload (show decode cX10_empty 52 = .ok (.lload 5, 2) by decide +kernel) (by rfl) ?_
    refine go_aload_n (show decode cX10_empty 54 = .ok (.aload_n 0, 1) by decide +kernel) (by rfl) ?_
    refine go_iconst (show decode cX10_empty 55 = .ok (.iconst (-1), 1) by decide +kernel) (by decide) ?_
    refine go_iload (show decode cX10_empty 56 = .ok (.iload 7, 2) by decide +kernel) (by rfl) ?_
    refine go_iload (show decode cX10_empty 58 = .ok (.iload 8, 2) by decide +kernel) (by rfl) ?_
    obtain ⟨q2, h⟩ := h
    obtain ⟨z7, p8, h⟩ := h
    refine go_callV (d2 := d - 1) (M2 := MX10_in) (n := 3) (ci := 10) (av := [vI (-1), vI a7, vI a8]) (st := [vJ a5]) (show decode cX10_empty 60 = .ok (.invokevirtual 163, 3) by decide +kernel) ml_X10_163 mt_X10_in min_X10_in mse_X10_in (by decide) (shm_k hsm 53 (by decide) (by decide)) rfl (Nat.le_of_ble_eq_true rfl) (by omega) (ok_mono p8 (fun w3 S4 F5 G6 e9 => ?_))
    obtain ⟨e1, e2, e3, e4⟩ := e9
    subst e1
    replace e2 := e2.symm; subst e2
    replace e3 := e3.symm; subst e3
    replace e4 := e4.symm; subst e4
    show Go d MX10_empty 63 [some (vR 53), some (vI a1), some (vI a2), some (vI a3), some (vI a4), some (vJ a5), none, some (vI a7), some (vI a8)] [vJ z7, vJ a5] S F G Q
    refine go_lconst (n := 0) (show decode cX10_empty 63 = .ok (.lconst 0, 1) by decide +kernel) ?_
    show Go d MX10_empty 64 [some (vR 53), some (vI a1), some (vI a2), some (vI a3), some (vI a4), some (vJ a5), none, some (vI a7), some (vI a8)] [vJ 0, vJ z7, vJ a5] S F G Q
    obtain ⟨ht, hf⟩ := h
    refine go_jne (tgt := 93) (show decode cX10_empty 64 = .ok (.lcmp, 1) by decide +kernel) (show decode cX10_empty 65 = .ok (.ifCond .ne 28, 3) by decide +kernel) (by decide) (fun hc => ?_) (fun hc => ?_)
    · have h := ht hc
      refine go_lconst (n := 0) (show decode cX10_empty 93 = .ok (.lconst 0, 1) by decide +kernel) ?_
      show Go d MX10_empty 94 [some (vR 53), some (vI a1), some (vI a2), some (vI a3), some (vI a4), some (vJ a5), none, some (vI a7), some (vI a8)] [vJ 0, vJ a5] S F G Q
      exact R_X10_empty_94 hsm h
    · have h := hf hc
      refine go_aload_n (show decode cX10_empty 68 = .ok (.aload_n 0, 1) by decide +kernel) (by rfl) ?_
      refine go_iconst (show decode cX10_empty 69 = .ok (.iconst 0, 1) by decide +kernel) (by decide) ?_
      refine go_iload (show decode cX10_empty 70 = .ok (.iload 7, 2) by decide +kernel) (by rfl) ?_
      refine go_iload_n (show decode cX10_empty 72 = .ok (.iload_n 1, 1) by decide +kernel) (by rfl) ?_
      refine go_iload_n (show decode cX10_empty 73 = .ok (.iload_n 3, 1) by decide +kernel) (by rfl) ?_
      obtain ⟨z13, p14, h⟩ := h
      refine go_callV (d2 := d - 1) (M2 := MX10_part) (n := 4) (ci := 10) (av := [vI 0, vI a7, vI a1, vI a3]) (st := [vJ a5]) (show decode cX10_empty 74 = .ok (.invokevirtual 159, 3) by decide +kernel) ml_X10_159 mt_X10_part min_X10_part mse_X10_part (by decide) (shm_k hsm 53 (by decide) (by decide)) rfl (Nat.le_of_ble_eq_true rfl) (by omega) (ok_mono p14 (fun w9 S10 F11 G12 e9 => ?_))
      obtain ⟨e1, e2, e3, e4⟩ := e9
      subst e1
      replace e2 := e2.symm; subst e2
      replace e3 := e3.symm; subst e3
      replace e4 := e4.symm; subst e4
      show Go d MX10_empty 77 [some (vR 53), some (vI a1), some (vI a2), some (vI a3), some (vI a4), some (vJ a5), none, some (vI a7), some (vI a8)] [vI z13, vJ a5] S F G Q
      refine go_i2l (show decode cX10_empty 77 = .ok (.i2l, 1) by decide +kernel) ?_
      refine go_aload_n (show decode cX10_empty 78 = .ok (.aload_n 0, 1) by decide +kernel) (by rfl) ?_
      refine go_iconst (show decode cX10_empty 79 = .ok (.iconst 1, 1) by decide +kernel) (by decide) ?_
      refine go_iload (show decode cX10_empty 80 = .ok (.iload 8, 2) by decide +kernel) (by rfl) ?_
      refine go_iload_n (show decode cX10_empty 82 = .ok (.iload_n 2, 1) by decide +kernel) (by rfl) ?_
      refine go_iload (show decode cX10_empty 83 = .ok (.iload 4, 2) by decide +kernel) (by rfl) ?_
      obtain ⟨z19, p20, h⟩ := h
      refine go_callV (d2 := d - 1) (M2 := MX10_part) (n := 4) (ci := 10) (av := [vI 1, vI a8, vI a2, vI a4]) (st := [vJ z13, vJ a5]) (show decode cX10_empty 85 = .ok (.invokevirtual 159, 3) by decide +kernel) ml_X10_159 mt_X10_part min_X10_part mse_X10_part (by decide) (shm_k hsm 53 (by decide) (by decide)) rfl (Nat.le_of_ble_eq_true rfl) (by omega) (ok_mono p20 (fun w15 S16 F17 G18 e9 => ?_))
      obtain ⟨e1, e2, e3, e4⟩ := e9
      subst e1
      replace e2 := e2.symm; subst e2
      replace e3 := e3.symm; subst e3
      replace e4 := e4.symm; subst e4
      show Go d MX10_empty 88 [some (vR 53), some (vI a1), some (vI a2), some (vI a3), some (vI a4), some (vJ a5), none, some (vI a7), some (vI a8)] [vI z19, vJ z13, vJ a5] S F G Q
      refine go_i2l (show decode cX10_empty 88 = .ok (.i2l, 1) by decide +kernel) ?_
      obtain ⟨q21, h⟩ := h
      refine go_lmul (show decode cX10_empty 89 = .ok (.lmul, 1) by decide +kernel) q21 ?_
      refine go_goto (tgt := 94) (show decode cX10_empty 90 = .ok (.goto 4, 3) by decide +kernel) (by decide) ?_
      exact R_X10_empty_94 hsm h
def V_X10_empty_27 (d : Nat) (S : AS) (F : AF) (G : AG) (Q : AQ) (a1 : Int) (a2 : Int) (a3 : Int) (a4 : Int) (a5 : Int) (a7 : Int) : Prop :=
  ((G 55 0 ≤ a7) →
    Q (some (vJ a5)) S F G) ∧
  ((¬ G 55 0 ≤ a7) →
    Go d MX10_empty 41 [some (vR 53), some (vI a1), some (vI a2), some (vI a3), some (vI a4), some (vJ a5), none, some (vI a7), some (vI 0)] [] S F G Q)
theorem R_X10_empty_27 {d : Nat} {S : AS} {F : AF} {G : AG} {Q : AQ} {a1 : Int} {a2 : Int} {a3 : Int} {a4 : Int} {a5 : Int} {a7 : Int} (hsm : ShM S) (h : V_X10_empty_27 d S F G Q a1 a2 a3 a4 a5 a7) : Go d MX10_empty 27 [some (vR 53), some (vI a1), some (vI a2), some (vI a3), some (vI a4), some (vJ a5), none, some (vI a7), none] [] S F G Q := by
  unfold V_X10_empty_27 at h
  refine go_iload (show decode cX10_empty 27 = .ok (.iload 7, 2) by decide +kernel) (by rfl) ?_
  refine go_aload_n (show decode cX10_empty 29 = .ok (.aload_n 0, 1) by decide +kernel) (by rfl) ?_
  refine go_getRc (show decode cX10_empty 30 = .ok (.getfield 29, 3) by decide +kernel) fl_X10_29 rfl (shm_k hsm 53 (by decide) (by decide)) (v := 55) (shm_r hsm 53 5 (by decide) (by decide)) ?_
  refine go_iconst (show decode cX10_empty 33 = .ok (.iconst 0, 1) by decide +kernel) (by decide) ?_
  refine go_iaload (show decode cX10_empty 34 = .ok (.iaload, 1) by decide +kernel) (shm_k hsm 55 (by decide) (by decide)) (by decide) (lt_n (m := 2) (by decide) (shm_n hsm 55 (by decide) (by decide))) ?_
  obtain ⟨ht, hf⟩ := h
  refine go_icmpge (tgt := 109) (show decode cX10_empty 35 = .ok (.if_icmp .ge 74, 3) by decide +kernel) (by decide) (fun hc => ?_) (fun hc => ?_)
  · have h := ht hc
    refine go_lload (show decode cX10_empty 109 = .ok (.lload 5, 2) by decide +kernel) (by rfl) ?_
    exact go_lret (show decode cX10_empty 111 = .ok (.lreturn, 1) by decide +kernel) rfl h
  · have h := hf hc
    refine go_iconst (show decode cX10_empty 38 = .ok (.iconst 0, 1) by decide +kernel) (by decide) ?_
    refine go_istore (show decode cX10_empty 39 = .ok (.istore 8, 2) by decide +kernel) (by decide) ?_
    show Go d MX10_empty 41 [some (vR 53), some (vI a1), some (vI a2), some (vI a3), some (vI a4), some (vJ a5), none, some (vI a7), some (vI 0)] [] S F G Q
    exact h
def V_X10_empty_0 (d : Nat) (S : AS) (F : AF) (G : AG) (Q : AQ) (a1 : Int) (a2 : Int) (a3 : Int) (a4 : Int) : Prop :=
  ∀ F1 : AF, F1 = fu F 53 0 0 →
  (1 ≤ d) ∧
  ∃ z7 : Int, Pu (d - 1) MX10_isRectangle [vR 53, vI a1, vI a2, vI a3, vI a4] S F1 G (some (vI z7)) ∧
  ((¬ z7 = 0) →
    Go d MX10_empty 27 [some (vR 53), some (vI a1), some (vI a2), some (vI a3), some (vI a4), some (vJ 0), none, some (vI 0), none] [] S F1 G Q) ∧
  ((z7 = 0) →
    Q (some (vJ (-2))) S F1 G)
theorem R_X10_empty_0 {d : Nat} {S : AS} {F : AF} {G : AG} {Q : AQ} {a1 : Int} {a2 : Int} {a3 : Int} {a4 : Int} (hsm : ShM S) (h : V_X10_empty_0 d S F G Q a1 a2 a3 a4) : Go d MX10_empty 0 [some (vR 53), some (vI a1), some (vI a2), some (vI a3), some (vI a4), none, none, none, none] [] S F G Q := by
  unfold V_X10_empty_0 at h
  refine go_aload_n (show decode cX10_empty 0 = .ok (.aload_n 0, 1) by decide +kernel) (by rfl) ?_
  refine go_iconst (show decode cX10_empty 1 = .ok (.iconst 0, 1) by decide +kernel) (by decide) ?_
  refine go_putI (show decode cX10_empty 2 = .ok (.putfield 1, 3) by decide +kernel) fl_X10_1 rfl (Or.inl rfl) (shm_k hsm 53 (by decide) (by decide)) ?_
  obtain ⟨F1, F1e⟩ : ∃ F1 : AF, F1 = fu F 53 0 0 := ⟨_, rfl⟩
  have h := h F1 F1e
  rw [← F1e]
  refine go_aload_n (show decode cX10_empty 5 = .ok (.aload_n 0, 1) by decide +kernel) (by rfl) ?_
  refine go_iload_n (show decode cX10_empty 6 = .ok (.iload_n 1, 1) by decide +kernel) (by rfl) ?_
  refine go_iload_n (show decode cX10_empty 7 = .ok (.iload_n 2, 1) by decide +kernel) (by rfl) ?_
  refine go_iload_n (show decode cX10_empty 8 = .ok (.iload_n 3, 1) by decide +kernel) (by rfl) ?_
  refine go_iload (show decode cX10_empty 9 = .ok (.iload 4, 2) by decide +kernel) (by rfl) ?_
  obtain ⟨q2, h⟩ := h
  obtain ⟨z7, p8, h⟩ := h
  refine go_callV (d2 := d - 1) (M2 := MX10_isRectangle) (n := 4) (ci := 10) (av := [vI a1, vI a2, vI a3, vI a4]) (st := []) (show decode cX10_empty 11 = .ok (.invokevirtual 170, 3) by decide +kernel) ml_X10_170 mt_X10_isRectangle min_X10_isRectangle mse_X10_isRectangle (by decide) (shm_k hsm 53 (by decide) (by decide)) rfl (Nat.le_of_ble_eq_true rfl) (by omega) (ok_mono p8 (fun w3 S4 F5 G6 e9 => ?_))
  obtain ⟨e1, e2, e3, e4⟩ := e9
  subst e1
  replace e2 := e2.symm; subst e2
  replace e3 := e3.symm; subst e3
  replace e4 := e4.symm; subst e4
  show Go d MX10_empty 14 [some (vR 53), some (vI a1), some (vI a2), some (vI a3), some (vI a4), none, none, none, none] [vI z7] S F1 G Q
  obtain ⟨ht, hf⟩ := h
  refine go_ifne (tgt := 21) (show decode cX10_empty 14 = .ok (.ifCond .ne 7, 3) by decide +kernel) (by decide) (fun hc => ?_) (fun hc => ?_)
  · have h := ht hc
    refine go_lconst (n := 0) (show decode cX10_empty 21 = .ok (.lconst 0, 1) by decide +kernel) ?_
    show Go d MX10_empty 22 [some (vR 53), some (vI a1), some (vI a2), some (vI a3), some (vI a4), none, none, none, none] [vJ 0] S F1 G Q
    refine go_lstore (show decode cX10_empty 22 = .ok (.lstore 5, 2) by decide +kernel) (by decide) ?_
    show Go d MX10_empty 24 [some (vR 53), some (vI a1), some (vI a2), some (vI a3), some (vI a4), some (vJ 0), none, none, none] [] S F1 G Q
    refine go_iconst (show decode cX10_empty 24 = .ok (.iconst 0, 1) by decide +kernel) (by decide) ?_
    refine go_istore (show decode cX10_empty 25 = .ok (.istore 7, 2) by decide +kernel) (by decide) ?_
    show Go d MX10_empty 27 [some (vR 53), some (vI a1), some (vI a2), some (vI a3), some (vI a4), some (vJ 0), none, some (vI 0), none] [] S F1 G Q
    exact h
  · have h := hf hc
    refine go_ldc2 (show decode cX10_empty 17 = .ok (.ldc2_w 174, 3) by decide +kernel) lc_X10_174 (by decide) ?_
    exact go_lret (show decode cX10_empty 20 = .ok (.lreturn, 1) by decide +kernel) rfl h
def V_X10_share_0 (d : Nat) (S : AS) (F : AF) (G : AG) (Q : AQ) (a1 : Int) (a2 : Int) (a3 : Int) (a4 : Int) (a5 : Int) (a6 : Int) : Prop :=
  ∀ F1 : AF, F1 = fu F 53 0 0 →
  (1 ≤ d) ∧
  ∃ z7 : Int, Pu (d - 1) MX10_isGood [vI a1] S F1 G (some (vI z7)) ∧
  ((z7 = 0) →
    Q (some (vJ (-2))) S F1 G) ∧
  ((¬ z7 = 0) →
    ∃ z13 : Int, Pu (d - 1) MX10_isRectangle [vR 53, vI a2, vI a3, vI a4, vI a5] S F1 G (some (vI z13)) ∧
    ((z13 = 0) →
      Q (some (vJ (-2))) S F1 G) ∧
    ((¬ z13 = 0) →
      ∃ z19 : Int, Pu (d - 1) MX10_isIn [vJ a6, vJ 0, vJ 1] S F1 G (some (vI z19)) ∧
      ((¬ z19 = 0) →
        ∃ z25 : Int, Pu (d - 1) MX10_sumOf [vR 53, vI a1, vI a2, vI a3, vI a4, vI a5] S F1 G (some (vJ z25)) ∧
        ((0 : Int) ≤ a1) ∧
        ((a1 : Int) < 3) ∧
        ((¬ G 59 a1 = 0) →
          ∃ z33 : Int, Pu (d - 1) MX10_common [vJ (G 59 a1), vJ z25] S F1 G (some (vJ z33)) ∧
          ((¬ a6 = 0) →
            (¬ z33 = 0) ∧
            (r64 (Int.tdiv (G 59 a1) z33)) ∧
            Q (some (vJ (Int.tdiv (G 59 a1) z33))) S F1 G) ∧
          ((a6 = 0) →
            (¬ z33 = 0) ∧
            (r64 (Int.tdiv z25 z33)) ∧
            Q (some (vJ (Int.tdiv z25 z33))) S F1 G)) ∧
        ((G 59 a1 = 0) →
          Q (some (vJ a6)) S F1 G)) ∧
      ((z19 = 0) →
        Q (some (vJ (-2))) S F1 G)))
theorem R_X10_share_0 {d : Nat} {S : AS} {F : AF} {G : AG} {Q : AQ} {a1 : Int} {a2 : Int} {a3 : Int} {a4 : Int} {a5 : Int} {a6 : Int} (hsm : ShM S) (h : V_X10_share_0 d S F G Q a1 a2 a3 a4 a5 a6) : Go d MX10_share 0 [some (vR 53), some (vI a1), some (vI a2), some (vI a3), some (vI a4), some (vI a5), some (vI a6), none, none, none, none] [] S F G Q := by
  unfold V_X10_share_0 at h
  refine go_aload_n (show decode cX10_share 0 = .ok (.aload_n 0, 1) by decide +kernel) (by rfl) ?_
  refine go_iconst (show decode cX10_share 1 = .ok (.iconst 0, 1) by decide +kernel) (by decide) ?_
  refine go_putI (show decode cX10_share 2 = .ok (.putfield 1, 3) by decide +kernel) fl_X10_1 rfl (Or.inl rfl) (shm_k hsm 53 (by decide) (by decide)) ?_
  obtain ⟨F1, F1e⟩ : ∃ F1 : AF, F1 = fu F 53 0 0 := ⟨_, rfl⟩
  have h := h F1 F1e
  rw [← F1e]
  refine go_iload_n (show decode cX10_share 5 = .ok (.iload_n 1, 1) by decide +kernel) (by rfl) ?_
  obtain ⟨q2, h⟩ := h
  obtain ⟨z7, p8, h⟩ := h
  refine go_callS (d2 := d - 1) (M2 := MX10_isGood) (n := 1) (av := [vI a1]) (st := []) (show decode cX10_share 6 = .ok (.invokestatic 167, 3) by decide +kernel) ml_X10_167 mt_X10_isGood mst_X10_isGood rfl (Nat.le_of_ble_eq_true rfl) (by omega) (ok_mono p8 (fun w3 S4 F5 G6 e9 => ?_))
  obtain ⟨e1, e2, e3, e4⟩ := e9
  subst e1
  replace e2 := e2.symm; subst e2
  replace e3 := e3.symm; subst e3
  replace e4 := e4.symm; subst e4
  show Go d MX10_share 9 [some (vR 53), some (vI a1), some (vI a2), some (vI a3), some (vI a4), some (vI a5), some (vI a6), none, none, none, none] [vI z7] S F1 G Q
  obtain ⟨ht, hf⟩ := h
  refine go_ifeq (tgt := 36) (show decode cX10_share 9 = .ok (.ifCond .eq 27, 3) by decide +kernel) (by decide) (fun hc => ?_) (fun hc => ?_)
  · have h := ht hc
    refine go_ldc2 (show decode cX10_share 36 = .ok (.ldc2_w 174, 3) by decide +kernel) lc_X10_174 (by decide) ?_
    exact go_lret (show decode cX10_share 39 = .ok (.lreturn, 1) by decide +kernel) rfl h
  · have h := hf hc
    refine go_aload_n (show decode cX10_share 12 = .ok (.aload_n 0, 1) by decide +kernel) (by rfl) ?_
    refine go_iload_n (show decode cX10_share 13 = .ok (.iload_n 2, 1) by decide +kernel) (by rfl) ?_
    refine go_iload_n (show decode cX10_share 14 = .ok (.iload_n 3, 1) by decide +kernel) (by rfl) ?_
    refine go_iload (show decode cX10_share 15 = .ok (.iload 4, 2) by decide +kernel) (by rfl) ?_
    refine go_iload (show decode cX10_share 17 = .ok (.iload 5, 2) by decide +kernel) (by rfl) ?_
    obtain ⟨z13, p14, h⟩ := h
    refine go_callV (d2 := d - 1) (M2 := MX10_isRectangle) (n := 4) (ci := 10) (av := [vI a2, vI a3, vI a4, vI a5]) (st := []) (show decode cX10_share 19 = .ok (.invokevirtual 170, 3) by decide +kernel) ml_X10_170 mt_X10_isRectangle min_X10_isRectangle mse_X10_isRectangle (by decide) (shm_k hsm 53 (by decide) (by decide)) rfl (Nat.le_of_ble_eq_true rfl) (by omega) (ok_mono p14 (fun w9 S10 F11 G12 e9 => ?_))
    obtain ⟨e1, e2, e3, e4⟩ := e9
    subst e1
    replace e2 := e2.symm; subst e2
    replace e3 := e3.symm; subst e3
    replace e4 := e4.symm; subst e4
    show Go d MX10_share 22 [some (vR 53), some (vI a1), some (vI a2), some (vI a3), some (vI a4), some (vI a5), some (vI a6), none, none, none, none] [vI z13] S F1 G Q
    obtain ⟨ht, hf⟩ := h
    refine go_ifeq (tgt := 36) (show decode cX10_share 22 = .ok (.ifCond .eq 14, 3) by decide +kernel) (by decide) (fun hc => ?_) (fun hc => ?_)
    · have h := ht hc
      refine go_ldc2 (show decode cX10_share 36 = .ok (.ldc2_w 174, 3) by decide +kernel) lc_X10_174 (by decide) ?_
      exact go_lret (show decode cX10_share 39 = .ok (.lreturn, 1) by decide +kernel) rfl h
    · have h := hf hc
      refine go_iload (show decode cX10_share 25 = .ok (.iload 6, 2) by decide +kernel) (by rfl) ?_
      refine go_i2l (show decode cX10_share 27 = .ok (.i2l, 1) by decide +kernel) ?_
      refine go_lconst (n := 0) (show decode cX10_share 28 = .ok (.lconst 0, 1) by decide +kernel) ?_
      show Go d MX10_share 29 [some (vR 53), some (vI a1), some (vI a2), some (vI a3), some (vI a4), some (vI a5), some (vI a6), none, none, none, none] [vJ 0, vJ a6] S F1 G Q
      refine go_lconst (n := 1) (show decode cX10_share 29 = .ok (.lconst 1, 1) by decide +kernel) ?_
      show Go d MX10_share 30 [some (vR 53), some (vI a1), some (vI a2), some (vI a3), some (vI a4), some (vI a5), some (vI a6), none, none, none, none] [vJ 1, vJ 0, vJ a6] S F1 G Q
      obtain ⟨z19, p20, h⟩ := h
      refine go_callS (d2 := d - 1) (M2 := MX10_isIn) (n := 3) (av := [vJ a6, vJ 0, vJ 1]) (st := []) (show decode cX10_share 30 = .ok (.invokestatic 116, 3) by decide +kernel) ml_X10_116 mt_X10_isIn mst_X10_isIn rfl (Nat.le_of_ble_eq_true rfl) (by omega) (ok_mono p20 (fun w15 S16 F17 G18 e9 => ?_))
      obtain ⟨e1, e2, e3, e4⟩ := e9
      subst e1
      replace e2 := e2.symm; subst e2
      replace e3 := e3.symm; subst e3
      replace e4 := e4.symm; subst e4
      show Go d MX10_share 33 [some (vR 53), some (vI a1), some (vI a2), some (vI a3), some (vI a4), some (vI a5), some (vI a6), none, none, none, none] [vI z19] S F1 G Q
      obtain ⟨ht, hf⟩ := h
      refine go_ifne (tgt := 40) (show decode cX10_share 33 = .ok (.ifCond .ne 7, 3) by decide +kernel) (by decide) (fun hc => ?_) (fun hc => ?_)
      · have h := ht hc
        refine go_aload_n (show decode cX10_share 40 = .ok (.aload_n 0, 1) by decide +kernel) (by rfl) ?_
        refine go_iload_n (show decode cX10_share 41 = .ok (.iload_n 1, 1) by decide +kernel) (by rfl) ?_
        refine go_iload_n (show decode cX10_share 42 = .ok (.iload_n 2, 1) by decide +kernel) (by rfl) ?_
        refine go_iload_n (show decode cX10_share 43 = .ok (.iload_n 3, 1) by decide +kernel) (by rfl) ?_
        refine go_iload (show decode cX10_share 44 = .ok (.iload 4, 2) by decide +kernel) (by rfl) ?_
        refine go_iload (show decode cX10_share 46 = .ok (.iload 5, 2) by decide +kernel) (by rfl) ?_
        obtain ⟨z25, p26, h⟩ := h
        refine go_callV (d2 := d - 1) (M2 := MX10_sumOf) (n := 5) (ci := 10) (av := [vI a1, vI a2, vI a3, vI a4, vI a5]) (st := []) (show decode cX10_share 48 = .ok (.invokevirtual 251, 3) by decide +kernel) ml_X10_251 mt_X10_sumOf min_X10_sumOf mse_X10_sumOf (by decide) (shm_k hsm 53 (by decide) (by decide)) rfl (Nat.le_of_ble_eq_true rfl) (by omega) (ok_mono p26 (fun w21 S22 F23 G24 e9 => ?_))
        obtain ⟨e1, e2, e3, e4⟩ := e9
        subst e1
        replace e2 := e2.symm; subst e2
        replace e3 := e3.symm; subst e3
        replace e4 := e4.symm; subst e4
        show Go d MX10_share 51 [some (vR 53), some (vI a1), some (vI a2), some (vI a3), some (vI a4), some (vI a5), some (vI a6), none, none, none, none] [vJ z25] S F1 G Q
        refine go_lstore (show decode cX10_share 51 = .ok (.lstore 7, 2) by decide +kernel) (by decide) ?_
        show Go d MX10_share 53 [some (vR 53), some (vI a1), some (vI a2), some (vI a3), some (vI a4), some (vI a5), some (vI a6), some (vJ z25), none, none, none] [] S F1 G Q
        refine go_aload_n (show decode cX10_share 53 = .ok (.aload_n 0, 1) by decide +kernel) (by rfl) ?_
        refine go_getRc (show decode cX10_share 54 = .ok (.getfield 43, 3) by decide +kernel) fl_X10_43 rfl (shm_k hsm 53 (by decide) (by decide)) (v := 59) (shm_r hsm 53 9 (by decide) (by decide)) ?_
        refine go_iload_n (show decode cX10_share 57 = .ok (.iload_n 1, 1) by decide +kernel) (by rfl) ?_
        obtain ⟨q27, h⟩ := h
        obtain ⟨q28, h⟩ := h
        refine go_laload (show decode cX10_share 58 = .ok (.laload, 1) by decide +kernel) (shm_k hsm 59 (by decide) (by decide)) q27 (lt_n (m := 3) q28 (shm_n hsm 59 (by decide) (by decide))) ?_
        refine go_lconst (n := 0) (show decode cX10_share 59 = .ok (.lconst 0, 1) by decide +kernel) ?_
        show Go d MX10_share 60 [some (vR 53), some (vI a1), some (vI a2), some (vI a3), some (vI a4), some (vI a5), some (vI a6), some (vJ z25), none, none, none] [vJ 0, vJ (G 59 a1)] S F1 G Q
        obtain ⟨ht, hf⟩ := h
        refine go_jne (tgt := 68) (show decode cX10_share 60 = .ok (.lcmp, 1) by decide +kernel) (show decode cX10_share 61 = .ok (.ifCond .ne 7, 3) by decide +kernel) (by decide) (fun hc => ?_) (fun hc => ?_)
        · have h := ht hc
          refine go_aload_n (show decode cX10_share 68 = .ok (.aload_n 0, 1) by decide +kernel) (by rfl) ?_
          refine go_getRc (show decode cX10_share 69 = .ok (.getfield 43, 3) by decide +kernel) fl_X10_43 rfl (shm_k hsm 53 (by decide) (by decide)) (v := 59) (shm_r hsm 53 9 (by decide) (by decide)) ?_
          refine go_iload_n (show decode cX10_share 72 = .ok (.iload_n 1, 1) by decide +kernel) (by rfl) ?_
          refine go_laload (show decode cX10_share 73 = .ok (.laload, 1) by decide +kernel) (shm_k hsm 59 (by decide) (by decide)) q27 (lt_n (m := 3) q28 (shm_n hsm 59 (by decide) (by decide))) ?_
          refine go_lload (show decode cX10_share 74 = .ok (.lload 7, 2) by decide +kernel) (by rfl) ?_
          obtain ⟨z33, p34, h⟩ := h
          refine go_callS (d2 := d - 1) (M2 := MX10_common) (n := 2) (av := [vJ (G 59 a1), vJ z25]) (st := []) (show decode cX10_share 76 = .ok (.invokestatic 409, 3) by decide +kernel) ml_X10_409 mt_X10_common mst_X10_common rfl (Nat.le_of_ble_eq_true rfl) (by omega) (ok_mono p34 (fun w29 S30 F31 G32 e9 => ?_))
          obtain ⟨e1, e2, e3, e4⟩ := e9
          subst e1
          replace e2 := e2.symm; subst e2
          replace e3 := e3.symm; subst e3
          replace e4 := e4.symm; subst e4
          show Go d MX10_share 79 [some (vR 53), some (vI a1), some (vI a2), some (vI a3), some (vI a4), some (vI a5), some (vI a6), some (vJ z25), none, none, none] [vJ z33] S F1 G Q
          refine go_lstore (show decode cX10_share 79 = .ok (.lstore 9, 2) by decide +kernel) (by decide) ?_
          show Go d MX10_share 81 [some (vR 53), some (vI a1), some (vI a2), some (vI a3), some (vI a4), some (vI a5), some (vI a6), some (vJ z25), none, some (vJ z33), none] [] S F1 G Q
          refine go_iload (show decode cX10_share 81 = .ok (.iload 6, 2) by decide +kernel) (by rfl) ?_
          obtain ⟨ht, hf⟩ := h
          refine go_ifne (tgt := 91) (show decode cX10_share 83 = .ok (.ifCond .ne 8, 3) by decide +kernel) (by decide) (fun hc => ?_) (fun hc => ?_)
          · have h := ht hc
            refine go_aload_n (show decode cX10_share 91 = .ok (.aload_n 0, 1) by decide +kernel) (by rfl) ?_
            refine go_getRc (show decode cX10_share 92 = .ok (.getfield 43, 3) by decide +kernel) fl_X10_43 rfl (shm_k hsm 53 (by decide) (by decide)) (v := 59) (shm_r hsm 53 9 (by decide) (by decide)) ?_
            refine go_iload_n (show decode cX10_share 95 = .ok (.iload_n 1, 1) by decide +kernel) (by rfl) ?_
            refine go_laload (show decode cX10_share 96 = .ok (.laload, 1) by decide +kernel) (shm_k hsm 59 (by decide) (by decide)) q27 (lt_n (m := 3) q28 (shm_n hsm 59 (by decide) (by decide))) ?_
            refine go_lload (show decode cX10_share 97 = .ok (.lload 9, 2) by decide +kernel) (by rfl) ?_
            obtain ⟨q35, h⟩ := h
            obtain ⟨q36, h⟩ := h
            refine go_ldiv (show decode cX10_share 99 = .ok (.ldiv, 1) by decide +kernel) q35 q36 ?_
            exact go_lret (show decode cX10_share 100 = .ok (.lreturn, 1) by decide +kernel) rfl h
          · have h := hf hc
            refine go_lload (show decode cX10_share 86 = .ok (.lload 7, 2) by decide +kernel) (by rfl) ?_
            refine go_goto (tgt := 97) (show decode cX10_share 88 = .ok (.goto 9, 3) by decide +kernel) (by decide) ?_
            refine go_lload (show decode cX10_share 97 = .ok (.lload 9, 2) by decide +kernel) (by rfl) ?_
            obtain ⟨q37, h⟩ := h
            obtain ⟨q38, h⟩ := h
            refine go_ldiv (show decode cX10_share 99 = .ok (.ldiv, 1) by decide +kernel) q37 q38 ?_
            exact go_lret (show decode cX10_share 100 = .ok (.lreturn, 1) by decide +kernel) rfl h
        · have h := hf hc
          refine go_iload (show decode cX10_share 64 = .ok (.iload 6, 2) by decide +kernel) (by rfl) ?_
          refine go_i2l (show decode cX10_share 66 = .ok (.i2l, 1) by decide +kernel) ?_
          exact go_lret (show decode cX10_share 67 = .ok (.lreturn, 1) by decide +kernel) rfl h
      · have h := hf hc
        refine go_ldc2 (show decode cX10_share 36 = .ok (.ldc2_w 174, 3) by decide +kernel) lc_X10_174 (by decide) ?_
        exact go_lret (show decode cX10_share 39 = .ok (.lreturn, 1) by decide +kernel) rfl h
def V_X10_common_0 (d : Nat) (S : AS) (F : AF) (G : AG) (Q : AQ) (a0 : Int) (a2 : Int) : Prop :=
  ((¬ a2 = 0) →
    (¬ a2 = 0) ∧
    (r64 (Int.tdiv a0 a2)) ∧
    (r64 (Int.tmod a0 a2)) ∧
    (1 ≤ d) ∧
    ∃ z9 : Int, Pu (d - 1) MX10_common [vJ a2, vJ (Int.tmod a0 a2)] S F G (some (vJ z9)) ∧
    Q (some (vJ z9)) S F G) ∧
  ((a2 = 0) →
    Q (some (vJ a0)) S F G)
theorem R_X10_common_0 {d : Nat} {S : AS} {F : AF} {G : AG} {Q : AQ} {a0 : Int} {a2 : Int} (hsm : ShM S) (h : V_X10_common_0 d S F G Q a0 a2) : Go d MX10_common 0 [some (vJ a0), none, some (vJ a2), none] [] S F G Q := by
  unfold V_X10_common_0 at h
  refine go_lload_n (show decode cX10_common 0 = .ok (.lload_n 2, 1) by decide +kernel) (by rfl) ?_
  refine go_lconst (n := 0) (show decode cX10_common 1 = .ok (.lconst 0, 1) by decide +kernel) ?_
  show Go d MX10_common 2 [some (vJ a0), none, some (vJ a2), none] [vJ 0, vJ a2] S F G Q
  obtain ⟨ht, hf⟩ := h
  refine go_jne (tgt := 10) (show decode cX10_common 2 = .ok (.lcmp, 1) by decide +kernel) (show decode cX10_common 3 = .ok (.ifCond .ne 7, 3) by decide +kernel) (by decide) (fun hc => ?_) (fun hc => ?_)
  · have h := ht hc
    refine go_lload_n (show decode cX10_common 10 = .ok (.lload_n 2, 1) by decide +kernel) (by rfl) ?_
    refine go_lload_n (show decode cX10_common 11 = .ok (.lload_n 0, 1) by decide +kernel) (by rfl) ?_
    refine go_lload_n (show decode cX10_common 12 = .ok (.lload_n 2, 1) by decide +kernel) (by rfl) ?_
    obtain ⟨q1, h⟩ := h
    obtain ⟨q2, h⟩ := h
    obtain ⟨q3, h⟩ := h
    refine go_lrem (show decode cX10_common 13 = .ok (.lrem, 1) by decide +kernel) q1 q2 q3 ?_
    obtain ⟨q4, h⟩ := h
    obtain ⟨z9, p10, h⟩ := h
    refine go_callS (d2 := d - 1) (M2 := MX10_common) (n := 2) (av := [vJ a2, vJ (Int.tmod a0 a2)]) (st := []) (show decode cX10_common 14 = .ok (.invokestatic 409, 3) by decide +kernel) ml_X10_409 mt_X10_common mst_X10_common rfl (Nat.le_of_ble_eq_true rfl) (by omega) (ok_mono p10 (fun w5 S6 F7 G8 e9 => ?_))
    obtain ⟨e1, e2, e3, e4⟩ := e9
    subst e1
    replace e2 := e2.symm; subst e2
    replace e3 := e3.symm; subst e3
    replace e4 := e4.symm; subst e4
    show Go d MX10_common 17 [some (vJ a0), none, some (vJ a2), none] [vJ z9] S F G Q
    exact go_lret (show decode cX10_common 17 = .ok (.lreturn, 1) by decide +kernel) rfl h
  · have h := hf hc
    refine go_lload_n (show decode cX10_common 6 = .ok (.lload_n 0, 1) by decide +kernel) (by rfl) ?_
    refine go_goto (tgt := 17) (show decode cX10_common 7 = .ok (.goto 10, 3) by decide +kernel) (by decide) ?_
    exact go_lret (show decode cX10_common 17 = .ok (.lreturn, 1) by decide +kernel) rfl h
def V_X10_atLeast_0 (d : Nat) (S : AS) (F : AF) (G : AG) (Q : AQ) (a1 : Int) (a2 : Int) (a3 : Int) (a4 : Int) (a5 : Int) (a6 : Int) : Prop :=
  ∀ F1 : AF, F1 = fu F 53 0 0 →
  (1 ≤ d) ∧
  ∃ z7 : Int, Pu (d - 1) MX10_isGoodOrAll [vI a1] S F1 G (some (vI z7)) ∧
  ((z7 = 0) →
    Q (some (vJ (-2))) S F1 G) ∧
  ((¬ z7 = 0) →
    ∃ z13 : Int, Pu (d - 1) MX10_isRectangle [vR 53, vI a2, vI a3, vI a4, vI a5] S F1 G (some (vI z13)) ∧
    ((¬ z13 = 0) →
      ((0 ≤ a6) →
        ∃ z19 : Int, Pu (d - 1) MX10_cellsFrom [vR 53, vI a1, vI a2, vI a3, vI a4, vI a5, vJ a6] S F1 G (some (vJ z19)) ∧
        Q (some (vJ z19)) S F1 G) ∧
      ((¬ 0 ≤ a6) →
        Q (some (vJ (-3))) S F1 G)) ∧
    ((z13 = 0) →
      Q (some (vJ (-2))) S F1 G))
theorem R_X10_atLeast_0 {d : Nat} {S : AS} {F : AF} {G : AG} {Q : AQ} {a1 : Int} {a2 : Int} {a3 : Int} {a4 : Int} {a5 : Int} {a6 : Int} (hsm : ShM S) (h : V_X10_atLeast_0 d S F G Q a1 a2 a3 a4 a5 a6) : Go d MX10_atLeast 0 [some (vR 53), some (vI a1), some (vI a2), some (vI a3), some (vI a4), some (vI a5), some (vJ a6), none] [] S F G Q := by
  unfold V_X10_atLeast_0 at h
  refine go_aload_n (show decode cX10_atLeast 0 = .ok (.aload_n 0, 1) by decide +kernel) (by rfl) ?_
  refine go_iconst (show decode cX10_atLeast 1 = .ok (.iconst 0, 1) by decide +kernel) (by decide) ?_
  refine go_putI (show decode cX10_atLeast 2 = .ok (.putfield 1, 3) by decide +kernel) fl_X10_1 rfl (Or.inl rfl) (shm_k hsm 53 (by decide) (by decide)) ?_
  obtain ⟨F1, F1e⟩ : ∃ F1 : AF, F1 = fu F 53 0 0 := ⟨_, rfl⟩
  have h := h F1 F1e
  rw [← F1e]
  refine go_iload_n (show decode cX10_atLeast 5 = .ok (.iload_n 1, 1) by decide +kernel) (by rfl) ?_
  obtain ⟨q2, h⟩ := h
  obtain ⟨z7, p8, h⟩ := h
  refine go_callS (d2 := d - 1) (M2 := MX10_isGoodOrAll) (n := 1) (av := [vI a1]) (st := []) (show decode cX10_atLeast 6 = .ok (.invokestatic 403, 3) by decide +kernel) ml_X10_403 mt_X10_isGoodOrAll mst_X10_isGoodOrAll rfl (Nat.le_of_ble_eq_true rfl) (by omega) (ok_mono p8 (fun w3 S4 F5 G6 e9 => ?_))
  obtain ⟨e1, e2, e3, e4⟩ := e9
  subst e1
  replace e2 := e2.symm; subst e2
  replace e3 := e3.symm; subst e3
  replace e4 := e4.symm; subst e4
  show Go d MX10_atLeast 9 [some (vR 53), some (vI a1), some (vI a2), some (vI a3), some (vI a4), some (vI a5), some (vJ a6), none] [vI z7] S F1 G Q
  obtain ⟨ht, hf⟩ := h
  refine go_ifeq (tgt := 25) (show decode cX10_atLeast 9 = .ok (.ifCond .eq 16, 3) by decide +kernel) (by decide) (fun hc => ?_) (fun hc => ?_)
  · have h := ht hc
    refine go_ldc2 (show decode cX10_atLeast 25 = .ok (.ldc2_w 174, 3) by decide +kernel) lc_X10_174 (by decide) ?_
    exact go_lret (show decode cX10_atLeast 28 = .ok (.lreturn, 1) by decide +kernel) rfl h
  · have h := hf hc
    refine go_aload_n (show decode cX10_atLeast 12 = .ok (.aload_n 0, 1) by decide +kernel) (by rfl) ?_
    refine go_iload_n (show decode cX10_atLeast 13 = .ok (.iload_n 2, 1) by decide +kernel) (by rfl) ?_
    refine go_iload_n (show decode cX10_atLeast 14 = .ok (.iload_n 3, 1) by decide +kernel) (by rfl) ?_
    refine go_iload (show decode cX10_atLeast 15 = .ok (.iload 4, 2) by decide +kernel) (by rfl) ?_
    refine go_iload (show decode cX10_atLeast 17 = .ok (.iload 5, 2) by decide +kernel) (by rfl) ?_
    obtain ⟨z13, p14, h⟩ := h
    refine go_callV (d2 := d - 1) (M2 := MX10_isRectangle) (n := 4) (ci := 10) (av := [vI a2, vI a3, vI a4, vI a5]) (st := []) (show decode cX10_atLeast 19 = .ok (.invokevirtual 170, 3) by decide +kernel) ml_X10_170 mt_X10_isRectangle min_X10_isRectangle mse_X10_isRectangle (by decide) (shm_k hsm 53 (by decide) (by decide)) rfl (Nat.le_of_ble_eq_true rfl) (by omega) (ok_mono p14 (fun w9 S10 F11 G12 e9 => ?_))
    obtain ⟨e1, e2, e3, e4⟩ := e9
    subst e1
    replace e2 := e2.symm; subst e2
    replace e3 := e3.symm; subst e3
    replace e4 := e4.symm; subst e4
    show Go d MX10_atLeast 22 [some (vR 53), some (vI a1), some (vI a2), some (vI a3), some (vI a4), some (vI a5), some (vJ a6), none] [vI z13] S F1 G Q
    obtain ⟨ht, hf⟩ := h
    refine go_ifne (tgt := 29) (show decode cX10_atLeast 22 = .ok (.ifCond .ne 7, 3) by decide +kernel) (by decide) (fun hc => ?_) (fun hc => ?_)
    · have h := ht hc
      refine go_lload (show decode cX10_atLeast 29 = .ok (.lload 6, 2) by decide +kernel) (by rfl) ?_
      refine go_lconst (n := 0) (show decode cX10_atLeast 31 = .ok (.lconst 0, 1) by decide +kernel) ?_
      show Go d MX10_atLeast 32 [some (vR 53), some (vI a1), some (vI a2), some (vI a3), some (vI a4), some (vI a5), some (vJ a6), none] [vJ 0, vJ a6] S F1 G Q
      obtain ⟨ht, hf⟩ := h
      refine go_jge (tgt := 42) (show decode cX10_atLeast 32 = .ok (.lcmp, 1) by decide +kernel) (show decode cX10_atLeast 33 = .ok (.ifCond .ge 9, 3) by decide +kernel) (by decide) (fun hc => ?_) (fun hc => ?_)
      · have h := ht hc
        refine go_aload_n (show decode cX10_atLeast 42 = .ok (.aload_n 0, 1) by decide +kernel) (by rfl) ?_
        refine go_iload_n (show decode cX10_atLeast 43 = .ok (.iload_n 1, 1) by decide +kernel) (by rfl) ?_
        refine go_iload_n (show decode cX10_atLeast 44 = .ok (.iload_n 2, 1) by decide +kernel) (by rfl) ?_
        refine go_iload_n (show decode cX10_atLeast 45 = .ok (.iload_n 3, 1) by decide +kernel) (by rfl) ?_
        refine go_iload (show decode cX10_atLeast 46 = .ok (.iload 4, 2) by decide +kernel) (by rfl) ?_
        refine go_iload (show decode cX10_atLeast 48 = .ok (.iload 5, 2) by decide +kernel) (by rfl) ?_
        refine go_lload (show decode cX10_atLeast 50 = .ok (.lload 6, 2) by decide +kernel) (by rfl) ?_
        obtain ⟨z19, p20, h⟩ := h
        refine go_callV (d2 := d - 1) (M2 := MX10_cellsFrom) (n := 6) (ci := 10) (av := [vI a1, vI a2, vI a3, vI a4, vI a5, vJ a6]) (st := []) (show decode cX10_atLeast 52 = .ok (.invokevirtual 412, 3) by decide +kernel) ml_X10_412 mt_X10_cellsFrom min_X10_cellsFrom mse_X10_cellsFrom (by decide) (shm_k hsm 53 (by decide) (by decide)) rfl (Nat.le_of_ble_eq_true rfl) (by omega) (ok_mono p20 (fun w15 S16 F17 G18 e9 => ?_))
        obtain ⟨e1, e2, e3, e4⟩ := e9
        subst e1
        replace e2 := e2.symm; subst e2
        replace e3 := e3.symm; subst e3
        replace e4 := e4.symm; subst e4
        show Go d MX10_atLeast 55 [some (vR 53), some (vI a1), some (vI a2), some (vI a3), some (vI a4), some (vI a5), some (vJ a6), none] [vJ z19] S F1 G Q
        exact go_lret (show decode cX10_atLeast 55 = .ok (.lreturn, 1) by decide +kernel) rfl h
      · have h := hf hc
        refine go_ldc2 (show decode cX10_atLeast 36 = .ok (.ldc2_w 120, 3) by decide +kernel) lc_X10_120 (by decide) ?_
        refine go_goto (tgt := 55) (show decode cX10_atLeast 39 = .ok (.goto 16, 3) by decide +kernel) (by decide) ?_
        exact go_lret (show decode cX10_atLeast 55 = .ok (.lreturn, 1) by decide +kernel) rfl h
    · have h := hf hc
      refine go_ldc2 (show decode cX10_atLeast 25 = .ok (.ldc2_w 174, 3) by decide +kernel) lc_X10_174 (by decide) ?_
      exact go_lret (show decode cX10_atLeast 28 = .ok (.lreturn, 1) by decide +kernel) rfl h
def V_X10_cellsFrom_75 (d : Nat) (S : AS) (F : AF) (G : AG) (Q : AQ) (a1 : Int) (a2 : Int) (a3 : Int) (a4 : Int) (a5 : Int) (a6 : Int) (a8 : Int) (a10 : Int) (a11 : Int) (s0 : Int) (s1 : Int) : Prop :=
  (r64 (s1 + s0)) ∧
  ∀ x2 : Int, x2 = s1 + s0 →
  (r32 (a11 + 1)) ∧
  Go d MX10_cellsFrom 20 [some (vR 53), some (vI a1), some (vI a2), some (vI a3), some (vI a4), some (vI a5), some (vJ a6), none, some (vJ x2), none, some (vI a10), some (vI (a11 + 1))] [] S F G Q
theorem R_X10_cellsFrom_75 {d : Nat} {S : AS} {F : AF} {G : AG} {Q : AQ} {a1 : Int} {a2 : Int} {a3 : Int} {a4 : Int} {a5 : Int} {a6 : Int} {a8 : Int} {a10 : Int} {a11 : Int} {s0 : Int} {s1 : Int} (hsm : ShM S) (h : V_X10_cellsFrom_75 d S F G Q a1 a2 a3 a4 a5 a6 a8 a10 a11 s0 s1) : Go d MX10_cellsFrom 75 [some (vR 53), some (vI a1), some (vI a2), some (vI a3), some (vI a4), some (vI a5), some (vJ a6), none, some (vJ a8), none, some (vI a10), some (vI a11)] [vJ s0, vJ s1] S F G Q := by
  unfold V_X10_cellsFrom_75 at h
  obtain ⟨q1, h⟩ := h
  refine go_ladd (show decode cX10_cellsFrom 75 = .ok (.ladd, 1) by decide +kernel) q1 ?_
  obtain ⟨x2, x2e⟩ : ∃ x2 : Int, x2 = s1 + s0 := ⟨_, rfl⟩
  have h := h x2 x2e
  rw [← x2e]
  refine go_lstore (show decode cX10_cellsFrom 76 = .ok (.lstore 8, 2) by decide +kernel) (by decide) ?_
  show Go d MX10_cellsFrom 78 [some (vR 53), some (vI a1), some (vI a2), some (vI a3), some (vI a4), some (vI a5), some (vJ a6), none, some (vJ x2), none, some (vI a10), some (vI a11)] [] S F G Q
  obtain ⟨q3, h⟩ := h
  refine go_iinc (show decode cX10_cellsFrom 78 = .ok (.iinc 11 1, 3) by decide +kernel) (by rfl) q3 (by decide) ?_
  show Go d MX10_cellsFrom 81 [some (vR 53), some (vI a1), some (vI a2), some (vI a3), some (vI a4), some (vI a5), some (vJ a6), none, some (vJ x2), none, some (vI a10), some (vI (a11 + 1))] [] S F G Q
  refine go_goto (tgt := 20) (show decode cX10_cellsFrom 81 = .ok (.goto (-61), 3) by decide +kernel) (by decide) ?_
  exact h
def V_X10_cellsFrom_20 (d : Nat) (S : AS) (F : AF) (G : AG) (Q : AQ) (a1 : Int) (a2 : Int) (a3 : Int) (a4 : Int) (a5 : Int) (a6 : Int) (a8 : Int) (a10 : Int) (a11 : Int) : Prop :=
  ((G 55 1 ≤ a11) →
    (r32 (a10 + 1)) ∧
    Go d MX10_cellsFrom 6 [some (vR 53), some (vI a1), some (vI a2), some (vI a3), some (vI a4), some (vI a5), some (vJ a6), none, some (vJ a8), none, some (vI (a10 + 1)), none] [] S F G Q) ∧
  ((¬ G 55 1 ≤ a11) →
    (1 ≤ d) ∧
    ∃ z7 : Int, Pu (d - 1) MX10_in [vR 53, vI a1, vI a10, vI a11] S F G (some (vJ z7)) ∧
    ((z7 < a6) →
      V_X10_cellsFrom_75 d S F G Q a1 a2 a3 a4 a5 a6 a8 a10 a11 0 a8) ∧
    ((¬ z7 < a6) →
      ∃ z13 : Int, Pu (d - 1) MX10_part [vR 53, vI 0, vI a10, vI a2, vI a4] S F G (some (vI z13)) ∧
      ∃ z19 : Int, Pu (d - 1) MX10_part [vR 53, vI 1, vI a11, vI a3, vI a5] S F G (some (vI z19)) ∧
      (r64 (z13 * z19)) ∧
      V_X10_cellsFrom_75 d S F G Q a1 a2 a3 a4 a5 a6 a8 a10 a11 (z13 * z19) a8))
theorem R_X10_cellsFrom_20 {d : Nat} {S : AS} {F : AF} {G : AG} {Q : AQ} {a1 : Int} {a2 : Int} {a3 : Int} {a4 : Int} {a5 : Int} {a6 : Int} {a8 : Int} {a10 : Int} {a11 : Int} (hsm : ShM S) (h : V_X10_cellsFrom_20 d S F G Q a1 a2 a3 a4 a5 a6 a8 a10 a11) : Go d MX10_cellsFrom 20 [some (vR 53), some (vI a1), some (vI a2), some (vI a3), some (vI a4), some (vI a5), some (vJ a6), none, some (vJ a8), none, some (vI a10), some (vI a11)] [] S F G Q := by
  unfold V_X10_cellsFrom_20 at h
  refine go_iload (show decode cX10_cellsFrom 20 = .ok (.iload 11, 2) by decide +kernel) (by rfl) ?_
  refine go_aload_n (show decode cX10_cellsFrom 22 = .ok (.aload_n 0, 1) by decide +kernel) (by rfl) ?_
  refine go_getRc (show decode cX10_cellsFrom 23 = .ok (.getfield 29, 3) by decide +kernel) fl_X10_29 rfl (shm_k hsm 53 (by decide) (by decide)) (v := 55) (shm_r hsm 53 5 (by decide) (by decide)) ?_
  refine go_iconst (show decode cX10_cellsFrom 26 = .ok (.iconst 1, 1) by decide +kernel) (by decide) ?_
  refine go_iaload (show decode cX10_cellsFrom 27 = .ok (.iaload, 1) by decide +kernel) (shm_k hsm 55 (by decide) (by decide)) (by decide) (lt_n (m := 2) (by decide) (shm_n hsm 55 (by decide) (by decide))) ?_
  obtain ⟨ht, hf⟩ := h
  refine go_icmpge (tgt := 84) (show decode cX10_cellsFrom 28 = .ok (.if_icmp .ge 56, 3) by decide +kernel) (by decide) (fun hc => ?_) (fun hc => ?_)
  · have h := ht hc
    obtain ⟨q1, h⟩ := h
    refine go_iinc (show decode cX10_cellsFrom 84 = .ok (.iinc 10 1, 3) by decide +kernel) (by rfl) q1 (by decide) ?_
    show Go d MX10_cellsFrom 87 [some (vR 53), some (vI a1), some (vI a2), some (vI a3), some (vI a4), some (vI a5), some (vJ a6), none, some (vJ a8), none, some (vI (a10 + 1)), some (vI a11)] [] S F G Q
    refine go_goto (tgt := 6) (show decode cX10_cellsFrom 87 = .ok (.goto (-81), 3) by decide +kernel) (by decide) ?_
    refine go_clr 11 ?_
    exact h
  · have h := hf hc
    refine go_lload (show decode cX10_cellsFrom 31 = .ok (.lload 8, 2) by decide +kernel) (by rfl) ?_
    refine go_aload_n (show decode cX10_cellsFrom 33 = .ok (.aload_n 0, 1) by decide +kernel) (by rfl) ?_
    refine go_iload_n (show decode cX10_cellsFrom 34 = .ok (.iload_n 1, 1) by decide +kernel) (by rfl) ?_
    refine go_iload (show decode cX10_cellsFrom 35 = .ok (.iload 10, 2) by decide +kernel) (by rfl) ?_
    refine go_iload (show decode cX10_cellsFrom 37 = .ok (.iload 11, 2) by decide +kernel) (by rfl) ?_
    obtain ⟨q2, h⟩ := h
    obtain ⟨z7, p8, h⟩ := h
    refine go_callV (d2 := d - 1) (M2 := MX10_in) (n := 3) (ci := 10) (av := [vI a1, vI a10, vI a11]) (st := [vJ a8]) (show decode cX10_cellsFrom 39 = .ok (.invokevirtual 163, 3) by decide +kernel) ml_X10_163 mt_X10_in min_X10_in mse_X10_in (by decide) (shm_k hsm 53 (by decide) (by decide)) rfl (Nat.le_of_ble_eq_true rfl) (by omega) (ok_mono p8 (fun w3 S4 F5 G6 e9 => ?_))
    obtain ⟨e1, e2, e3, e4⟩ := e9
    subst e1
    replace e2 := e2.symm; subst e2
    replace e3 := e3.symm; subst e3
    replace e4 := e4.symm; subst e4
    show Go d MX10_cellsFrom 42 [some (vR 53), some (vI a1), some (vI a2), some (vI a3), some (vI a4), some (vI a5), some (vJ a6), none, some (vJ a8), none, some (vI a10), some (vI a11)] [vJ z7, vJ a8] S F G Q
    refine go_lload (show decode cX10_cellsFrom 42 = .ok (.lload 6, 2) by decide +kernel) (by rfl) ?_
    obtain ⟨ht, hf⟩ := h
    refine go_jlt (tgt := 74) (show decode cX10_cellsFrom 44 = .ok (.lcmp, 1) by decide +kernel) (show decode cX10_cellsFrom 45 = .ok (.ifCond .lt 29, 3) by decide +kernel) (by decide) (fun hc => ?_) (fun hc => ?_)
    · have h := ht hc
      refine go_lconst (n := 0) (show decode cX10_cellsFrom 74 = .ok (.lconst 0, 1) by decide +kernel) ?_
      show Go d MX10_cellsFrom 75 [some (vR 53), some (vI a1), some (vI a2), some (vI a3), some (vI a4), some (vI a5), some (vJ a6), none, some (vJ a8), none, some (vI a10), some (vI a11)] [vJ 0, vJ a8] S F G Q
      exact R_X10_cellsFrom_75 hsm h
    · have h := hf hc
      refine go_aload_n (show decode cX10_cellsFrom 48 = .ok (.aload_n 0, 1) by decide +kernel) (by rfl) ?_
      refine go_iconst (show decode cX10_cellsFrom 49 = .ok (.iconst 0, 1) by decide +kernel) (by decide) ?_
      refine go_iload (show decode cX10_cellsFrom 50 = .ok (.iload 10, 2) by decide +kernel) (by rfl) ?_
      refine go_iload_n (show decode cX10_cellsFrom 52 = .ok (.iload_n 2, 1) by decide +kernel) (by rfl) ?_
      refine go_iload (show decode cX10_cellsFrom 53 = .ok (.iload 4, 2) by decide +kernel) (by rfl) ?_
      obtain ⟨z13, p14, h⟩ := h
      refine go_callV (d2 := d - 1) (M2 := MX10_part) (n := 4) (ci := 10) (av := [vI 0, vI a10, vI a2, vI a4]) (st := [vJ a8]) (show decode cX10_cellsFrom 55 = .ok (.invokevirtual 159, 3) by decide +kernel) ml_X10_159 mt_X10_part min_X10_part mse_X10_part (by decide) (shm_k hsm 53 (by decide) (by decide)) rfl (Nat.le_of_ble_eq_true rfl) (by omega) (ok_mono p14 (fun w9 S10 F11 G12 e9 => ?_))
      obtain ⟨e1, e2, e3, e4⟩ := e9
      subst e1
      replace e2 := e2.symm; subst e2
      replace e3 := e3.symm; subst e3
      replace e4 := e4.symm; subst e4
      show Go d MX10_cellsFrom 58 [some (vR 53), some (vI a1), some (vI a2), some (vI a3), some (vI a4), some (vI a5), some (vJ a6), none, some (vJ a8), none, some (vI a10), some (vI a11)] [vI z13, vJ a8] S F G Q
      refine go_i2l (show decode cX10_cellsFrom 58 = .ok (.i2l, 1) by decide +kernel) ?_
      refine go_aload_n (show decode cX10_cellsFrom 59 = .ok (.aload_n 0, 1) by decide +kernel) (by rfl) ?_
      refine go_iconst (show decode cX10_cellsFrom 60 = .ok (.iconst 1, 1) by decide +kernel) (by decide) ?_
      refine go_iload (show decode cX10_cellsFrom 61 = .ok (.iload 11, 2) by decide +kernel) (by rfl) ?_
      refine go_iload_n (show decode cX10_cellsFrom 63 = .ok (.iload_n 3, 1) by decide +kernel) (by rfl) ?_
      refine go_iload (show decode cX10_cellsFrom 64 = .ok (.iload 5, 2) by decide +kernel) (by rfl) ?_
      obtain ⟨z19, p20, h⟩ := h
      refine go_callV (d2 := d - 1) (M2 := MX10_part) (n := 4) (ci := 10) (av := [vI 1, vI a11, vI a3, vI a5]) (st := [vJ z13, vJ a8]) (show decode cX10_cellsFrom 66 = .ok (.invokevirtual 159, 3) by decide +kernel) ml_X10_159 mt_X10_part min_X10_part mse_X10_part (by decide) (shm_k hsm 53 (by decide) (by decide)) rfl (Nat.le_of_ble_eq_true rfl) (by omega) (ok_mono p20 (fun w15 S16 F17 G18 e9 => ?_))
      obtain ⟨e1, e2, e3, e4⟩ := e9
      subst e1
      replace e2 := e2.symm; subst e2
      replace e3 := e3.symm; subst e3
      replace e4 := e4.symm; subst e4
      show Go d MX10_cellsFrom 69 [some (vR 53), some (vI a1), some (vI a2), some (vI a3), some (vI a4), some (vI a5), some (vJ a6), none, some (vJ a8), none, some (vI a10), some (vI a11)] [vI z19, vJ z13, vJ a8] S F G Q
      refine go_i2l (show decode cX10_cellsFrom 69 = .ok (.i2l, 1) by decide +kernel) ?_
      obtain ⟨q21, h⟩ := h
      refine go_lmul (show decode cX10_cellsFrom 70 = .ok (.lmul, 1) by decide +kernel) q21 ?_
      refine go_goto (tgt := 75) (show decode cX10_cellsFrom 71 = .ok (.goto 4, 3) by decide +kernel) (by decide) ?_
      exact R_X10_cellsFrom_75 hsm h
def V_X10_cellsFrom_6 (d : Nat) (S : AS) (F : AF) (G : AG) (Q : AQ) (a1 : Int) (a2 : Int) (a3 : Int) (a4 : Int) (a5 : Int) (a6 : Int) (a8 : Int) (a10 : Int) : Prop :=
  ((G 55 0 ≤ a10) →
    Q (some (vJ a8)) S F G) ∧
  ((¬ G 55 0 ≤ a10) →
    Go d MX10_cellsFrom 20 [some (vR 53), some (vI a1), some (vI a2), some (vI a3), some (vI a4), some (vI a5), some (vJ a6), none, some (vJ a8), none, some (vI a10), some (vI 0)] [] S F G Q)
theorem R_X10_cellsFrom_6 {d : Nat} {S : AS} {F : AF} {G : AG} {Q : AQ} {a1 : Int} {a2 : Int} {a3 : Int} {a4 : Int} {a5 : Int} {a6 : Int} {a8 : Int} {a10 : Int} (hsm : ShM S) (h : V_X10_cellsFrom_6 d S F G Q a1 a2 a3 a4 a5 a6 a8 a10) : Go d MX10_cellsFrom 6 [some (vR 53), some (vI a1), some (vI a2), some (vI a3), some (vI a4), some (vI a5), some (vJ a6), none, some (vJ a8), none, some (vI a10), none] [] S F G Q := by
  unfold V_X10_cellsFrom_6 at h
  refine go_iload (show decode cX10_cellsFrom 6 = .ok (.iload 10, 2) by decide +kernel) (by rfl) ?_
  refine go_aload_n (show decode cX10_cellsFrom 8 = .ok (.aload_n 0, 1) by decide +kernel) (by rfl) ?_
  refine go_getRc (show decode cX10_cellsFrom 9 = .ok (.getfield 29, 3) by decide +kernel) fl_X10_29 rfl (shm_k hsm 53 (by decide) (by decide)) (v := 55) (shm_r hsm 53 5 (by decide) (by decide)) ?_
  refine go_iconst (show decode cX10_cellsFrom 12 = .ok (.iconst 0, 1) by decide +kernel) (by decide) ?_
  refine go_iaload (show decode cX10_cellsFrom 13 = .ok (.iaload, 1) by decide +kernel) (shm_k hsm 55 (by decide) (by decide)) (by decide) (lt_n (m := 2) (by decide) (shm_n hsm 55 (by decide) (by decide))) ?_
  obtain ⟨ht, hf⟩ := h
  refine go_icmpge (tgt := 90) (show decode cX10_cellsFrom 14 = .ok (.if_icmp .ge 76, 3) by decide +kernel) (by decide) (fun hc => ?_) (fun hc => ?_)
  · have h := ht hc
    refine go_lload (show decode cX10_cellsFrom 90 = .ok (.lload 8, 2) by decide +kernel) (by rfl) ?_
    exact go_lret (show decode cX10_cellsFrom 92 = .ok (.lreturn, 1) by decide +kernel) rfl h
  · have h := hf hc
    refine go_iconst (show decode cX10_cellsFrom 17 = .ok (.iconst 0, 1) by decide +kernel) (by decide) ?_
    refine go_istore (show decode cX10_cellsFrom 18 = .ok (.istore 11, 2) by decide +kernel) (by decide) ?_
    show Go d MX10_cellsFrom 20 [some (vR 53), some (vI a1), some (vI a2), some (vI a3), some (vI a4), some (vI a5), some (vJ a6), none, some (vJ a8), none, some (vI a10), some (vI 0)] [] S F G Q
    exact h
def V_X10_cellsFrom_0 (d : Nat) (S : AS) (F : AF) (G : AG) (Q : AQ) (a1 : Int) (a2 : Int) (a3 : Int) (a4 : Int) (a5 : Int) (a6 : Int) : Prop :=
  Go d MX10_cellsFrom 6 [some (vR 53), some (vI a1), some (vI a2), some (vI a3), some (vI a4), some (vI a5), some (vJ a6), none, some (vJ 0), none, some (vI 0), none] [] S F G Q
theorem R_X10_cellsFrom_0 {d : Nat} {S : AS} {F : AF} {G : AG} {Q : AQ} {a1 : Int} {a2 : Int} {a3 : Int} {a4 : Int} {a5 : Int} {a6 : Int} (hsm : ShM S) (h : V_X10_cellsFrom_0 d S F G Q a1 a2 a3 a4 a5 a6) : Go d MX10_cellsFrom 0 [some (vR 53), some (vI a1), some (vI a2), some (vI a3), some (vI a4), some (vI a5), some (vJ a6), none, none, none, none, none] [] S F G Q := by
  unfold V_X10_cellsFrom_0 at h
  refine go_lconst (n := 0) (show decode cX10_cellsFrom 0 = .ok (.lconst 0, 1) by decide +kernel) ?_
  show Go d MX10_cellsFrom 1 [some (vR 53), some (vI a1), some (vI a2), some (vI a3), some (vI a4), some (vI a5), some (vJ a6), none, none, none, none, none] [vJ 0] S F G Q
  refine go_lstore (show decode cX10_cellsFrom 1 = .ok (.lstore 8, 2) by decide +kernel) (by decide) ?_
  show Go d MX10_cellsFrom 3 [some (vR 53), some (vI a1), some (vI a2), some (vI a3), some (vI a4), some (vI a5), some (vJ a6), none, some (vJ 0), none, none, none] [] S F G Q
  refine go_iconst (show decode cX10_cellsFrom 3 = .ok (.iconst 0, 1) by decide +kernel) (by decide) ?_
  refine go_istore (show decode cX10_cellsFrom 4 = .ok (.istore 10, 2) by decide +kernel) (by decide) ?_
  show Go d MX10_cellsFrom 6 [some (vR 53), some (vI a1), some (vI a2), some (vI a3), some (vI a4), some (vI a5), some (vJ a6), none, some (vJ 0), none, some (vI 0), none] [] S F G Q
  exact h
def V_X10_value_135 (d : Nat) (S : AS) (F : AF) (G : AG) (Q : AQ) (a1 : Int) (a2 : Int) (a3 : Int) (a4 : Int) (a5 : Int) (a6 : Int) (a8 : Int) (a10 : Int) (a12 : Int) (a14 : Int) : Prop :=
  Go d MX10_value 77 [some (vR 53), some (vI a1), some (vI a2), some (vI a3), some (vI a4), some (vI a5), some (vJ a6), none, some (vJ a8), none, some (vJ a10), none, some (vJ a12), none, none, none] [] S F G Q
theorem R_X10_value_135 {d : Nat} {S : AS} {F : AF} {G : AG} {Q : AQ} {a1 : Int} {a2 : Int} {a3 : Int} {a4 : Int} {a5 : Int} {a6 : Int} {a8 : Int} {a10 : Int} {a12 : Int} {a14 : Int} (hsm : ShM S) (h : V_X10_value_135 d S F G Q a1 a2 a3 a4 a5 a6 a8 a10 a12 a14) : Go d MX10_value 135 [some (vR 53), some (vI a1), some (vI a2), some (vI a3), some (vI a4), some (vI a5), some (vJ a6), none, some (vJ a8), none, some (vJ a10), none, some (vJ a12), none, some (vJ a14), none] [] S F G Q := by
  unfold V_X10_value_135 at h
  refine go_goto (tgt := 77) (show decode cX10_value 135 = .ok (.goto (-58), 3) by decide +kernel) (by decide) ?_
  refine go_clr 14 ?_
  exact h
def V_X10_value_77 (d : Nat) (S : AS) (F : AF) (G : AG) (Q : AQ) (a1 : Int) (a2 : Int) (a3 : Int) (a4 : Int) (a5 : Int) (a6 : Int) (a8 : Int) (a10 : Int) (a12 : Int) : Prop :=
  ((a12 ≤ a10) →
    Q (some (vJ a10)) S F G) ∧
  ((¬ a12 ≤ a10) →
    (r64 (a10 + a12)) ∧
    (r64 ((a10 + a12) + 1)) ∧
    (r64 (Int.tdiv ((a10 + a12) + 1) 2)) ∧
    ∀ x4 : Int, x4 = Int.tdiv ((a10 + a12) + 1) 2 →
    (1 ≤ d) ∧
    ∃ z10 : Int, Pu (d - 1) MX10_cellsFrom [vR 53, vI a1, vI a2, vI a3, vI a4, vI a5, vJ x4] S F G (some (vJ z10)) ∧
    (r64 (a8 - a6)) ∧
    (r64 ((a8 - a6) + 1)) ∧
    ((z10 < (a8 - a6) + 1) →
      (r64 (x4 - 1)) ∧
      ∀ x15 : Int, x15 = x4 - 1 →
      V_X10_value_135 d S F G Q a1 a2 a3 a4 a5 a6 a8 a10 x15 x4) ∧
    ((¬ z10 < (a8 - a6) + 1) →
      V_X10_value_135 d S F G Q a1 a2 a3 a4 a5 a6 a8 x4 a12 x4))
theorem R_X10_value_77 {d : Nat} {S : AS} {F : AF} {G : AG} {Q : AQ} {a1 : Int} {a2 : Int} {a3 : Int} {a4 : Int} {a5 : Int} {a6 : Int} {a8 : Int} {a10 : Int} {a12 : Int} (hsm : ShM S) (h : V_X10_value_77 d S F G Q a1 a2 a3 a4 a5 a6 a8 a10 a12) : Go d MX10_value 77 [some (vR 53), some (vI a1), some (vI a2), some (vI a3), some (vI a4), some (vI a5), some (vJ a6), none, some (vJ a8), none, some (vJ a10), none, some (vJ a12), none, none, none] [] S F G Q := by
  unfold V_X10_value_77 at h
  refine go_lload (show decode cX10_value 77 = .ok (.lload 10, 2) by decide +kernel) (by rfl) ?_
  refine go_lload (show decode cX10_value 79 = .ok (.lload 12, 2) by decide +kernel) (by rfl) ?_
  obtain ⟨ht, hf⟩ := h
  refine go_jge (tgt := 138) (show decode cX10_value 81 = .ok (.lcmp, 1) by decide +kernel) (show decode cX10_value 82 = .ok (.ifCond .ge 56, 3) by decide +kernel) (by decide) (fun hc => ?_) (fun hc => ?_)
  · have h := ht hc
    refine go_lload (show decode cX10_value 138 = .ok (.lload 10, 2) by decide +kernel) (by rfl) ?_
    exact go_lret (show decode cX10_value 140 = .ok (.lreturn, 1) by decide +kernel) rfl h
  · have h := hf hc
    refine go_lload (show decode cX10_value 85 = .ok (.lload 10, 2) by decide +kernel) (by rfl) ?_
    refine go_lload (show decode cX10_value 87 = .ok (.lload 12, 2) by decide +kernel) (by rfl) ?_
    obtain ⟨q1, h⟩ := h
    refine go_ladd (show decode cX10_value 89 = .ok (.ladd, 1) by decide +kernel) q1 ?_
    refine go_lconst (n := 1) (show decode cX10_value 90 = .ok (.lconst 1, 1) by decide +kernel) ?_
    show Go d MX10_value 91 [some (vR 53), some (vI a1), some (vI a2), some (vI a3), some (vI a4), some (vI a5), some (vJ a6), none, some (vJ a8), none, some (vJ a10), none, some (vJ a12), none, none, none] [vJ 1, vJ (a10 + a12)] S F G Q
    obtain ⟨q2, h⟩ := h
    refine go_ladd (show decode cX10_value 91 = .ok (.ladd, 1) by decide +kernel) q2 ?_
    refine go_ldc2 (show decode cX10_value 92 = .ok (.ldc2_w 157, 3) by decide +kernel) lc_X10_157 (by decide) ?_
    obtain ⟨q3, h⟩ := h
    refine go_ldiv (show decode cX10_value 95 = .ok (.ldiv, 1) by decide +kernel) (by decide) q3 ?_
    obtain ⟨x4, x4e⟩ : ∃ x4 : Int, x4 = Int.tdiv ((a10 + a12) + 1) 2 := ⟨_, rfl⟩
    have h := h x4 x4e
    rw [← x4e]
    refine go_lstore (show decode cX10_value 96 = .ok (.lstore 14, 2) by decide +kernel) (by decide) ?_
    show Go d MX10_value 98 [some (vR 53), some (vI a1), some (vI a2), some (vI a3), some (vI a4), some (vI a5), some (vJ a6), none, some (vJ a8), none, some (vJ a10), none, some (vJ a12), none, some (vJ x4), none] [] S F G Q
    refine go_aload_n (show decode cX10_value 98 = .ok (.aload_n 0, 1) by decide +kernel) (by rfl) ?_
    refine go_iload_n (show decode cX10_value 99 = .ok (.iload_n 1, 1) by decide +kernel) (by rfl) ?_
    refine go_iload_n (show decode cX10_value 100 = .ok (.iload_n 2, 1) by decide +kernel) (by rfl) ?_
    refine go_iload_n (show decode cX10_value 101 = .ok (.iload_n 3, 1) by decide +kernel) (by rfl) ?_
    refine go_iload (show decode cX10_value 102 = .ok (.iload 4, 2) by decide +kernel) (by rfl) ?_
    refine go_iload (show decode cX10_value 104 = .ok (.iload 5, 2) by decide +kernel) (by rfl) ?_
    refine go_lload (show decode cX10_value 106 = .ok (.lload 14, 2) by decide +kernel) (by rfl) ?_
    obtain ⟨q5, h⟩ := h
    obtain ⟨z10, p11, h⟩ := h
    refine go_callV (d2 := d - 1) (M2 := MX10_cellsFrom) (n := 6) (ci := 10) (av := [vI a1, vI a2, vI a3, vI a4, vI a5, vJ x4]) (st := []) (show decode cX10_value 108 = .ok (.invokevirtual 412, 3) by decide +kernel) ml_X10_412 mt_X10_cellsFrom min_X10_cellsFrom mse_X10_cellsFrom (by decide) (shm_k hsm 53 (by decide) (by decide)) rfl (Nat.le_of_ble_eq_true rfl) (by omega) (ok_mono p11 (fun w6 S7 F8 G9 e9 => ?_))
    obtain ⟨e1, e2, e3, e4⟩ := e9
    subst e1
    replace e2 := e2.symm; subst e2
    replace e3 := e3.symm; subst e3
    replace e4 := e4.symm; subst e4
    show Go d MX10_value 111 [some (vR 53), some (vI a1), some (vI a2), some (vI a3), some (vI a4), some (vI a5), some (vJ a6), none, some (vJ a8), none, some (vJ a10), none, some (vJ a12), none, some (vJ x4), none] [vJ z10] S F G Q
    refine go_lload (show decode cX10_value 111 = .ok (.lload 8, 2) by decide +kernel) (by rfl) ?_
    refine go_lload (show decode cX10_value 113 = .ok (.lload 6, 2) by decide +kernel) (by rfl) ?_
    obtain ⟨q12, h⟩ := h
    refine go_lsub (show decode cX10_value 115 = .ok (.lsub, 1) by decide +kernel) q12 ?_
    refine go_lconst (n := 1) (show decode cX10_value 116 = .ok (.lconst 1, 1) by decide +kernel) ?_
    show Go d MX10_value 117 [some (vR 53), some (vI a1), some (vI a2), some (vI a3), some (vI a4), some (vI a5), some (vJ a6), none, some (vJ a8), none, some (vJ a10), none, some (vJ a12), none, some (vJ x4), none] [vJ 1, vJ (a8 - a6), vJ z10] S F G Q
    obtain ⟨q13, h⟩ := h
    refine go_ladd (show decode cX10_value 117 = .ok (.ladd, 1) by decide +kernel) q13 ?_
    obtain ⟨ht, hf⟩ := h
    refine go_jlt (tgt := 129) (show decode cX10_value 118 = .ok (.lcmp, 1) by decide +kernel) (show decode cX10_value 119 = .ok (.ifCond .lt 10, 3) by decide +kernel) (by decide) (fun hc => ?_) (fun hc => ?_)
    · have h := ht hc
      refine go_lload (show decode cX10_value 129 = .ok (.lload 14, 2) by decide +kernel) (by rfl) ?_
      refine go_lconst (n := 1) (show decode cX10_value 131 = .ok (.lconst 1, 1) by decide +kernel) ?_
      show Go d MX10_value 132 [some (vR 53), some (vI a1), some (vI a2), some (vI a3), some (vI a4), some (vI a5), some (vJ a6), none, some (vJ a8), none, some (vJ a10), none, some (vJ a12), none, some (vJ x4), none] [vJ 1, vJ x4] S F G Q
      obtain ⟨q14, h⟩ := h
      refine go_lsub (show decode cX10_value 132 = .ok (.lsub, 1) by decide +kernel) q14 ?_
      obtain ⟨x15, x15e⟩ : ∃ x15 : Int, x15 = x4 - 1 := ⟨_, rfl⟩
      have h := h x15 x15e
      rw [← x15e]
      refine go_lstore (show decode cX10_value 133 = .ok (.lstore 12, 2) by decide +kernel) (by decide) ?_
      show Go d MX10_value 135 [some (vR 53), some (vI a1), some (vI a2), some (vI a3), some (vI a4), some (vI a5), some (vJ a6), none, some (vJ a8), none, some (vJ a10), none, some (vJ x15), none, some (vJ x4), none] [] S F G Q
      exact R_X10_value_135 hsm h
    · have h := hf hc
      refine go_lload (show decode cX10_value 122 = .ok (.lload 14, 2) by decide +kernel) (by rfl) ?_
      refine go_lstore (show decode cX10_value 124 = .ok (.lstore 10, 2) by decide +kernel) (by decide) ?_
      show Go d MX10_value 126 [some (vR 53), some (vI a1), some (vI a2), some (vI a3), some (vI a4), some (vI a5), some (vJ a6), none, some (vJ a8), none, some (vJ x4), none, some (vJ a12), none, some (vJ x4), none] [] S F G Q
      refine go_goto (tgt := 135) (show decode cX10_value 126 = .ok (.goto 9, 3) by decide +kernel) (by decide) ?_
      exact R_X10_value_135 hsm h
def V_X10_value_0 (d : Nat) (S : AS) (F : AF) (G : AG) (Q : AQ) (a1 : Int) (a2 : Int) (a3 : Int) (a4 : Int) (a5 : Int) (a6 : Int) : Prop :=
  ∀ F1 : AF, F1 = fu F 53 0 0 →
  (1 ≤ d) ∧
  ∃ z7 : Int, Pu (d - 1) MX10_isGoodOrAll [vI a1] S F1 G (some (vI z7)) ∧
  ((z7 = 0) →
    Q (some (vJ (-2))) S F1 G) ∧
  ((¬ z7 = 0) →
    ∃ z13 : Int, Pu (d - 1) MX10_isRectangle [vR 53, vI a2, vI a3, vI a4, vI a5] S F1 G (some (vI z13)) ∧
    ((¬ z13 = 0) →
      ((1 ≤ a6) →
        (r32 (a4 - a2)) ∧
        (r64 ((a4 - a2) + 1)) ∧
        (r32 (a5 - a3)) ∧
        (r64 ((a5 - a3) + 1)) ∧
        (r64 (((a4 - a2) + 1) * ((a5 - a3) + 1))) ∧
        ∀ x20 : Int, x20 = ((a4 - a2) + 1) * ((a5 - a3) + 1) →
        ((a6 ≤ x20) →
          Go d MX10_value 77 [some (vR 53), some (vI a1), some (vI a2), some (vI a3), some (vI a4), some (vI a5), some (vJ a6), none, some (vJ x20), none, some (vJ 0), none, some (vJ 3000000000000), none, none, none] [] S F1 G Q) ∧
        ((¬ a6 ≤ x20) →
          Q (some (vJ (-1))) S F1 G)) ∧
      ((¬ 1 ≤ a6) →
        Q (some (vJ (-3))) S F1 G)) ∧
    ((z13 = 0) →
      Q (some (vJ (-2))) S F1 G))
theorem R_X10_value_0 {d : Nat} {S : AS} {F : AF} {G : AG} {Q : AQ} {a1 : Int} {a2 : Int} {a3 : Int} {a4 : Int} {a5 : Int} {a6 : Int} (hsm : ShM S) (h : V_X10_value_0 d S F G Q a1 a2 a3 a4 a5 a6) : Go d MX10_value 0 [some (vR 53), some (vI a1), some (vI a2), some (vI a3), some (vI a4), some (vI a5), some (vJ a6), none, none, none, none, none, none, none, none, none] [] S F G Q := by
  unfold V_X10_value_0 at h
  refine go_aload_n (show decode cX10_value 0 = .ok (.aload_n 0, 1) by decide +kernel) (by rfl) ?_
  refine go_iconst (show decode cX10_value 1 = .ok (.iconst 0, 1) by decide +kernel) (by decide) ?_
  refine go_putI (show decode cX10_value 2 = .ok (.putfield 1, 3) by decide +kernel) fl_X10_1 rfl (Or.inl rfl) (shm_k hsm 53 (by decide) (by decide)) ?_
  obtain ⟨F1, F1e⟩ : ∃ F1 : AF, F1 = fu F 53 0 0 := ⟨_, rfl⟩
  have h := h F1 F1e
  rw [← F1e]
  refine go_iload_n (show decode cX10_value 5 = .ok (.iload_n 1, 1) by decide +kernel) (by rfl) ?_
  obtain ⟨q2, h⟩ := h
  obtain ⟨z7, p8, h⟩ := h
  refine go_callS (d2 := d - 1) (M2 := MX10_isGoodOrAll) (n := 1) (av := [vI a1]) (st := []) (show decode cX10_value 6 = .ok (.invokestatic 403, 3) by decide +kernel) ml_X10_403 mt_X10_isGoodOrAll mst_X10_isGoodOrAll rfl (Nat.le_of_ble_eq_true rfl) (by omega) (ok_mono p8 (fun w3 S4 F5 G6 e9 => ?_))
  obtain ⟨e1, e2, e3, e4⟩ := e9
  subst e1
  replace e2 := e2.symm; subst e2
  replace e3 := e3.symm; subst e3
  replace e4 := e4.symm; subst e4
  show Go d MX10_value 9 [some (vR 53), some (vI a1), some (vI a2), some (vI a3), some (vI a4), some (vI a5), some (vJ a6), none, none, none, none, none, none, none, none, none] [vI z7] S F1 G Q
  obtain ⟨ht, hf⟩ := h
  refine go_ifeq (tgt := 25) (show decode cX10_value 9 = .ok (.ifCond .eq 16, 3) by decide +kernel) (by decide) (fun hc => ?_) (fun hc => ?_)
  · have h := ht hc
    refine go_ldc2 (show decode cX10_value 25 = .ok (.ldc2_w 174, 3) by decide +kernel) lc_X10_174 (by decide) ?_
    exact go_lret (show decode cX10_value 28 = .ok (.lreturn, 1) by decide +kernel) rfl h
  · have h := hf hc
    refine go_aload_n (show decode cX10_value 12 = .ok (.aload_n 0, 1) by decide +kernel) (by rfl) ?_
    refine go_iload_n (show decode cX10_value 13 = .ok (.iload_n 2, 1) by decide +kernel) (by rfl) ?_
    refine go_iload_n (show decode cX10_value 14 = .ok (.iload_n 3, 1) by decide +kernel) (by rfl) ?_
    refine go_iload (show decode cX10_value 15 = .ok (.iload 4, 2) by decide +kernel) (by rfl) ?_
    refine go_iload (show decode cX10_value 17 = .ok (.iload 5, 2) by decide +kernel) (by rfl) ?_
    obtain ⟨z13, p14, h⟩ := h
    refine go_callV (d2 := d - 1) (M2 := MX10_isRectangle) (n := 4) (ci := 10) (av := [vI a2, vI a3, vI a4, vI a5]) (st := []) (show decode cX10_value 19 = .ok (.invokevirtual 170, 3) by decide +kernel) ml_X10_170 mt_X10_isRectangle min_X10_isRectangle mse_X10_isRectangle (by decide) (shm_k hsm 53 (by decide) (by decide)) rfl (Nat.le_of_ble_eq_true rfl) (by omega) (ok_mono p14 (fun w9 S10 F11 G12 e9 => ?_))
    obtain ⟨e1, e2, e3, e4⟩ := e9
    subst e1
    replace e2 := e2.symm; subst e2
    replace e3 := e3.symm; subst e3
    replace e4 := e4.symm; subst e4
    show Go d MX10_value 22 [some (vR 53), some (vI a1), some (vI a2), some (vI a3), some (vI a4), some (vI a5), some (vJ a6), none, none, none, none, none, none, none, none, none] [vI z13] S F1 G Q
    obtain ⟨ht, hf⟩ := h
    refine go_ifne (tgt := 29) (show decode cX10_value 22 = .ok (.ifCond .ne 7, 3) by decide +kernel) (by decide) (fun hc => ?_) (fun hc => ?_)
    · have h := ht hc
      refine go_lload (show decode cX10_value 29 = .ok (.lload 6, 2) by decide +kernel) (by rfl) ?_
      refine go_lconst (n := 1) (show decode cX10_value 31 = .ok (.lconst 1, 1) by decide +kernel) ?_
      show Go d MX10_value 32 [some (vR 53), some (vI a1), some (vI a2), some (vI a3), some (vI a4), some (vI a5), some (vJ a6), none, none, none, none, none, none, none, none, none] [vJ 1, vJ a6] S F1 G Q
      obtain ⟨ht, hf⟩ := h
      refine go_jge (tgt := 40) (show decode cX10_value 32 = .ok (.lcmp, 1) by decide +kernel) (show decode cX10_value 33 = .ok (.ifCond .ge 7, 3) by decide +kernel) (by decide) (fun hc => ?_) (fun hc => ?_)
      · have h := ht hc
        refine go_iload (show decode cX10_value 40 = .ok (.iload 4, 2) by decide +kernel) (by rfl) ?_
        refine go_iload_n (show decode cX10_value 42 = .ok (.iload_n 2, 1) by decide +kernel) (by rfl) ?_
        obtain ⟨q15, h⟩ := h
        refine go_isub (show decode cX10_value 43 = .ok (.isub, 1) by decide +kernel) q15 ?_
        refine go_i2l (show decode cX10_value 44 = .ok (.i2l, 1) by decide +kernel) ?_
        refine go_lconst (n := 1) (show decode cX10_value 45 = .ok (.lconst 1, 1) by decide +kernel) ?_
        show Go d MX10_value 46 [some (vR 53), some (vI a1), some (vI a2), some (vI a3), some (vI a4), some (vI a5), some (vJ a6), none, none, none, none, none, none, none, none, none] [vJ 1, vJ (a4 - a2)] S F1 G Q
        obtain ⟨q16, h⟩ := h
        refine go_ladd (show decode cX10_value 46 = .ok (.ladd, 1) by decide +kernel) q16 ?_
        refine go_iload (show decode cX10_value 47 = .ok (.iload 5, 2) by decide +kernel) (by rfl) ?_
        refine go_iload_n (show decode cX10_value 49 = .ok (.iload_n 3, 1) by decide +kernel) (by rfl) ?_
        obtain ⟨q17, h⟩ := h
        refine go_isub (show decode cX10_value 50 = .ok (.isub, 1) by decide +kernel) q17 ?_
        refine go_i2l (show decode cX10_value 51 = .ok (.i2l, 1) by decide +kernel) ?_
        refine go_lconst (n := 1) (show decode cX10_value 52 = .ok (.lconst 1, 1) by decide +kernel) ?_
        show Go d MX10_value 53 [some (vR 53), some (vI a1), some (vI a2), some (vI a3), some (vI a4), some (vI a5), some (vJ a6), none, none, none, none, none, none, none, none, none] [vJ 1, vJ (a5 - a3), vJ ((a4 - a2) + 1)] S F1 G Q
        obtain ⟨q18, h⟩ := h
        refine go_ladd (show decode cX10_value 53 = .ok (.ladd, 1) by decide +kernel) q18 ?_
        obtain ⟨q19, h⟩ := h
        refine go_lmul (show decode cX10_value 54 = .ok (.lmul, 1) by decide +kernel) q19 ?_
        obtain ⟨x20, x20e⟩ : ∃ x20 : Int, x20 = ((a4 - a2) + 1) * ((a5 - a3) + 1) := ⟨_, rfl⟩
        have h := h x20 x20e
        rw [← x20e]
        refine go_lstore (show decode cX10_value 55 = .ok (.lstore 8, 2) by decide +kernel) (by decide) ?_
        show Go d MX10_value 57 [some (vR 53), some (vI a1), some (vI a2), some (vI a3), some (vI a4), some (vI a5), some (vJ a6), none, some (vJ x20), none, none, none, none, none, none, none] [] S F1 G Q
        refine go_lload (show decode cX10_value 57 = .ok (.lload 6, 2) by decide +kernel) (by rfl) ?_
        refine go_lload (show decode cX10_value 59 = .ok (.lload 8, 2) by decide +kernel) (by rfl) ?_
        obtain ⟨ht, hf⟩ := h
        refine go_jle (tgt := 69) (show decode cX10_value 61 = .ok (.lcmp, 1) by decide +kernel) (show decode cX10_value 62 = .ok (.ifCond .le 7, 3) by decide +kernel) (by decide) (fun hc => ?_) (fun hc => ?_)
        · have h := ht hc
          refine go_lconst (n := 0) (show decode cX10_value 69 = .ok (.lconst 0, 1) by decide +kernel) ?_
          show Go d MX10_value 70 [some (vR 53), some (vI a1), some (vI a2), some (vI a3), some (vI a4), some (vI a5), some (vJ a6), none, some (vJ x20), none, none, none, none, none, none, none] [vJ 0] S F1 G Q
          refine go_lstore (show decode cX10_value 70 = .ok (.lstore 10, 2) by decide +kernel) (by decide) ?_
          show Go d MX10_value 72 [some (vR 53), some (vI a1), some (vI a2), some (vI a3), some (vI a4), some (vI a5), some (vJ a6), none, some (vJ x20), none, some (vJ 0), none, none, none, none, none] [] S F1 G Q
          refine go_ldc2 (show decode cX10_value 72 = .ok (.ldc2_w 415, 3) by decide +kernel) lc_X10_415 (by decide) ?_
          refine go_lstore (show decode cX10_value 75 = .ok (.lstore 12, 2) by decide +kernel) (by decide) ?_
          show Go d MX10_value 77 [some (vR 53), some (vI a1), some (vI a2), some (vI a3), some (vI a4), some (vI a5), some (vJ a6), none, some (vJ x20), none, some (vJ 0), none, some (vJ 3000000000000), none, none, none] [] S F1 G Q
          exact h
        · have h := hf hc
          refine go_ldc2 (show decode cX10_value 65 = .ok (.ldc2_w 311, 3) by decide +kernel) lc_X10_311 (by decide) ?_
          exact go_lret (show decode cX10_value 68 = .ok (.lreturn, 1) by decide +kernel) rfl h
      · have h := hf hc
        refine go_ldc2 (show decode cX10_value 36 = .ok (.ldc2_w 120, 3) by decide +kernel) lc_X10_120 (by decide) ?_
        exact go_lret (show decode cX10_value 39 = .ok (.lreturn, 1) by decide +kernel) rfl h
    · have h := hf hc
      refine go_ldc2 (show decode cX10_value 25 = .ok (.ldc2_w 174, 3) by decide +kernel) lc_X10_174 (by decide) ?_
      exact go_lret (show decode cX10_value 28 = .ok (.lreturn, 1) by decide +kernel) rfl h
def V_X10_hole_176 (d : Nat) (S : AS) (F : AF) (G : AG) (Q : AQ) (a1 : Int) (a2 : Int) (a3 : Int) (a4 : Int) (a5 : Int) : Prop :=
  (r32 (a5 + 1)) ∧
  Go d MX10_hole 136 [some (vR 53), some (vI a1), some (vI a2), some (vI a3), some (vI a4), some (vI (a5 + 1))] [] S F G Q
theorem R_X10_hole_176 {d : Nat} {S : AS} {F : AF} {G : AG} {Q : AQ} {a1 : Int} {a2 : Int} {a3 : Int} {a4 : Int} {a5 : Int} (hsm : ShM S) (h : V_X10_hole_176 d S F G Q a1 a2 a3 a4 a5) : Go d MX10_hole 176 [some (vR 53), some (vI a1), some (vI a2), some (vI a3), some (vI a4), some (vI a5)] [] S F G Q := by
  unfold V_X10_hole_176 at h
  obtain ⟨q1, h⟩ := h
  refine go_iinc (show decode cX10_hole 176 = .ok (.iinc 5 1, 3) by decide +kernel) (by rfl) q1 (by decide) ?_
  show Go d MX10_hole 179 [some (vR 53), some (vI a1), some (vI a2), some (vI a3), some (vI a4), some (vI (a5 + 1))] [] S F G Q
  refine go_goto (tgt := 136) (show decode cX10_hole 179 = .ok (.goto (-43), 3) by decide +kernel) (by decide) ?_
  exact h
def V_X10_hole_136 (d : Nat) (S : AS) (F : AF) (G : AG) (Q : AQ) (a1 : Int) (a2 : Int) (a3 : Int) (a4 : Int) (a5 : Int) : Prop :=
  ((G 55 0 ≤ a5) →
    (r32 (a3 + 1)) ∧
    Go d MX10_hole 65 [some (vR 53), some (vI a1), some (vI a2), some (vI (a3 + 1)), none, none] [] S F G Q) ∧
  ((¬ G 55 0 ≤ a5) →
    ((0 : Int) ≤ a5) ∧
    ((a5 : Int) < 48) ∧
    ((¬ G 74 a5 = 0) →
      (1 ≤ d) ∧
      Ok (d - 1) MX10_tries [vR 53, vI a4, vI a2, vI a5, vI a3] S F G (fun w5 S6 F7 G8 =>
      S6 = S ∧
      w5 = none ∧
      V_X10_hole_176 d S F7 G8 Q a1 a2 a3 a4 a5)) ∧
    ((G 74 a5 = 0) →
      (r32 (a5 + 1)) ∧
      ∀ x10 : Int, x10 = a5 + 1 →
      V_X10_hole_176 d S F G Q a1 a2 a3 x10 a5))
theorem R_X10_hole_136 {d : Nat} {S : AS} {F : AF} {G : AG} {Q : AQ} {a1 : Int} {a2 : Int} {a3 : Int} {a4 : Int} {a5 : Int} (hsm : ShM S) (h : V_X10_hole_136 d S F G Q a1 a2 a3 a4 a5) : Go d MX10_hole 136 [some (vR 53), some (vI a1), some (vI a2), some (vI a3), some (vI a4), some (vI a5)] [] S F G Q := by
  unfold V_X10_hole_136 at h
  refine go_iload (show decode cX10_hole 136 = .ok (.iload 5, 2) by decide +kernel) (by rfl) ?_
  refine go_aload_n (show decode cX10_hole 138 = .ok (.aload_n 0, 1) by decide +kernel) (by rfl) ?_
  refine go_getRc (show decode cX10_hole 139 = .ok (.getfield 29, 3) by decide +kernel) fl_X10_29 rfl (shm_k hsm 53 (by decide) (by decide)) (v := 55) (shm_r hsm 53 5 (by decide) (by decide)) ?_
  refine go_iconst (show decode cX10_hole 142 = .ok (.iconst 0, 1) by decide +kernel) (by decide) ?_
  refine go_iaload (show decode cX10_hole 143 = .ok (.iaload, 1) by decide +kernel) (shm_k hsm 55 (by decide) (by decide)) (by decide) (lt_n (m := 2) (by decide) (shm_n hsm 55 (by decide) (by decide))) ?_
  obtain ⟨ht, hf⟩ := h
  refine go_icmpge (tgt := 182) (show decode cX10_hole 144 = .ok (.if_icmp .ge 38, 3) by decide +kernel) (by decide) (fun hc => ?_) (fun hc => ?_)
  · have h := ht hc
    obtain ⟨q1, h⟩ := h
    refine go_iinc (show decode cX10_hole 182 = .ok (.iinc 3 1, 3) by decide +kernel) (by rfl) q1 (by decide) ?_
    show Go d MX10_hole 185 [some (vR 53), some (vI a1), some (vI a2), some (vI (a3 + 1)), some (vI a4), some (vI a5)] [] S F G Q
    refine go_goto (tgt := 65) (show decode cX10_hole 185 = .ok (.goto (-120), 3) by decide +kernel) (by decide) ?_
    refine go_clr 4 ?_
    refine go_clr 5 ?_
    exact h
  · have h := hf hc
    refine go_aload_n (show decode cX10_hole 147 = .ok (.aload_n 0, 1) by decide +kernel) (by rfl) ?_
    refine go_getRc (show decode cX10_hole 148 = .ok (.getfield 93, 3) by decide +kernel) fl_X10_93 rfl (shm_k hsm 53 (by decide) (by decide)) (v := 74) (shm_r hsm 53 47 (by decide) (by decide)) ?_
    refine go_iload (show decode cX10_hole 151 = .ok (.iload 5, 2) by decide +kernel) (by rfl) ?_
    obtain ⟨q2, h⟩ := h
    obtain ⟨q3, h⟩ := h
    refine go_zaload (show decode cX10_hole 153 = .ok (.baload, 1) by decide +kernel) (shm_k hsm 74 (by decide) (by decide)) q2 (lt_n (m := 48) q3 (shm_n hsm 74 (by decide) (by decide))) ?_
    obtain ⟨ht, hf⟩ := h
    refine go_ifne (tgt := 166) (show decode cX10_hole 154 = .ok (.ifCond .ne 12, 3) by decide +kernel) (by decide) (fun hc => ?_) (fun hc => ?_)
    · have h := ht hc
      refine go_aload_n (show decode cX10_hole 166 = .ok (.aload_n 0, 1) by decide +kernel) (by rfl) ?_
      refine go_iload (show decode cX10_hole 167 = .ok (.iload 4, 2) by decide +kernel) (by rfl) ?_
      refine go_iload_n (show decode cX10_hole 169 = .ok (.iload_n 2, 1) by decide +kernel) (by rfl) ?_
      refine go_iload (show decode cX10_hole 170 = .ok (.iload 5, 2) by decide +kernel) (by rfl) ?_
      refine go_iload_n (show decode cX10_hole 172 = .ok (.iload_n 3, 1) by decide +kernel) (by rfl) ?_
      obtain ⟨q4, h⟩ := h
      refine go_callV (d2 := d - 1) (M2 := MX10_tries) (n := 4) (ci := 10) (av := [vI a4, vI a2, vI a5, vI a3]) (st := []) (show decode cX10_hole 173 = .ok (.invokevirtual 434, 3) by decide +kernel) ml_X10_434 mt_X10_tries min_X10_tries mse_X10_tries (by decide) (shm_k hsm 53 (by decide) (by decide)) rfl (Nat.le_of_ble_eq_true rfl) (by omega) (ok_mono h (fun w5 S6 F7 G8 h => ?_))
      obtain ⟨e8, h⟩ := h
      replace e8 := e8.symm; subst e8
      obtain ⟨e9, h⟩ := h
      subst e9
      show Go d MX10_hole 176 [some (vR 53), some (vI a1), some (vI a2), some (vI a3), some (vI a4), some (vI a5)] [] S F7 G8 Q
      exact R_X10_hole_176 hsm h
    · have h := hf hc
      refine go_iload (show decode cX10_hole 157 = .ok (.iload 5, 2) by decide +kernel) (by rfl) ?_
      refine go_iconst (show decode cX10_hole 159 = .ok (.iconst 1, 1) by decide +kernel) (by decide) ?_
      obtain ⟨q9, h⟩ := h
      refine go_iadd (show decode cX10_hole 160 = .ok (.iadd, 1) by decide +kernel) q9 ?_
      obtain ⟨x10, x10e⟩ : ∃ x10 : Int, x10 = a5 + 1 := ⟨_, rfl⟩
      have h := h x10 x10e
      rw [← x10e]
      refine go_istore (show decode cX10_hole 161 = .ok (.istore 4, 2) by decide +kernel) (by decide) ?_
      show Go d MX10_hole 163 [some (vR 53), some (vI a1), some (vI a2), some (vI a3), some (vI x10), some (vI a5)] [] S F G Q
      refine go_goto (tgt := 176) (show decode cX10_hole 163 = .ok (.goto 13, 3) by decide +kernel) (by decide) ?_
      exact R_X10_hole_176 hsm h
def V_X10_hole_123 (d : Nat) (S : AS) (F : AF) (G : AG) (Q : AQ) (a1 : Int) (a2 : Int) (a3 : Int) (a4 : Int) (s0 : Int) (s1 : Int) (s2 : Nat) : Prop :=
  ((0 : Int) ≤ s1) ∧
  ((s1 : Int) < (sN S s2 : Int)) ∧
  (s0 = 0 ∨ s0 = 1) ∧
  ∀ G4 : AG, G4 = gu G s2 s1 s0 →
  (r32 (a4 + 1)) ∧
  Go d MX10_hole 78 [some (vR 53), some (vI a1), some (vI a2), some (vI a3), some (vI (a4 + 1)), none] [] S F G4 Q
theorem R_X10_hole_123 {d : Nat} {S : AS} {F : AF} {G : AG} {Q : AQ} {a1 : Int} {a2 : Int} {a3 : Int} {a4 : Int} {s0 : Int} {s1 : Int} {s2 : Nat} (hsm : ShM S) (hs2 : AtZ S s2) (h : V_X10_hole_123 d S F G Q a1 a2 a3 a4 s0 s1 s2) : Go d MX10_hole 123 [some (vR 53), some (vI a1), some (vI a2), some (vI a3), some (vI a4), none] [vI s0, vI s1, vR s2] S F G Q := by
  unfold V_X10_hole_123 at h
  obtain ⟨q1, h⟩ := h
  obtain ⟨q2, h⟩ := h
  obtain ⟨q3, h⟩ := h
  refine go_zastore (show decode cX10_hole 123 = .ok (.bastore, 1) by decide +kernel) hs2 q1 q2 q3 ?_
  obtain ⟨G4, G4e⟩ : ∃ G4 : AG, G4 = gu G s2 s1 s0 := ⟨_, rfl⟩
  have h := h G4 G4e
  rw [← G4e]
  obtain ⟨q5, h⟩ := h
  refine go_iinc (show decode cX10_hole 124 = .ok (.iinc 4 1, 3) by decide +kernel) (by rfl) q5 (by decide) ?_
  show Go d MX10_hole 127 [some (vR 53), some (vI a1), some (vI a2), some (vI a3), some (vI (a4 + 1)), none] [] S F G4 Q
  refine go_goto (tgt := 78) (show decode cX10_hole 127 = .ok (.goto (-49), 3) by decide +kernel) (by decide) ?_
  exact h
def V_X10_hole_122 (d : Nat) (S : AS) (F : AF) (G : AG) (Q : AQ) (a1 : Int) (a2 : Int) (a3 : Int) (a4 : Int) (s0 : Int) (s1 : Nat) : Prop :=
  V_X10_hole_123 d S F G Q a1 a2 a3 a4 0 s0 s1
theorem R_X10_hole_122 {d : Nat} {S : AS} {F : AF} {G : AG} {Q : AQ} {a1 : Int} {a2 : Int} {a3 : Int} {a4 : Int} {s0 : Int} {s1 : Nat} (hsm : ShM S) (hs1 : AtZ S s1) (h : V_X10_hole_122 d S F G Q a1 a2 a3 a4 s0 s1) : Go d MX10_hole 122 [some (vR 53), some (vI a1), some (vI a2), some (vI a3), some (vI a4), none] [vI s0, vR s1] S F G Q := by
  unfold V_X10_hole_122 at h
  refine go_iconst (show decode cX10_hole 122 = .ok (.iconst 0, 1) by decide +kernel) (by decide) ?_
  exact R_X10_hole_123 hsm hs1 h
def V_X10_hole_78 (d : Nat) (S : AS) (F : AF) (G : AG) (Q : AQ) (a1 : Int) (a2 : Int) (a3 : Int) (a4 : Int) : Prop :=
  ((G 55 0 ≤ a4) →
    Go d MX10_hole 136 [some (vR 53), some (vI a1), some (vI a2), some (vI a3), some (vI 0), some (vI 0)] [] S F G Q) ∧
  ((¬ G 55 0 ≤ a4) →
    ((0 : Int) ≤ a4) ∧
    ((a4 : Int) < 48) ∧
    ((G 74 a4 = 0) →
      V_X10_hole_122 d S F G Q a1 a2 a3 a4 a4 74) ∧
    ((¬ G 74 a4 = 0) →
      (1 ≤ d) ∧
      ∃ z8 : Int, Pu (d - 1) MX10_in [vR 53, vI (-1), vI a4, vI a3] S F G (some (vJ z8)) ∧
      ((¬ z8 = 0) →
        V_X10_hole_122 d S F G Q a1 a2 a3 a4 a4 74) ∧
      ((z8 = 0) →
        V_X10_hole_123 d S F G Q a1 a2 a3 a4 1 a4 74)))
theorem R_X10_hole_78 {d : Nat} {S : AS} {F : AF} {G : AG} {Q : AQ} {a1 : Int} {a2 : Int} {a3 : Int} {a4 : Int} (hsm : ShM S) (h : V_X10_hole_78 d S F G Q a1 a2 a3 a4) : Go d MX10_hole 78 [some (vR 53), some (vI a1), some (vI a2), some (vI a3), some (vI a4), none] [] S F G Q := by
  unfold V_X10_hole_78 at h
  refine go_iload (show decode cX10_hole 78 = .ok (.iload 4, 2) by decide +kernel) (by rfl) ?_
  refine go_aload_n (show decode cX10_hole 80 = .ok (.aload_n 0, 1) by decide +kernel) (by rfl) ?_
  refine go_getRc (show decode cX10_hole 81 = .ok (.getfield 29, 3) by decide +kernel) fl_X10_29 rfl (shm_k hsm 53 (by decide) (by decide)) (v := 55) (shm_r hsm 53 5 (by decide) (by decide)) ?_
  refine go_iconst (show decode cX10_hole 84 = .ok (.iconst 0, 1) by decide +kernel) (by decide) ?_
  refine go_iaload (show decode cX10_hole 85 = .ok (.iaload, 1) by decide +kernel) (shm_k hsm 55 (by decide) (by decide)) (by decide) (lt_n (m := 2) (by decide) (shm_n hsm 55 (by decide) (by decide))) ?_
  obtain ⟨ht, hf⟩ := h
  refine go_icmpge (tgt := 130) (show decode cX10_hole 86 = .ok (.if_icmp .ge 44, 3) by decide +kernel) (by decide) (fun hc => ?_) (fun hc => ?_)
  · have h := ht hc
    refine go_iconst (show decode cX10_hole 130 = .ok (.iconst 0, 1) by decide +kernel) (by decide) ?_
    refine go_istore (show decode cX10_hole 131 = .ok (.istore 4, 2) by decide +kernel) (by decide) ?_
    show Go d MX10_hole 133 [some (vR 53), some (vI a1), some (vI a2), some (vI a3), some (vI 0), none] [] S F G Q
    refine go_iconst (show decode cX10_hole 133 = .ok (.iconst 0, 1) by decide +kernel) (by decide) ?_
    refine go_istore (show decode cX10_hole 134 = .ok (.istore 5, 2) by decide +kernel) (by decide) ?_
    show Go d MX10_hole 136 [some (vR 53), some (vI a1), some (vI a2), some (vI a3), some (vI 0), some (vI 0)] [] S F G Q
    exact h
  · have h := hf hc
    refine go_aload_n (show decode cX10_hole 89 = .ok (.aload_n 0, 1) by decide +kernel) (by rfl) ?_
    refine go_getRc (show decode cX10_hole 90 = .ok (.getfield 93, 3) by decide +kernel) fl_X10_93 rfl (shm_k hsm 53 (by decide) (by decide)) (v := 74) (shm_r hsm 53 47 (by decide) (by decide)) ?_
    refine go_iload (show decode cX10_hole 93 = .ok (.iload 4, 2) by decide +kernel) (by rfl) ?_
    refine go_aload_n (show decode cX10_hole 95 = .ok (.aload_n 0, 1) by decide +kernel) (by rfl) ?_
    refine go_getRc (show decode cX10_hole 96 = .ok (.getfield 93, 3) by decide +kernel) fl_X10_93 rfl (shm_k hsm 53 (by decide) (by decide)) (v := 74) (shm_r hsm 53 47 (by decide) (by decide)) ?_
    refine go_iload (show decode cX10_hole 99 = .ok (.iload 4, 2) by decide +kernel) (by rfl) ?_
    obtain ⟨q1, h⟩ := h
    obtain ⟨q2, h⟩ := h
    refine go_zaload (show decode cX10_hole 101 = .ok (.baload, 1) by decide +kernel) (shm_k hsm 74 (by decide) (by decide)) q1 (lt_n (m := 48) q2 (shm_n hsm 74 (by decide) (by decide))) ?_
    obtain ⟨ht, hf⟩ := h
    refine go_ifeq (tgt := 122) (show decode cX10_hole 102 = .ok (.ifCond .eq 20, 3) by decide +kernel) (by decide) (fun hc => ?_) (fun hc => ?_)
    · have h := ht hc
      exact R_X10_hole_122 hsm (at_74 hsm) h
    · have h := hf hc
      refine go_aload_n (show decode cX10_hole 105 = .ok (.aload_n 0, 1) by decide +kernel) (by rfl) ?_
      refine go_iconst (show decode cX10_hole 106 = .ok (.iconst (-1), 1) by decide +kernel) (by decide) ?_
      refine go_iload (show decode cX10_hole 107 = .ok (.iload 4, 2) by decide +kernel) (by rfl) ?_
      refine go_iload_n (show decode cX10_hole 109 = .ok (.iload_n 3, 1) by decide +kernel) (by rfl) ?_
      obtain ⟨q3, h⟩ := h
      obtain ⟨z8, p9, h⟩ := h
      refine go_callV (d2 := d - 1) (M2 := MX10_in) (n := 3) (ci := 10) (av := [vI (-1), vI a4, vI a3]) (st := [vI a4, vR 74]) (show decode cX10_hole 110 = .ok (.invokevirtual 163, 3) by decide +kernel) ml_X10_163 mt_X10_in min_X10_in mse_X10_in (by decide) (shm_k hsm 53 (by decide) (by decide)) rfl (Nat.le_of_ble_eq_true rfl) (by omega) (ok_mono p9 (fun w4 S5 F6 G7 e9 => ?_))
      obtain ⟨e1, e2, e3, e4⟩ := e9
      subst e1
      replace e2 := e2.symm; subst e2
      replace e3 := e3.symm; subst e3
      replace e4 := e4.symm; subst e4
      show Go d MX10_hole 113 [some (vR 53), some (vI a1), some (vI a2), some (vI a3), some (vI a4), none] [vJ z8, vI a4, vR 74] S F G Q
      refine go_lconst (n := 0) (show decode cX10_hole 113 = .ok (.lconst 0, 1) by decide +kernel) ?_
      show Go d MX10_hole 114 [some (vR 53), some (vI a1), some (vI a2), some (vI a3), some (vI a4), none] [vJ 0, vJ z8, vI a4, vR 74] S F G Q
      obtain ⟨ht, hf⟩ := h
      refine go_jne (tgt := 122) (show decode cX10_hole 114 = .ok (.lcmp, 1) by decide +kernel) (show decode cX10_hole 115 = .ok (.ifCond .ne 7, 3) by decide +kernel) (by decide) (fun hc => ?_) (fun hc => ?_)
      · have h := ht hc
        exact R_X10_hole_122 hsm (at_74 hsm) h
      · have h := hf hc
        refine go_iconst (show decode cX10_hole 118 = .ok (.iconst 1, 1) by decide +kernel) (by decide) ?_
        refine go_goto (tgt := 123) (show decode cX10_hole 119 = .ok (.goto 4, 3) by decide +kernel) (by decide) ?_
        exact R_X10_hole_123 hsm (at_74 hsm) h
def V_X10_hole_65 (d : Nat) (S : AS) (F : AF) (G : AG) (Q : AQ) (a1 : Int) (a2 : Int) (a3 : Int) : Prop :=
  ((G 55 1 ≤ a3) →
    (r32 (a2 + 1)) ∧
    Go d MX10_hole 28 [some (vR 53), some (vI a1), some (vI (a2 + 1)), none, none, none] [] S F G Q) ∧
  ((¬ G 55 1 ≤ a3) →
    Go d MX10_hole 78 [some (vR 53), some (vI a1), some (vI a2), some (vI a3), some (vI 0), none] [] S F G Q)
theorem R_X10_hole_65 {d : Nat} {S : AS} {F : AF} {G : AG} {Q : AQ} {a1 : Int} {a2 : Int} {a3 : Int} (hsm : ShM S) (h : V_X10_hole_65 d S F G Q a1 a2 a3) : Go d MX10_hole 65 [some (vR 53), some (vI a1), some (vI a2), some (vI a3), none, none] [] S F G Q := by
  unfold V_X10_hole_65 at h
  refine go_iload_n (show decode cX10_hole 65 = .ok (.iload_n 3, 1) by decide +kernel) (by rfl) ?_
  refine go_aload_n (show decode cX10_hole 66 = .ok (.aload_n 0, 1) by decide +kernel) (by rfl) ?_
  refine go_getRc (show decode cX10_hole 67 = .ok (.getfield 29, 3) by decide +kernel) fl_X10_29 rfl (shm_k hsm 53 (by decide) (by decide)) (v := 55) (shm_r hsm 53 5 (by decide) (by decide)) ?_
  refine go_iconst (show decode cX10_hole 70 = .ok (.iconst 1, 1) by decide +kernel) (by decide) ?_
  refine go_iaload (show decode cX10_hole 71 = .ok (.iaload, 1) by decide +kernel) (shm_k hsm 55 (by decide) (by decide)) (by decide) (lt_n (m := 2) (by decide) (shm_n hsm 55 (by decide) (by decide))) ?_
  obtain ⟨ht, hf⟩ := h
  refine go_icmpge (tgt := 188) (show decode cX10_hole 72 = .ok (.if_icmp .ge 116, 3) by decide +kernel) (by decide) (fun hc => ?_) (fun hc => ?_)
  · have h := ht hc
    obtain ⟨q1, h⟩ := h
    refine go_iinc (show decode cX10_hole 188 = .ok (.iinc 2 1, 3) by decide +kernel) (by rfl) q1 (by decide) ?_
    show Go d MX10_hole 191 [some (vR 53), some (vI a1), some (vI (a2 + 1)), some (vI a3), none, none] [] S F G Q
    refine go_goto (tgt := 28) (show decode cX10_hole 191 = .ok (.goto (-163), 3) by decide +kernel) (by decide) ?_
    refine go_clr 3 ?_
    exact h
  · have h := hf hc
    refine go_iconst (show decode cX10_hole 75 = .ok (.iconst 0, 1) by decide +kernel) (by decide) ?_
    refine go_istore (show decode cX10_hole 76 = .ok (.istore 4, 2) by decide +kernel) (by decide) ?_
    show Go d MX10_hole 78 [some (vR 53), some (vI a1), some (vI a2), some (vI a3), some (vI 0), none] [] S F G Q
    exact h
def V_X10_hole_40 (d : Nat) (S : AS) (F : AF) (G : AG) (Q : AQ) (a1 : Int) (a2 : Int) (a3 : Int) : Prop :=
  ((G 55 0 ≤ a3) →
    Go d MX10_hole 65 [some (vR 53), some (vI a1), some (vI a2), some (vI a2), none, none] [] S F G Q) ∧
  ((¬ G 55 0 ≤ a3) →
    ((0 : Int) ≤ a3) ∧
    ((a3 : Int) < 48) ∧
    ∀ G3 : AG, G3 = gu G 74 a3 1 →
    (r32 (a3 + 1)) ∧
    Go d MX10_hole 40 [some (vR 53), some (vI a1), some (vI a2), some (vI (a3 + 1)), none, none] [] S F G3 Q)
theorem R_X10_hole_40 {d : Nat} {S : AS} {F : AF} {G : AG} {Q : AQ} {a1 : Int} {a2 : Int} {a3 : Int} (hsm : ShM S) (h : V_X10_hole_40 d S F G Q a1 a2 a3) : Go d MX10_hole 40 [some (vR 53), some (vI a1), some (vI a2), some (vI a3), none, none] [] S F G Q := by
  unfold V_X10_hole_40 at h
  refine go_iload_n (show decode cX10_hole 40 = .ok (.iload_n 3, 1) by decide +kernel) (by rfl) ?_
  refine go_aload_n (show decode cX10_hole 41 = .ok (.aload_n 0, 1) by decide +kernel) (by rfl) ?_
  refine go_getRc (show decode cX10_hole 42 = .ok (.getfield 29, 3) by decide +kernel) fl_X10_29 rfl (shm_k hsm 53 (by decide) (by decide)) (v := 55) (shm_r hsm 53 5 (by decide) (by decide)) ?_
  refine go_iconst (show decode cX10_hole 45 = .ok (.iconst 0, 1) by decide +kernel) (by decide) ?_
  refine go_iaload (show decode cX10_hole 46 = .ok (.iaload, 1) by decide +kernel) (shm_k hsm 55 (by decide) (by decide)) (by decide) (lt_n (m := 2) (by decide) (shm_n hsm 55 (by decide) (by decide))) ?_
  obtain ⟨ht, hf⟩ := h
  refine go_icmpge (tgt := 63) (show decode cX10_hole 47 = .ok (.if_icmp .ge 16, 3) by decide +kernel) (by decide) (fun hc => ?_) (fun hc => ?_)
  · have h := ht hc
    refine go_iload_n (show decode cX10_hole 63 = .ok (.iload_n 2, 1) by decide +kernel) (by rfl) ?_
    refine go_istore_n (show decode cX10_hole 64 = .ok (.istore_n 3, 1) by decide +kernel) (by decide) ?_
    show Go d MX10_hole 65 [some (vR 53), some (vI a1), some (vI a2), some (vI a2), none, none] [] S F G Q
    exact h
  · have h := hf hc
    refine go_aload_n (show decode cX10_hole 50 = .ok (.aload_n 0, 1) by decide +kernel) (by rfl) ?_
    refine go_getRc (show decode cX10_hole 51 = .ok (.getfield 93, 3) by decide +kernel) fl_X10_93 rfl (shm_k hsm 53 (by decide) (by decide)) (v := 74) (shm_r hsm 53 47 (by decide) (by decide)) ?_
    refine go_iload_n (show decode cX10_hole 54 = .ok (.iload_n 3, 1) by decide +kernel) (by rfl) ?_
    refine go_iconst (show decode cX10_hole 55 = .ok (.iconst 1, 1) by decide +kernel) (by decide) ?_
    obtain ⟨q1, h⟩ := h
    obtain ⟨q2, h⟩ := h
    refine go_zastore (show decode cX10_hole 56 = .ok (.bastore, 1) by decide +kernel) (shm_k hsm 74 (by decide) (by decide)) q1 (lt_n (m := 48) q2 (shm_n hsm 74 (by decide) (by decide))) (by decide) ?_
    obtain ⟨G3, G3e⟩ : ∃ G3 : AG, G3 = gu G 74 a3 1 := ⟨_, rfl⟩
    have h := h G3 G3e
    rw [← G3e]
    obtain ⟨q4, h⟩ := h
    refine go_iinc (show decode cX10_hole 57 = .ok (.iinc 3 1, 3) by decide +kernel) (by rfl) q4 (by decide) ?_
    show Go d MX10_hole 60 [some (vR 53), some (vI a1), some (vI a2), some (vI (a3 + 1)), none, none] [] S F G3 Q
    refine go_goto (tgt := 40) (show decode cX10_hole 60 = .ok (.goto (-20), 3) by decide +kernel) (by decide) ?_
    exact h
def V_X10_hole_28 (d : Nat) (S : AS) (F : AF) (G : AG) (Q : AQ) (a1 : Int) (a2 : Int) : Prop :=
  ((G 55 1 ≤ a2) →
    ((¬ F 53 46 = 0) →
      ((¬ a1 = 0) →
        ((¬ a1 = 1) →
          ((¬ a1 = 2) →
            ((¬ a1 = 3) →
              Q (some (vJ (F 53 46))) S F G) ∧
            ((a1 = 3) →
              (r32 ((F 53 45) + 1)) ∧
              (1 ≤ d) ∧
              ∃ z7 : Int, Pu (d - 1) MX10_edgeAt [vR 53, vI 1, vI ((F 53 45) + 1)] S F G (some (vI z7)) ∧
              (r32 (z7 - 1)) ∧
              Q (some (vJ (z7 - 1))) S F G)) ∧
          ((a1 = 2) →
            (r32 ((F 53 44) + 1)) ∧
            (1 ≤ d) ∧
            ∃ z16 : Int, Pu (d - 1) MX10_edgeAt [vR 53, vI 0, vI ((F 53 44) + 1)] S F G (some (vI z16)) ∧
            (r32 (z16 - 1)) ∧
            Q (some (vJ (z16 - 1))) S F G)) ∧
        ((a1 = 1) →
          (1 ≤ d) ∧
          ∃ z24 : Int, Pu (d - 1) MX10_edgeAt [vR 53, vI 1, vI (F 53 43)] S F G (some (vI z24)) ∧
          Q (some (vJ z24)) S F G)) ∧
      ((a1 = 0) →
        (1 ≤ d) ∧
        ∃ z31 : Int, Pu (d - 1) MX10_edgeAt [vR 53, vI 0, vI (F 53 42)] S F G (some (vI z31)) ∧
        Q (some (vJ z31)) S F G)) ∧
    ((F 53 46 = 0) →
      Q (some (vJ (-1))) S F G)) ∧
  ((¬ G 55 1 ≤ a2) →
    Go d MX10_hole 40 [some (vR 53), some (vI a1), some (vI a2), some (vI 0), none, none] [] S F G Q)
theorem R_X10_hole_28 {d : Nat} {S : AS} {F : AF} {G : AG} {Q : AQ} {a1 : Int} {a2 : Int} (hsm : ShM S) (h : V_X10_hole_28 d S F G Q a1 a2) : Go d MX10_hole 28 [some (vR 53), some (vI a1), some (vI a2), none, none, none] [] S F G Q := by
  unfold V_X10_hole_28 at h
  refine go_iload_n (show decode cX10_hole 28 = .ok (.iload_n 2, 1) by decide +kernel) (by rfl) ?_
  refine go_aload_n (show decode cX10_hole 29 = .ok (.aload_n 0, 1) by decide +kernel) (by rfl) ?_
  refine go_getRc (show decode cX10_hole 30 = .ok (.getfield 29, 3) by decide +kernel) fl_X10_29 rfl (shm_k hsm 53 (by decide) (by decide)) (v := 55) (shm_r hsm 53 5 (by decide) (by decide)) ?_
  refine go_iconst (show decode cX10_hole 33 = .ok (.iconst 1, 1) by decide +kernel) (by decide) ?_
  refine go_iaload (show decode cX10_hole 34 = .ok (.iaload, 1) by decide +kernel) (shm_k hsm 55 (by decide) (by decide)) (by decide) (lt_n (m := 2) (by decide) (shm_n hsm 55 (by decide) (by decide))) ?_
  obtain ⟨ht, hf⟩ := h
  refine go_icmpge (tgt := 194) (show decode cX10_hole 35 = .ok (.if_icmp .ge 159, 3) by decide +kernel) (by decide) (fun hc => ?_) (fun hc => ?_)
  · have h := ht hc
    refine go_aload_n (show decode cX10_hole 194 = .ok (.aload_n 0, 1) by decide +kernel) (by rfl) ?_
    refine go_getJ (show decode cX10_hole 195 = .ok (.getfield 426, 3) by decide +kernel) fl_X10_426 rfl (shm_k hsm 53 (by decide) (by decide)) ?_
    refine go_lconst (n := 0) (show decode cX10_hole 198 = .ok (.lconst 0, 1) by decide +kernel) ?_
    show Go d MX10_hole 199 [some (vR 53), some (vI a1), some (vI a2), none, none, none] [vJ 0, vJ (F 53 46)] S F G Q
    obtain ⟨ht, hf⟩ := h
    refine go_jne (tgt := 207) (show decode cX10_hole 199 = .ok (.lcmp, 1) by decide +kernel) (show decode cX10_hole 200 = .ok (.ifCond .ne 7, 3) by decide +kernel) (by decide) (fun hc => ?_) (fun hc => ?_)
    · have h := ht hc
      refine go_iload_n (show decode cX10_hole 207 = .ok (.iload_n 1, 1) by decide +kernel) (by rfl) ?_
      obtain ⟨ht, hf⟩ := h
      refine go_ifne (tgt := 224) (show decode cX10_hole 208 = .ok (.ifCond .ne 16, 3) by decide +kernel) (by decide) (fun hc => ?_) (fun hc => ?_)
      · have h := ht hc
        refine go_iload_n (show decode cX10_hole 224 = .ok (.iload_n 1, 1) by decide +kernel) (by rfl) ?_
        refine go_iconst (show decode cX10_hole 225 = .ok (.iconst 1, 1) by decide +kernel) (by decide) ?_
        obtain ⟨ht, hf⟩ := h
        refine go_icmpne (tgt := 242) (show decode cX10_hole 226 = .ok (.if_icmp .ne 16, 3) by decide +kernel) (by decide) (fun hc => ?_) (fun hc => ?_)
        · have h := ht hc
          refine go_iload_n (show decode cX10_hole 242 = .ok (.iload_n 1, 1) by decide +kernel) (by rfl) ?_
          refine go_iconst (show decode cX10_hole 243 = .ok (.iconst 2, 1) by decide +kernel) (by decide) ?_
          obtain ⟨ht, hf⟩ := h
          refine go_icmpne (tgt := 264) (show decode cX10_hole 244 = .ok (.if_icmp .ne 20, 3) by decide +kernel) (by decide) (fun hc => ?_) (fun hc => ?_)
          · have h := ht hc
            refine go_iload_n (show decode cX10_hole 264 = .ok (.iload_n 1, 1) by decide +kernel) (by rfl) ?_
            refine go_iconst (show decode cX10_hole 265 = .ok (.iconst 3, 1) by decide +kernel) (by decide) ?_
            obtain ⟨ht, hf⟩ := h
            refine go_icmpne (tgt := 286) (show decode cX10_hole 266 = .ok (.if_icmp .ne 20, 3) by decide +kernel) (by decide) (fun hc => ?_) (fun hc => ?_)
            · have h := ht hc
              refine go_aload_n (show decode cX10_hole 286 = .ok (.aload_n 0, 1) by decide +kernel) (by rfl) ?_
              refine go_getJ (show decode cX10_hole 287 = .ok (.getfield 426, 3) by decide +kernel) fl_X10_426 rfl (shm_k hsm 53 (by decide) (by decide)) ?_
              exact go_lret (show decode cX10_hole 290 = .ok (.lreturn, 1) by decide +kernel) rfl h
            · have h := hf hc
              refine go_aload_n (show decode cX10_hole 269 = .ok (.aload_n 0, 1) by decide +kernel) (by rfl) ?_
              refine go_iconst (show decode cX10_hole 270 = .ok (.iconst 1, 1) by decide +kernel) (by decide) ?_
              refine go_aload_n (show decode cX10_hole 271 = .ok (.aload_n 0, 1) by decide +kernel) (by rfl) ?_
              refine go_getI (show decode cX10_hole 272 = .ok (.getfield 423, 3) by decide +kernel) fl_X10_423 (Or.inl rfl) (shm_k hsm 53 (by decide) (by decide)) ?_
              refine go_iconst (show decode cX10_hole 275 = .ok (.iconst 1, 1) by decide +kernel) (by decide) ?_
              obtain ⟨q1, h⟩ := h
              refine go_iadd (show decode cX10_hole 276 = .ok (.iadd, 1) by decide +kernel) q1 ?_
              obtain ⟨q2, h⟩ := h
              obtain ⟨z7, p8, h⟩ := h
              refine go_callV (d2 := d - 1) (M2 := MX10_edgeAt) (n := 2) (ci := 10) (av := [vI 1, vI ((F 53 45) + 1)]) (st := []) (show decode cX10_hole 277 = .ok (.invokevirtual 126, 3) by decide +kernel) ml_X10_126 mt_X10_edgeAt min_X10_edgeAt mse_X10_edgeAt (by decide) (shm_k hsm 53 (by decide) (by decide)) rfl (Nat.le_of_ble_eq_true rfl) (by omega) (ok_mono p8 (fun w3 S4 F5 G6 e9 => ?_))
              obtain ⟨e1, e2, e3, e4⟩ := e9
              subst e1
              replace e2 := e2.symm; subst e2
              replace e3 := e3.symm; subst e3
              replace e4 := e4.symm; subst e4
              show Go d MX10_hole 280 [some (vR 53), some (vI a1), some (vI a2), none, none, none] [vI z7] S F G Q
              refine go_iconst (show decode cX10_hole 280 = .ok (.iconst 1, 1) by decide +kernel) (by decide) ?_
              obtain ⟨q9, h⟩ := h
              refine go_isub (show decode cX10_hole 281 = .ok (.isub, 1) by decide +kernel) q9 ?_
              refine go_i2l (show decode cX10_hole 282 = .ok (.i2l, 1) by decide +kernel) ?_
              refine go_goto (tgt := 290) (show decode cX10_hole 283 = .ok (.goto 7, 3) by decide +kernel) (by decide) ?_
              exact go_lret (show decode cX10_hole 290 = .ok (.lreturn, 1) by decide +kernel) rfl h
          · have h := hf hc
            refine go_aload_n (show decode cX10_hole 247 = .ok (.aload_n 0, 1) by decide +kernel) (by rfl) ?_
            refine go_iconst (show decode cX10_hole 248 = .ok (.iconst 0, 1) by decide +kernel) (by decide) ?_
            refine go_aload_n (show decode cX10_hole 249 = .ok (.aload_n 0, 1) by decide +kernel) (by rfl) ?_
            refine go_getI (show decode cX10_hole 250 = .ok (.getfield 429, 3) by decide +kernel) fl_X10_429 (Or.inl rfl) (shm_k hsm 53 (by decide) (by decide)) ?_
            refine go_iconst (show decode cX10_hole 253 = .ok (.iconst 1, 1) by decide +kernel) (by decide) ?_
            obtain ⟨q10, h⟩ := h
            refine go_iadd (show decode cX10_hole 254 = .ok (.iadd, 1) by decide +kernel) q10 ?_
            obtain ⟨q11, h⟩ := h
            obtain ⟨z16, p17, h⟩ := h
            refine go_callV (d2 := d - 1) (M2 := MX10_edgeAt) (n := 2) (ci := 10) (av := [vI 0, vI ((F 53 44) + 1)]) (st := []) (show decode cX10_hole 255 = .ok (.invokevirtual 126, 3) by decide +kernel) ml_X10_126 mt_X10_edgeAt min_X10_edgeAt mse_X10_edgeAt (by decide) (shm_k hsm 53 (by decide) (by decide)) rfl (Nat.le_of_ble_eq_true rfl) (by omega) (ok_mono p17 (fun w12 S13 F14 G15 e9 => ?_))
            obtain ⟨e1, e2, e3, e4⟩ := e9
            subst e1
            replace e2 := e2.symm; subst e2
            replace e3 := e3.symm; subst e3
            replace e4 := e4.symm; subst e4
            show Go d MX10_hole 258 [some (vR 53), some (vI a1), some (vI a2), none, none, none] [vI z16] S F G Q
            refine go_iconst (show decode cX10_hole 258 = .ok (.iconst 1, 1) by decide +kernel) (by decide) ?_
            obtain ⟨q18, h⟩ := h
            refine go_isub (show decode cX10_hole 259 = .ok (.isub, 1) by decide +kernel) q18 ?_
            refine go_i2l (show decode cX10_hole 260 = .ok (.i2l, 1) by decide +kernel) ?_
            refine go_goto (tgt := 290) (show decode cX10_hole 261 = .ok (.goto 29, 3) by decide +kernel) (by decide) ?_
            exact go_lret (show decode cX10_hole 290 = .ok (.lreturn, 1) by decide +kernel) rfl h
        · have h := hf hc
          refine go_aload_n (show decode cX10_hole 229 = .ok (.aload_n 0, 1) by decide +kernel) (by rfl) ?_
          refine go_iconst (show decode cX10_hole 230 = .ok (.iconst 1, 1) by decide +kernel) (by decide) ?_
          refine go_aload_n (show decode cX10_hole 231 = .ok (.aload_n 0, 1) by decide +kernel) (by rfl) ?_
          refine go_getI (show decode cX10_hole 232 = .ok (.getfield 417, 3) by decide +kernel) fl_X10_417 (Or.inl rfl) (shm_k hsm 53 (by decide) (by decide)) ?_
          obtain ⟨q19, h⟩ := h
          obtain ⟨z24, p25, h⟩ := h
          refine go_callV (d2 := d - 1) (M2 := MX10_edgeAt) (n := 2) (ci := 10) (av := [vI 1, vI (F 53 43)]) (st := []) (show decode cX10_hole 235 = .ok (.invokevirtual 126, 3) by decide +kernel) ml_X10_126 mt_X10_edgeAt min_X10_edgeAt mse_X10_edgeAt (by decide) (shm_k hsm 53 (by decide) (by decide)) rfl (Nat.le_of_ble_eq_true rfl) (by omega) (ok_mono p25 (fun w20 S21 F22 G23 e9 => ?_))
          obtain ⟨e1, e2, e3, e4⟩ := e9
          subst e1
          replace e2 := e2.symm; subst e2
          replace e3 := e3.symm; subst e3
          replace e4 := e4.symm; subst e4
          show Go d MX10_hole 238 [some (vR 53), some (vI a1), some (vI a2), none, none, none] [vI z24] S F G Q
          refine go_i2l (show decode cX10_hole 238 = .ok (.i2l, 1) by decide +kernel) ?_
          refine go_goto (tgt := 290) (show decode cX10_hole 239 = .ok (.goto 51, 3) by decide +kernel) (by decide) ?_
          exact go_lret (show decode cX10_hole 290 = .ok (.lreturn, 1) by decide +kernel) rfl h
      · have h := hf hc
        refine go_aload_n (show decode cX10_hole 211 = .ok (.aload_n 0, 1) by decide +kernel) (by rfl) ?_
        refine go_iconst (show decode cX10_hole 212 = .ok (.iconst 0, 1) by decide +kernel) (by decide) ?_
        refine go_aload_n (show decode cX10_hole 213 = .ok (.aload_n 0, 1) by decide +kernel) (by rfl) ?_
        refine go_getI (show decode cX10_hole 214 = .ok (.getfield 420, 3) by decide +kernel) fl_X10_420 (Or.inl rfl) (shm_k hsm 53 (by decide) (by decide)) ?_
        obtain ⟨q26, h⟩ := h
        obtain ⟨z31, p32, h⟩ := h
        refine go_callV (d2 := d - 1) (M2 := MX10_edgeAt) (n := 2) (ci := 10) (av := [vI 0, vI (F 53 42)]) (st := []) (show decode cX10_hole 217 = .ok (.invokevirtual 126, 3) by decide +kernel) ml_X10_126 mt_X10_edgeAt min_X10_edgeAt mse_X10_edgeAt (by decide) (shm_k hsm 53 (by decide) (by decide)) rfl (Nat.le_of_ble_eq_true rfl) (by omega) (ok_mono p32 (fun w27 S28 F29 G30 e9 => ?_))
        obtain ⟨e1, e2, e3, e4⟩ := e9
        subst e1
        replace e2 := e2.symm; subst e2
        replace e3 := e3.symm; subst e3
        replace e4 := e4.symm; subst e4
        show Go d MX10_hole 220 [some (vR 53), some (vI a1), some (vI a2), none, none, none] [vI z31] S F G Q
        refine go_i2l (show decode cX10_hole 220 = .ok (.i2l, 1) by decide +kernel) ?_
        refine go_goto (tgt := 290) (show decode cX10_hole 221 = .ok (.goto 69, 3) by decide +kernel) (by decide) ?_
        exact go_lret (show decode cX10_hole 290 = .ok (.lreturn, 1) by decide +kernel) rfl h
    · have h := hf hc
      refine go_ldc2 (show decode cX10_hole 203 = .ok (.ldc2_w 311, 3) by decide +kernel) lc_X10_311 (by decide) ?_
      exact go_lret (show decode cX10_hole 206 = .ok (.lreturn, 1) by decide +kernel) rfl h
  · have h := hf hc
    refine go_iconst (show decode cX10_hole 38 = .ok (.iconst 0, 1) by decide +kernel) (by decide) ?_
    refine go_istore_n (show decode cX10_hole 39 = .ok (.istore_n 3, 1) by decide +kernel) (by decide) ?_
    show Go d MX10_hole 40 [some (vR 53), some (vI a1), some (vI a2), some (vI 0), none, none] [] S F G Q
    exact h
def V_X10_hole_0 (d : Nat) (S : AS) (F : AF) (G : AG) (Q : AQ) (a1 : Int) : Prop :=
  ∀ F1 : AF, F1 = fu F 53 0 0 →
  (1 ≤ d) ∧
  ∃ z7 : Int, Pu (d - 1) MX10_isIn [vJ a1, vJ 0, vJ 4] S F1 G (some (vI z7)) ∧
  ((¬ z7 = 0) →
    ∀ F9 : AF, F9 = fu F1 53 46 0 →
    Go d MX10_hole 28 [some (vR 53), some (vI a1), some (vI 0), none, none, none] [] S F9 G Q) ∧
  ((z7 = 0) →
    Q (some (vJ (-2))) S F1 G)
theorem R_X10_hole_0 {d : Nat} {S : AS} {F : AF} {G : AG} {Q : AQ} {a1 : Int} (hsm : ShM S) (h : V_X10_hole_0 d S F G Q a1) : Go d MX10_hole 0 [some (vR 53), some (vI a1), none, none, none, none] [] S F G Q := by
  unfold V_X10_hole_0 at h
  refine go_aload_n (show decode cX10_hole 0 = .ok (.aload_n 0, 1) by decide +kernel) (by rfl) ?_
  refine go_iconst (show decode cX10_hole 1 = .ok (.iconst 0, 1) by decide +kernel) (by decide) ?_
  refine go_putI (show decode cX10_hole 2 = .ok (.putfield 1, 3) by decide +kernel) fl_X10_1 rfl (Or.inl rfl) (shm_k hsm 53 (by decide) (by decide)) ?_
  obtain ⟨F1, F1e⟩ : ∃ F1 : AF, F1 = fu F 53 0 0 := ⟨_, rfl⟩
  have h := h F1 F1e
  rw [← F1e]
  refine go_iload_n (show decode cX10_hole 5 = .ok (.iload_n 1, 1) by decide +kernel) (by rfl) ?_
  refine go_i2l (show decode cX10_hole 6 = .ok (.i2l, 1) by decide +kernel) ?_
  refine go_lconst (n := 0) (show decode cX10_hole 7 = .ok (.lconst 0, 1) by decide +kernel) ?_
  show Go d MX10_hole 8 [some (vR 53), some (vI a1), none, none, none, none] [vJ 0, vJ a1] S F1 G Q
  refine go_ldc2 (show decode cX10_hole 8 = .ok (.ldc2_w 432, 3) by decide +kernel) lc_X10_432 (by decide) ?_
  obtain ⟨q2, h⟩ := h
  obtain ⟨z7, p8, h⟩ := h
  refine go_callS (d2 := d - 1) (M2 := MX10_isIn) (n := 3) (av := [vJ a1, vJ 0, vJ 4]) (st := []) (show decode cX10_hole 11 = .ok (.invokestatic 116, 3) by decide +kernel) ml_X10_116 mt_X10_isIn mst_X10_isIn rfl (Nat.le_of_ble_eq_true rfl) (by omega) (ok_mono p8 (fun w3 S4 F5 G6 e9 => ?_))
  obtain ⟨e1, e2, e3, e4⟩ := e9
  subst e1
  replace e2 := e2.symm; subst e2
  replace e3 := e3.symm; subst e3
  replace e4 := e4.symm; subst e4
  show Go d MX10_hole 14 [some (vR 53), some (vI a1), none, none, none, none] [vI z7] S F1 G Q
  obtain ⟨ht, hf⟩ := h
  refine go_ifne (tgt := 21) (show decode cX10_hole 14 = .ok (.ifCond .ne 7, 3) by decide +kernel) (by decide) (fun hc => ?_) (fun hc => ?_)
  · have h := ht hc
    refine go_aload_n (show decode cX10_hole 21 = .ok (.aload_n 0, 1) by decide +kernel) (by rfl) ?_
    refine go_lconst (n := 0) (show decode cX10_hole 22 = .ok (.lconst 0, 1) by decide +kernel) ?_
    show Go d MX10_hole 23 [some (vR 53), some (vI a1), none, none, none, none] [vJ 0, vR 53] S F1 G Q
    refine go_putJ (show decode cX10_hole 23 = .ok (.putfield 426, 3) by decide +kernel) fl_X10_426 rfl (Or.inl rfl) (shm_k hsm 53 (by decide) (by decide)) ?_
    obtain ⟨F9, F9e⟩ : ∃ F9 : AF, F9 = fu F1 53 46 0 := ⟨_, rfl⟩
    have h := h F9 F9e
    rw [← F9e]
    refine go_iconst (show decode cX10_hole 26 = .ok (.iconst 0, 1) by decide +kernel) (by decide) ?_
    refine go_istore_n (show decode cX10_hole 27 = .ok (.istore_n 2, 1) by decide +kernel) (by decide) ?_
    show Go d MX10_hole 28 [some (vR 53), some (vI a1), some (vI 0), none, none, none] [] S F9 G Q
    exact h
  · have h := hf hc
    refine go_ldc2 (show decode cX10_hole 17 = .ok (.ldc2_w 174, 3) by decide +kernel) lc_X10_174 (by decide) ?_
    exact go_lret (show decode cX10_hole 20 = .ok (.lreturn, 1) by decide +kernel) rfl h
def V_X10_tries_110 (d : Nat) (S : AS) (F : AF) (G : AG) (Q : AQ) (a1 : Int) (a2 : Int) (a3 : Int) (a4 : Int) (a5 : Int) (a7 : Int) : Prop :=
  ∀ F1 : AF, F1 = fu F 53 42 a1 →
  ∀ F2 : AF, F2 = fu F1 53 43 a2 →
  ∀ F3 : AF, F3 = fu F2 53 44 a3 →
  ∀ F4 : AF, F4 = fu F3 53 45 a4 →
  ∀ F5 : AF, F5 = fu F4 53 46 a5 →
  Q none S F5 G
theorem R_X10_tries_110 {d : Nat} {S : AS} {F : AF} {G : AG} {Q : AQ} {a1 : Int} {a2 : Int} {a3 : Int} {a4 : Int} {a5 : Int} {a7 : Int} (hsm : ShM S) (h : V_X10_tries_110 d S F G Q a1 a2 a3 a4 a5 a7) : Go d MX10_tries 110 [some (vR 53), some (vI a1), some (vI a2), some (vI a3), some (vI a4), some (vJ a5), none, some (vI a7)] [] S F G Q := by
  unfold V_X10_tries_110 at h
  refine go_aload_n (show decode cX10_tries 110 = .ok (.aload_n 0, 1) by decide +kernel) (by rfl) ?_
  refine go_iload_n (show decode cX10_tries 111 = .ok (.iload_n 1, 1) by decide +kernel) (by rfl) ?_
  refine go_putI (show decode cX10_tries 112 = .ok (.putfield 420, 3) by decide +kernel) fl_X10_420 rfl (Or.inl rfl) (shm_k hsm 53 (by decide) (by decide)) ?_
  obtain ⟨F1, F1e⟩ : ∃ F1 : AF, F1 = fu F 53 42 a1 := ⟨_, rfl⟩
  have h := h F1 F1e
  rw [← F1e]
  refine go_aload_n (show decode cX10_tries 115 = .ok (.aload_n 0, 1) by decide +kernel) (by rfl) ?_
  refine go_iload_n (show decode cX10_tries 116 = .ok (.iload_n 2, 1) by decide +kernel) (by rfl) ?_
  refine go_putI (show decode cX10_tries 117 = .ok (.putfield 417, 3) by decide +kernel) fl_X10_417 rfl (Or.inl rfl) (shm_k hsm 53 (by decide) (by decide)) ?_
  obtain ⟨F2, F2e⟩ : ∃ F2 : AF, F2 = fu F1 53 43 a2 := ⟨_, rfl⟩
  have h := h F2 F2e
  rw [← F2e]
  refine go_aload_n (show decode cX10_tries 120 = .ok (.aload_n 0, 1) by decide +kernel) (by rfl) ?_
  refine go_iload_n (show decode cX10_tries 121 = .ok (.iload_n 3, 1) by decide +kernel) (by rfl) ?_
  refine go_putI (show decode cX10_tries 122 = .ok (.putfield 429, 3) by decide +kernel) fl_X10_429 rfl (Or.inl rfl) (shm_k hsm 53 (by decide) (by decide)) ?_
  obtain ⟨F3, F3e⟩ : ∃ F3 : AF, F3 = fu F2 53 44 a3 := ⟨_, rfl⟩
  have h := h F3 F3e
  rw [← F3e]
  refine go_aload_n (show decode cX10_tries 125 = .ok (.aload_n 0, 1) by decide +kernel) (by rfl) ?_
  refine go_iload (show decode cX10_tries 126 = .ok (.iload 4, 2) by decide +kernel) (by rfl) ?_
  refine go_putI (show decode cX10_tries 128 = .ok (.putfield 423, 3) by decide +kernel) fl_X10_423 rfl (Or.inl rfl) (shm_k hsm 53 (by decide) (by decide)) ?_
  obtain ⟨F4, F4e⟩ : ∃ F4 : AF, F4 = fu F3 53 45 a4 := ⟨_, rfl⟩
  have h := h F4 F4e
  rw [← F4e]
  refine go_aload_n (show decode cX10_tries 131 = .ok (.aload_n 0, 1) by decide +kernel) (by rfl) ?_
  refine go_lload (show decode cX10_tries 132 = .ok (.lload 5, 2) by decide +kernel) (by rfl) ?_
  refine go_putJ (show decode cX10_tries 134 = .ok (.putfield 426, 3) by decide +kernel) fl_X10_426 rfl (Or.inl rfl) (shm_k hsm 53 (by decide) (by decide)) ?_
  obtain ⟨F5, F5e⟩ : ∃ F5 : AF, F5 = fu F4 53 46 a5 := ⟨_, rfl⟩
  have h := h F5 F5e
  rw [← F5e]
  exact go_vret (show decode cX10_tries 137 = .ok (.return_, 1) by decide +kernel) rfl h
def V_X10_tries_82 (d : Nat) (S : AS) (F : AF) (G : AG) (Q : AQ) (a1 : Int) (a2 : Int) (a3 : Int) (a4 : Int) (a5 : Int) (s0 : Int) : Prop :=
  ((a5 < F 53 46) →
    Q none S F G) ∧
  ((¬ a5 < F 53 46) →
    ((¬ a5 = F 53 46) →
      V_X10_tries_110 d S F G Q a1 a2 a3 a4 a5 s0) ∧
    ((a5 = F 53 46) →
      ((¬ s0 = 0) →
        V_X10_tries_110 d S F G Q a1 a2 a3 a4 a5 s0) ∧
      ((s0 = 0) →
        Q none S F G)))
theorem R_X10_tries_82 {d : Nat} {S : AS} {F : AF} {G : AG} {Q : AQ} {a1 : Int} {a2 : Int} {a3 : Int} {a4 : Int} {a5 : Int} {s0 : Int} (hsm : ShM S) (h : V_X10_tries_82 d S F G Q a1 a2 a3 a4 a5 s0) : Go d MX10_tries 82 [some (vR 53), some (vI a1), some (vI a2), some (vI a3), some (vI a4), some (vJ a5), none, none] [vI s0] S F G Q := by
  unfold V_X10_tries_82 at h
  refine go_istore (show decode cX10_tries 82 = .ok (.istore 7, 2) by decide +kernel) (by decide) ?_
  show Go d MX10_tries 84 [some (vR 53), some (vI a1), some (vI a2), some (vI a3), some (vI a4), some (vJ a5), none, some (vI s0)] [] S F G Q
  refine go_lload (show decode cX10_tries 84 = .ok (.lload 5, 2) by decide +kernel) (by rfl) ?_
  refine go_aload_n (show decode cX10_tries 86 = .ok (.aload_n 0, 1) by decide +kernel) (by rfl) ?_
  refine go_getJ (show decode cX10_tries 87 = .ok (.getfield 426, 3) by decide +kernel) fl_X10_426 rfl (shm_k hsm 53 (by decide) (by decide)) ?_
  obtain ⟨ht, hf⟩ := h
  refine go_jlt (tgt := 109) (show decode cX10_tries 90 = .ok (.lcmp, 1) by decide +kernel) (show decode cX10_tries 91 = .ok (.ifCond .lt 18, 3) by decide +kernel) (by decide) (fun hc => ?_) (fun hc => ?_)
  · have h := ht hc
    exact go_vret (show decode cX10_tries 109 = .ok (.return_, 1) by decide +kernel) rfl h
  · have h := hf hc
    refine go_lload (show decode cX10_tries 94 = .ok (.lload 5, 2) by decide +kernel) (by rfl) ?_
    refine go_aload_n (show decode cX10_tries 96 = .ok (.aload_n 0, 1) by decide +kernel) (by rfl) ?_
    refine go_getJ (show decode cX10_tries 97 = .ok (.getfield 426, 3) by decide +kernel) fl_X10_426 rfl (shm_k hsm 53 (by decide) (by decide)) ?_
    obtain ⟨ht, hf⟩ := h
    refine go_jne (tgt := 110) (show decode cX10_tries 100 = .ok (.lcmp, 1) by decide +kernel) (show decode cX10_tries 101 = .ok (.ifCond .ne 9, 3) by decide +kernel) (by decide) (fun hc => ?_) (fun hc => ?_)
    · have h := ht hc
      exact R_X10_tries_110 hsm h
    · have h := hf hc
      refine go_iload (show decode cX10_tries 104 = .ok (.iload 7, 2) by decide +kernel) (by rfl) ?_
      obtain ⟨ht, hf⟩ := h
      refine go_ifne (tgt := 110) (show decode cX10_tries 106 = .ok (.ifCond .ne 4, 3) by decide +kernel) (by decide) (fun hc => ?_) (fun hc => ?_)
      · have h := ht hc
        exact R_X10_tries_110 hsm h
      · have h := hf hc
        exact go_vret (show decode cX10_tries 109 = .ok (.return_, 1) by decide +kernel) rfl h
def V_X10_tries_81 (d : Nat) (S : AS) (F : AF) (G : AG) (Q : AQ) (a1 : Int) (a2 : Int) (a3 : Int) (a4 : Int) (a5 : Int) : Prop :=
  V_X10_tries_82 d S F G Q a1 a2 a3 a4 a5 0
theorem R_X10_tries_81 {d : Nat} {S : AS} {F : AF} {G : AG} {Q : AQ} {a1 : Int} {a2 : Int} {a3 : Int} {a4 : Int} {a5 : Int} (hsm : ShM S) (h : V_X10_tries_81 d S F G Q a1 a2 a3 a4 a5) : Go d MX10_tries 81 [some (vR 53), some (vI a1), some (vI a2), some (vI a3), some (vI a4), some (vJ a5), none, none] [] S F G Q := by
  unfold V_X10_tries_81 at h
  refine go_iconst (show decode cX10_tries 81 = .ok (.iconst 0, 1) by decide +kernel) (by decide) ?_
  exact R_X10_tries_82 hsm h
def V_X10_tries_77 (d : Nat) (S : AS) (F : AF) (G : AG) (Q : AQ) (a1 : Int) (a2 : Int) (a3 : Int) (a4 : Int) (a5 : Int) : Prop :=
  V_X10_tries_82 d S F G Q a1 a2 a3 a4 a5 1
theorem R_X10_tries_77 {d : Nat} {S : AS} {F : AF} {G : AG} {Q : AQ} {a1 : Int} {a2 : Int} {a3 : Int} {a4 : Int} {a5 : Int} (hsm : ShM S) (h : V_X10_tries_77 d S F G Q a1 a2 a3 a4 a5) : Go d MX10_tries 77 [some (vR 53), some (vI a1), some (vI a2), some (vI a3), some (vI a4), some (vJ a5), none, none] [] S F G Q := by
  unfold V_X10_tries_77 at h
  refine go_iconst (show decode cX10_tries 77 = .ok (.iconst 1, 1) by decide +kernel) (by decide) ?_
  refine go_goto (tgt := 82) (show decode cX10_tries 78 = .ok (.goto 4, 3) by decide +kernel) (by decide) ?_
  exact R_X10_tries_82 hsm h
def V_X10_tries_0 (d : Nat) (S : AS) (F : AF) (G : AG) (Q : AQ) (a1 : Int) (a2 : Int) (a3 : Int) (a4 : Int) : Prop :=
  (r32 (a3 + 1)) ∧
  (1 ≤ d) ∧
  ∃ z7 : Int, Pu (d - 1) MX10_edgeAt [vR 53, vI 0, vI (a3 + 1)] S F G (some (vI z7)) ∧
  ∃ z13 : Int, Pu (d - 1) MX10_edgeAt [vR 53, vI 0, vI a1] S F G (some (vI z13)) ∧
  (r32 (z7 - z13)) ∧
  (r32 (a4 + 1)) ∧
  ∃ z21 : Int, Pu (d - 1) MX10_edgeAt [vR 53, vI 1, vI (a4 + 1)] S F G (some (vI z21)) ∧
  ∃ z27 : Int, Pu (d - 1) MX10_edgeAt [vR 53, vI 1, vI a2] S F G (some (vI z27)) ∧
  (r32 (z21 - z27)) ∧
  (r64 ((z7 - z13) * (z21 - z27))) ∧
  ∀ x31 : Int, x31 = (z7 - z13) * (z21 - z27) →
  ((a2 < F 53 43) →
    V_X10_tries_77 d S F G Q a1 a2 a3 a4 x31) ∧
  ((¬ a2 < F 53 43) →
    ((¬ a2 = F 53 43) →
      V_X10_tries_81 d S F G Q a1 a2 a3 a4 x31) ∧
    ((a2 = F 53 43) →
      ((a1 < F 53 42) →
        V_X10_tries_77 d S F G Q a1 a2 a3 a4 x31) ∧
      ((¬ a1 < F 53 42) →
        ((¬ a1 = F 53 42) →
          V_X10_tries_81 d S F G Q a1 a2 a3 a4 x31) ∧
        ((a1 = F 53 42) →
          ((F 53 45 ≤ a4) →
            V_X10_tries_81 d S F G Q a1 a2 a3 a4 x31) ∧
          ((¬ F 53 45 ≤ a4) →
            V_X10_tries_77 d S F G Q a1 a2 a3 a4 x31)))))
theorem R_X10_tries_0 {d : Nat} {S : AS} {F : AF} {G : AG} {Q : AQ} {a1 : Int} {a2 : Int} {a3 : Int} {a4 : Int} (hsm : ShM S) (h : V_X10_tries_0 d S F G Q a1 a2 a3 a4) : Go d MX10_tries 0 [some (vR 53), some (vI a1), some (vI a2), some (vI a3), some (vI a4), none, none, none] [] S F G Q := by
  unfold V_X10_tries_0 at h
  refine go_aload_n (show decode cX10_tries 0 = .ok (.aload_n 0, 1) by decide +kernel) (by rfl) ?_
  refine go_iconst (show decode cX10_tries 1 = .ok (.iconst 0, 1) by decide +kernel) (by decide) ?_
  refine go_iload_n (show decode cX10_tries 2 = .ok (.iload_n 3, 1) by decide +kernel) (by rfl) ?_
  refine go_iconst (show decode cX10_tries 3 = .ok (.iconst 1, 1) by decide +kernel) (by decide) ?_
  obtain ⟨q1, h⟩ := h
  refine go_iadd (show decode cX10_tries 4 = .ok (.iadd, 1) by decide +kernel) q1 ?_
  obtain ⟨q2, h⟩ := h
  obtain ⟨z7, p8, h⟩ := h
  refine go_callV (d2 := d - 1) (M2 := MX10_edgeAt) (n := 2) (ci := 10) (av := [vI 0, vI (a3 + 1)]) (st := []) (show decode cX10_tries 5 = .ok (.invokevirtual 126, 3) by decide +kernel) ml_X10_126 mt_X10_edgeAt min_X10_edgeAt mse_X10_edgeAt (by decide) (shm_k hsm 53 (by decide) (by decide)) rfl (Nat.le_of_ble_eq_true rfl) (by omega) (ok_mono p8 (fun w3 S4 F5 G6 e9 => ?_))
  obtain ⟨e1, e2, e3, e4⟩ := e9
  subst e1
  replace e2 := e2.symm; subst e2
  replace e3 := e3.symm; subst e3
  replace e4 := e4.symm; subst e4
  show Go d MX10_tries 8 [some (vR 53), some (vI a1), some (vI a2), some (vI a3), some (vI a4), none, none, none] [vI z7] S F G Q
  refine go_aload_n (show decode cX10_tries 8 = .ok (.aload_n 0, 1) by decide +kernel) (by rfl) ?_
  refine go_iconst (show decode cX10_tries 9 = .ok (.iconst 0, 1) by decide +kernel) (by decide) ?_
  refine go_iload_n (show decode cX10_tries 10 = .ok (.iload_n 1, 1) by decide +kernel) (by rfl) ?_
  obtain ⟨z13, p14, h⟩ := h
  refine go_callV (d2 := d - 1) (M2 := MX10_edgeAt) (n := 2) (ci := 10) (av := [vI 0, vI a1]) (st := [vI z7]) (show decode cX10_tries 11 = .ok (.invokevirtual 126, 3) by decide +kernel) ml_X10_126 mt_X10_edgeAt min_X10_edgeAt mse_X10_edgeAt (by decide) (shm_k hsm 53 (by decide) (by decide)) rfl (Nat.le_of_ble_eq_true rfl) (by omega) (ok_mono p14 (fun w9 S10 F11 G12 e9 => ?_))
  obtain ⟨e1, e2, e3, e4⟩ := e9
  subst e1
  replace e2 := e2.symm; subst e2
  replace e3 := e3.symm; subst e3
  replace e4 := e4.symm; subst e4
  show Go d MX10_tries 14 [some (vR 53), some (vI a1), some (vI a2), some (vI a3), some (vI a4), none, none, none] [vI z13, vI z7] S F G Q
  obtain ⟨q15, h⟩ := h
  refine go_isub (show decode cX10_tries 14 = .ok (.isub, 1) by decide +kernel) q15 ?_
  refine go_i2l (show decode cX10_tries 15 = .ok (.i2l, 1) by decide +kernel) ?_
  refine go_aload_n (show decode cX10_tries 16 = .ok (.aload_n 0, 1) by decide +kernel) (by rfl) ?_
  refine go_iconst (show decode cX10_tries 17 = .ok (.iconst 1, 1) by decide +kernel) (by decide) ?_
  refine go_iload (show decode cX10_tries 18 = .ok (.iload 4, 2) by decide +kernel) (by rfl) ?_
  refine go_iconst (show decode cX10_tries 20 = .ok (.iconst 1, 1) by decide +kernel) (by decide) ?_
  obtain ⟨q16, h⟩ := h
  refine go_iadd (show decode cX10_tries 21 = .ok (.iadd, 1) by decide +kernel) q16 ?_
  obtain ⟨z21, p22, h⟩ := h
  refine go_callV (d2 := d - 1) (M2 := MX10_edgeAt) (n := 2) (ci := 10) (av := [vI 1, vI (a4 + 1)]) (st := [vJ (z7 - z13)]) (show decode cX10_tries 22 = .ok (.invokevirtual 126, 3) by decide +kernel) ml_X10_126 mt_X10_edgeAt min_X10_edgeAt mse_X10_edgeAt (by decide) (shm_k hsm 53 (by decide) (by decide)) rfl (Nat.le_of_ble_eq_true rfl) (by omega) (ok_mono p22 (fun w17 S18 F19 G20 e9 => ?_))
  obtain ⟨e1, e2, e3, e4⟩ := e9
  subst e1
  replace e2 := e2.symm; subst e2
  replace e3 := e3.symm; subst e3
  replace e4 := e4.symm; subst e4
  show Go d MX10_tries 25 [some (vR 53), some (vI a1), some (vI a2), some (vI a3), some (vI a4), none, none, none] [vI z21, vJ (z7 - z13)] S F G Q
  refine go_aload_n (show decode cX10_tries 25 = .ok (.aload_n 0, 1) by decide +kernel) (by rfl) ?_
  refine go_iconst (show decode cX10_tries 26 = .ok (.iconst 1, 1) by decide +kernel) (by decide) ?_
  refine go_iload_n (show decode cX10_tries 27 = .ok (.iload_n 2, 1) by decide +kernel) (by rfl) ?_
  obtain ⟨z27, p28, h⟩ := h
  refine go_callV (d2 := d - 1) (M2 := MX10_edgeAt) (n := 2) (ci := 10) (av := [vI 1, vI a2]) (st := [vI z21, vJ (z7 - z13)]) (show decode cX10_tries 28 = .ok (.invokevirtual 126, 3) by decide +kernel) ml_X10_126 mt_X10_edgeAt min_X10_edgeAt mse_X10_edgeAt (by decide) (shm_k hsm 53 (by decide) (by decide)) rfl (Nat.le_of_ble_eq_true rfl) (by omega) (ok_mono p28 (fun w23 S24 F25 G26 e9 => ?_))
  obtain ⟨e1, e2, e3, e4⟩ := e9
  subst e1
  replace e2 := e2.symm; subst e2
  replace e3 := e3.symm; subst e3
  replace e4 := e4.symm; subst e4
  show Go d MX10_tries 31 [some (vR 53), some (vI a1), some (vI a2), some (vI a3), some (vI a4), none, none, none] [vI z27, vI z21, vJ (z7 - z13)] S F G Q
  obtain ⟨q29, h⟩ := h
  refine go_isub (show decode cX10_tries 31 = .ok (.isub, 1) by decide +kernel) q29 ?_
  refine go_i2l (show decode cX10_tries 32 = .ok (.i2l, 1) by decide +kernel) ?_
  obtain ⟨q30, h⟩ := h
  refine go_lmul (show decode cX10_tries 33 = .ok (.lmul, 1) by decide +kernel) q30 ?_
  obtain ⟨x31, x31e⟩ : ∃ x31 : Int, x31 = (z7 - z13) * (z21 - z27) := ⟨_, rfl⟩
  have h := h x31 x31e
  rw [← x31e]
  refine go_lstore (show decode cX10_tries 34 = .ok (.lstore 5, 2) by decide +kernel) (by decide) ?_
  show Go d MX10_tries 36 [some (vR 53), some (vI a1), some (vI a2), some (vI a3), some (vI a4), some (vJ x31), none, none] [] S F G Q
  refine go_iload_n (show decode cX10_tries 36 = .ok (.iload_n 2, 1) by decide +kernel) (by rfl) ?_
  refine go_aload_n (show decode cX10_tries 37 = .ok (.aload_n 0, 1) by decide +kernel) (by rfl) ?_
  refine go_getI (show decode cX10_tries 38 = .ok (.getfield 417, 3) by decide +kernel) fl_X10_417 (Or.inl rfl) (shm_k hsm 53 (by decide) (by decide)) ?_
  obtain ⟨ht, hf⟩ := h
  refine go_icmplt (tgt := 77) (show decode cX10_tries 41 = .ok (.if_icmp .lt 36, 3) by decide +kernel) (by decide) (fun hc => ?_) (fun hc => ?_)
  · have h := ht hc
    exact R_X10_tries_77 hsm h
  · have h := hf hc
    refine go_iload_n (show decode cX10_tries 44 = .ok (.iload_n 2, 1) by decide +kernel) (by rfl) ?_
    refine go_aload_n (show decode cX10_tries 45 = .ok (.aload_n 0, 1) by decide +kernel) (by rfl) ?_
    refine go_getI (show decode cX10_tries 46 = .ok (.getfield 417, 3) by decide +kernel) fl_X10_417 (Or.inl rfl) (shm_k hsm 53 (by decide) (by decide)) ?_
    obtain ⟨ht, hf⟩ := h
    refine go_icmpne (tgt := 81) (show decode cX10_tries 49 = .ok (.if_icmp .ne 32, 3) by decide +kernel) (by decide) (fun hc => ?_) (fun hc => ?_)
    · have h := ht hc
      exact R_X10_tries_81 hsm h
    · have h := hf hc
      refine go_iload_n (show decode cX10_tries 52 = .ok (.iload_n 1, 1) by decide +kernel) (by rfl) ?_
      refine go_aload_n (show decode cX10_tries 53 = .ok (.aload_n 0, 1) by decide +kernel) (by rfl) ?_
      refine go_getI (show decode cX10_tries 54 = .ok (.getfield 420, 3) by decide +kernel) fl_X10_420 (Or.inl rfl) (shm_k hsm 53 (by decide) (by decide)) ?_
      obtain ⟨ht, hf⟩ := h
      refine go_icmplt (tgt := 77) (show decode cX10_tries 57 = .ok (.if_icmp .lt 20, 3) by decide +kernel) (by decide) (fun hc => ?_) (fun hc => ?_)
      · have h := ht hc
        exact R_X10_tries_77 hsm h
      · have h := hf hc
        refine go_iload_n (show decode cX10_tries 60 = .ok (.iload_n 1, 1) by decide +kernel) (by rfl) ?_
        refine go_aload_n (show decode cX10_tries 61 = .ok (.aload_n 0, 1) by decide +kernel) (by rfl) ?_
        refine go_getI (show decode cX10_tries 62 = .ok (.getfield 420, 3) by decide +kernel) fl_X10_420 (Or.inl rfl) (shm_k hsm 53 (by decide) (by decide)) ?_
        obtain ⟨ht, hf⟩ := h
        refine go_icmpne (tgt := 81) (show decode cX10_tries 65 = .ok (.if_icmp .ne 16, 3) by decide +kernel) (by decide) (fun hc => ?_) (fun hc => ?_)
        · have h := ht hc
          exact R_X10_tries_81 hsm h
        · have h := hf hc
          refine go_iload (show decode cX10_tries 68 = .ok (.iload 4, 2) by decide +kernel) (by rfl) ?_
          refine go_aload_n (show decode cX10_tries 70 = .ok (.aload_n 0, 1) by decide +kernel) (by rfl) ?_
          refine go_getI (show decode cX10_tries 71 = .ok (.getfield 423, 3) by decide +kernel) fl_X10_423 (Or.inl rfl) (shm_k hsm 53 (by decide) (by decide)) ?_
          obtain ⟨ht, hf⟩ := h
          refine go_icmpge (tgt := 81) (show decode cX10_tries 74 = .ok (.if_icmp .ge 7, 3) by decide +kernel) (by decide) (fun hc => ?_) (fun hc => ?_)
          · have h := ht hc
            exact R_X10_tries_81 hsm h
          · have h := hf hc
            exact R_X10_tries_77 hsm h
def V_X10_before_66 (d : Nat) (S : AS) (F : AF) (G : AG) (Q : AQ) (a1 : Int) (a2 : Int) (a3 : Int) (a4 : Int) (a5 : Int) (a6 : Int) (a7 : Int) (a9 : Int) (a10 : Int) : Prop :=
  ((G 55 1 ≤ a10) →
    (r32 (a9 + 1)) ∧
    Go d MX10_before 52 [some (vR 53), some (vI a1), some (vI a2), some (vI a3), some (vI a4), some (vI a5), some (vI a6), some (vJ a7), none, some (vI (a9 + 1)), none] [] S F G Q) ∧
  ((¬ G 55 1 ≤ a10) →
    (r32 (6912 * a1)) ∧
    (1 ≤ d) ∧
    ∃ z8 : Int, Pu (d - 1) MX10_slot [vI a2, vI a9, vI a10] S F G (some (vI z8)) ∧
    (r32 ((6912 * a1) + z8)) ∧
    ((0 : Int) ≤ (6912 * a1) + z8) ∧
    (((6912 * a1) + z8 : Int) < 55296) ∧
    ∃ z17 : Int, Pu (d - 1) MX10_part [vR 53, vI 0, vI a9, vI a3, vI a5] S F G (some (vI z17)) ∧
    (r64 ((G 58 ((6912 * a1) + z8)) * z17)) ∧
    ∃ z24 : Int, Pu (d - 1) MX10_part [vR 53, vI 1, vI a10, vI a4, vI a6] S F G (some (vI z24)) ∧
    (r64 (((G 58 ((6912 * a1) + z8)) * z17) * z24)) ∧
    (r64 (a7 + (((G 58 ((6912 * a1) + z8)) * z17) * z24))) ∧
    ∀ x28 : Int, x28 = a7 + (((G 58 ((6912 * a1) + z8)) * z17) * z24) →
    (r32 (a10 + 1)) ∧
    Go d MX10_before 66 [some (vR 53), some (vI a1), some (vI a2), some (vI a3), some (vI a4), some (vI a5), some (vI a6), some (vJ x28), none, some (vI a9), some (vI (a10 + 1))] [] S F G Q)
theorem R_X10_before_66 {d : Nat} {S : AS} {F : AF} {G : AG} {Q : AQ} {a1 : Int} {a2 : Int} {a3 : Int} {a4 : Int} {a5 : Int} {a6 : Int} {a7 : Int} {a9 : Int} {a10 : Int} (hsm : ShM S) (h : V_X10_before_66 d S F G Q a1 a2 a3 a4 a5 a6 a7 a9 a10) : Go d MX10_before 66 [some (vR 53), some (vI a1), some (vI a2), some (vI a3), some (vI a4), some (vI a5), some (vI a6), some (vJ a7), none, some (vI a9), some (vI a10)] [] S F G Q := by
  unfold V_X10_before_66 at h
  refine go_iload (show decode cX10_before 66 = .ok (.iload 10, 2) by decide +kernel) (by rfl) ?_
  refine go_aload_n (show decode cX10_before 68 = .ok (.aload_n 0, 1) by decide +kernel) (by rfl) ?_
  refine go_getRc (show decode cX10_before 69 = .ok (.getfield 29, 3) by decide +kernel) fl_X10_29 rfl (shm_k hsm 53 (by decide) (by decide)) (v := 55) (shm_r hsm 53 5 (by decide) (by decide)) ?_
  refine go_iconst (show decode cX10_before 72 = .ok (.iconst 1, 1) by decide +kernel) (by decide) ?_
  refine go_iaload (show decode cX10_before 73 = .ok (.iaload, 1) by decide +kernel) (shm_k hsm 55 (by decide) (by decide)) (by decide) (lt_n (m := 2) (by decide) (shm_n hsm 55 (by decide) (by decide))) ?_
  obtain ⟨ht, hf⟩ := h
  refine go_icmpge (tgt := 132) (show decode cX10_before 74 = .ok (.if_icmp .ge 58, 3) by decide +kernel) (by decide) (fun hc => ?_) (fun hc => ?_)
  · have h := ht hc
    obtain ⟨q1, h⟩ := h
    refine go_iinc (show decode cX10_before 132 = .ok (.iinc 9 1, 3) by decide +kernel) (by rfl) q1 (by decide) ?_
    show Go d MX10_before 135 [some (vR 53), some (vI a1), some (vI a2), some (vI a3), some (vI a4), some (vI a5), some (vI a6), some (vJ a7), none, some (vI (a9 + 1)), some (vI a10)] [] S F G Q
    refine go_goto (tgt := 52) (show decode cX10_before 135 = .ok (.goto (-83), 3) by decide +kernel) (by decide) ?_
    refine go_clr 10 ?_
    exact h
  · have h := hf hc
    refine go_lload (show decode cX10_before 77 = .ok (.lload 7, 2) by decide +kernel) (by rfl) ?_
    refine go_aload_n (show decode cX10_before 79 = .ok (.aload_n 0, 1) by decide +kernel) (by rfl) ?_
    refine go_getRc (show decode cX10_before 80 = .ok (.getfield 40, 3) by decide +kernel) fl_X10_40 rfl (shm_k hsm 53 (by decide) (by decide)) (v := 58) (shm_r hsm 53 8 (by decide) (by decide)) ?_
    refine go_sipush (show decode cX10_before 83 = .ok (.sipush 6912, 3) by decide +kernel) (by decide) ?_
    refine go_iload_n (show decode cX10_before 86 = .ok (.iload_n 1, 1) by decide +kernel) (by rfl) ?_
    obtain ⟨q2, h⟩ := h
    refine go_imul (show decode cX10_before 87 = .ok (.imul, 1) by decide +kernel) q2 ?_
    refine go_iload_n (show decode cX10_before 88 = .ok (.iload_n 2, 1) by decide +kernel) (by rfl) ?_
    refine go_iload (show decode cX10_before 89 = .ok (.iload 9, 2) by decide +kernel) (by rfl) ?_
    refine go_iload (show decode cX10_before 91 = .ok (.iload 10, 2) by decide +kernel) (by rfl) ?_
    obtain ⟨q3, h⟩ := h
    obtain ⟨z8, p9, h⟩ := h
    refine go_callS (d2 := d - 1) (M2 := MX10_slot) (n := 3) (av := [vI a2, vI a9, vI a10]) (st := [vI (6912 * a1), vR 58, vJ a7]) (show decode cX10_before 93 = .ok (.invokestatic 130, 3) by decide +kernel) ml_X10_130 mt_X10_slot mst_X10_slot rfl (Nat.le_of_ble_eq_true rfl) (by omega) (ok_mono p9 (fun w4 S5 F6 G7 e9 => ?_))
    obtain ⟨e1, e2, e3, e4⟩ := e9
    subst e1
    replace e2 := e2.symm; subst e2
    replace e3 := e3.symm; subst e3
    replace e4 := e4.symm; subst e4
    show Go d MX10_before 96 [some (vR 53), some (vI a1), some (vI a2), some (vI a3), some (vI a4), some (vI a5), some (vI a6), some (vJ a7), none, some (vI a9), some (vI a10)] [vI z8, vI (6912 * a1), vR 58, vJ a7] S F G Q
    obtain ⟨q10, h⟩ := h
    refine go_iadd (show decode cX10_before 96 = .ok (.iadd, 1) by decide +kernel) q10 ?_
    obtain ⟨q11, h⟩ := h
    obtain ⟨q12, h⟩ := h
    refine go_laload (show decode cX10_before 97 = .ok (.laload, 1) by decide +kernel) (shm_k hsm 58 (by decide) (by decide)) q11 (lt_n (m := 55296) q12 (shm_n hsm 58 (by decide) (by decide))) ?_
    refine go_aload_n (show decode cX10_before 98 = .ok (.aload_n 0, 1) by decide +kernel) (by rfl) ?_
    refine go_iconst (show decode cX10_before 99 = .ok (.iconst 0, 1) by decide +kernel) (by decide) ?_
    refine go_iload (show decode cX10_before 100 = .ok (.iload 9, 2) by decide +kernel) (by rfl) ?_
    refine go_iload_n (show decode cX10_before 102 = .ok (.iload_n 3, 1) by decide +kernel) (by rfl) ?_
    refine go_iload (show decode cX10_before 103 = .ok (.iload 5, 2) by decide +kernel) (by rfl) ?_
    obtain ⟨z17, p18, h⟩ := h
    refine go_callV (d2 := d - 1) (M2 := MX10_part) (n := 4) (ci := 10) (av := [vI 0, vI a9, vI a3, vI a5]) (st := [vJ (G 58 ((6912 * a1) + z8)), vJ a7]) (show decode cX10_before 105 = .ok (.invokevirtual 159, 3) by decide +kernel) ml_X10_159 mt_X10_part min_X10_part mse_X10_part (by decide) (shm_k hsm 53 (by decide) (by decide)) rfl (Nat.le_of_ble_eq_true rfl) (by omega) (ok_mono p18 (fun w13 S14 F15 G16 e9 => ?_))
    obtain ⟨e1, e2, e3, e4⟩ := e9
    subst e1
    replace e2 := e2.symm; subst e2
    replace e3 := e3.symm; subst e3
    replace e4 := e4.symm; subst e4
    show Go d MX10_before 108 [some (vR 53), some (vI a1), some (vI a2), some (vI a3), some (vI a4), some (vI a5), some (vI a6), some (vJ a7), none, some (vI a9), some (vI a10)] [vI z17, vJ (G 58 ((6912 * a1) + z8)), vJ a7] S F G Q
    refine go_i2l (show decode cX10_before 108 = .ok (.i2l, 1) by decide +kernel) ?_
    obtain ⟨q19, h⟩ := h
    refine go_lmul (show decode cX10_before 109 = .ok (.lmul, 1) by decide +kernel) q19 ?_
    refine go_aload_n (show decode cX10_before 110 = .ok (.aload_n 0, 1) by decide +kernel) (by rfl) ?_
    refine go_iconst (show decode cX10_before 111 = .ok (.iconst 1, 1) by decide +kernel) (by decide) ?_
    refine go_iload (show decode cX10_before 112 = .ok (.iload 10, 2) by decide +kernel) (by rfl) ?_
    refine go_iload (show decode cX10_before 114 = .ok (.iload 4, 2) by decide +kernel) (by rfl) ?_
    refine go_iload (show decode cX10_before 116 = .ok (.iload 6, 2) by decide +kernel) (by rfl) ?_
    obtain ⟨z24, p25, h⟩ := h
    refine go_callV (d2 := d - 1) (M2 := MX10_part) (n := 4) (ci := 10) (av := [vI 1, vI a10, vI a4, vI a6]) (st := [vJ ((G 58 ((6912 * a1) + z8)) * z17), vJ a7]) (show decode cX10_before 118 = .ok (.invokevirtual 159, 3) by decide +kernel) ml_X10_159 mt_X10_part min_X10_part mse_X10_part (by decide) (shm_k hsm 53 (by decide) (by decide)) rfl (Nat.le_of_ble_eq_true rfl) (by omega) (ok_mono p25 (fun w20 S21 F22 G23 e9 => ?_))
    obtain ⟨e1, e2, e3, e4⟩ := e9
    subst e1
    replace e2 := e2.symm; subst e2
    replace e3 := e3.symm; subst e3
    replace e4 := e4.symm; subst e4
    show Go d MX10_before 121 [some (vR 53), some (vI a1), some (vI a2), some (vI a3), some (vI a4), some (vI a5), some (vI a6), some (vJ a7), none, some (vI a9), some (vI a10)] [vI z24, vJ ((G 58 ((6912 * a1) + z8)) * z17), vJ a7] S F G Q
    refine go_i2l (show decode cX10_before 121 = .ok (.i2l, 1) by decide +kernel) ?_
    obtain ⟨q26, h⟩ := h
    refine go_lmul (show decode cX10_before 122 = .ok (.lmul, 1) by decide +kernel) q26 ?_
    obtain ⟨q27, h⟩ := h
    refine go_ladd (show decode cX10_before 123 = .ok (.ladd, 1) by decide +kernel) q27 ?_
    obtain ⟨x28, x28e⟩ : ∃ x28 : Int, x28 = a7 + (((G 58 ((6912 * a1) + z8)) * z17) * z24) := ⟨_, rfl⟩
    have h := h x28 x28e
    rw [← x28e]
    refine go_lstore (show decode cX10_before 124 = .ok (.lstore 7, 2) by decide +kernel) (by decide) ?_
    show Go d MX10_before 126 [some (vR 53), some (vI a1), some (vI a2), some (vI a3), some (vI a4), some (vI a5), some (vI a6), some (vJ x28), none, some (vI a9), some (vI a10)] [] S F G Q
    obtain ⟨q29, h⟩ := h
    refine go_iinc (show decode cX10_before 126 = .ok (.iinc 10 1, 3) by decide +kernel) (by rfl) q29 (by decide) ?_
    show Go d MX10_before 129 [some (vR 53), some (vI a1), some (vI a2), some (vI a3), some (vI a4), some (vI a5), some (vI a6), some (vJ x28), none, some (vI a9), some (vI (a10 + 1))] [] S F G Q
    refine go_goto (tgt := 66) (show decode cX10_before 129 = .ok (.goto (-63), 3) by decide +kernel) (by decide) ?_
    exact h
def V_X10_before_52 (d : Nat) (S : AS) (F : AF) (G : AG) (Q : AQ) (a1 : Int) (a2 : Int) (a3 : Int) (a4 : Int) (a5 : Int) (a6 : Int) (a7 : Int) (a9 : Int) : Prop :=
  ((G 55 0 ≤ a9) →
    Q (some (vJ a7)) S F G) ∧
  ((¬ G 55 0 ≤ a9) →
    Go d MX10_before 66 [some (vR 53), some (vI a1), some (vI a2), some (vI a3), some (vI a4), some (vI a5), some (vI a6), some (vJ a7), none, some (vI a9), some (vI 0)] [] S F G Q)
theorem R_X10_before_52 {d : Nat} {S : AS} {F : AF} {G : AG} {Q : AQ} {a1 : Int} {a2 : Int} {a3 : Int} {a4 : Int} {a5 : Int} {a6 : Int} {a7 : Int} {a9 : Int} (hsm : ShM S) (h : V_X10_before_52 d S F G Q a1 a2 a3 a4 a5 a6 a7 a9) : Go d MX10_before 52 [some (vR 53), some (vI a1), some (vI a2), some (vI a3), some (vI a4), some (vI a5), some (vI a6), some (vJ a7), none, some (vI a9), none] [] S F G Q := by
  unfold V_X10_before_52 at h
  refine go_iload (show decode cX10_before 52 = .ok (.iload 9, 2) by decide +kernel) (by rfl) ?_
  refine go_aload_n (show decode cX10_before 54 = .ok (.aload_n 0, 1) by decide +kernel) (by rfl) ?_
  refine go_getRc (show decode cX10_before 55 = .ok (.getfield 29, 3) by decide +kernel) fl_X10_29 rfl (shm_k hsm 53 (by decide) (by decide)) (v := 55) (shm_r hsm 53 5 (by decide) (by decide)) ?_
  refine go_iconst (show decode cX10_before 58 = .ok (.iconst 0, 1) by decide +kernel) (by decide) ?_
  refine go_iaload (show decode cX10_before 59 = .ok (.iaload, 1) by decide +kernel) (shm_k hsm 55 (by decide) (by decide)) (by decide) (lt_n (m := 2) (by decide) (shm_n hsm 55 (by decide) (by decide))) ?_
  obtain ⟨ht, hf⟩ := h
  refine go_icmpge (tgt := 138) (show decode cX10_before 60 = .ok (.if_icmp .ge 78, 3) by decide +kernel) (by decide) (fun hc => ?_) (fun hc => ?_)
  · have h := ht hc
    refine go_lload (show decode cX10_before 138 = .ok (.lload 7, 2) by decide +kernel) (by rfl) ?_
    exact go_lret (show decode cX10_before 140 = .ok (.lreturn, 1) by decide +kernel) rfl h
  · have h := hf hc
    refine go_iconst (show decode cX10_before 63 = .ok (.iconst 0, 1) by decide +kernel) (by decide) ?_
    refine go_istore (show decode cX10_before 64 = .ok (.istore 10, 2) by decide +kernel) (by decide) ?_
    show Go d MX10_before 66 [some (vR 53), some (vI a1), some (vI a2), some (vI a3), some (vI a4), some (vI a5), some (vI a6), some (vJ a7), none, some (vI a9), some (vI 0)] [] S F G Q
    exact h
def V_X10_before_0 (d : Nat) (S : AS) (F : AF) (G : AG) (Q : AQ) (a1 : Int) (a2 : Int) (a3 : Int) (a4 : Int) (a5 : Int) (a6 : Int) : Prop :=
  ∀ F1 : AF, F1 = fu F 53 0 0 →
  (r32 ((F1 53 11) - 1)) ∧
  (1 ≤ d) ∧
  ∃ z8 : Int, Pu (d - 1) MX10_isIn [vJ a1, vJ 0, vJ ((F1 53 11) - 1)] S F1 G (some (vI z8)) ∧
  ((z8 = 0) →
    Q (some (vJ (-2))) S F1 G) ∧
  ((¬ z8 = 0) →
    ∃ z14 : Int, Pu (d - 1) MX10_isGood [vI a2] S F1 G (some (vI z14)) ∧
    ((z14 = 0) →
      Q (some (vJ (-2))) S F1 G) ∧
    ((¬ z14 = 0) →
      ∃ z20 : Int, Pu (d - 1) MX10_isRectangle [vR 53, vI a3, vI a4, vI a5, vI a6] S F1 G (some (vI z20)) ∧
      ((¬ z20 = 0) →
        Go d MX10_before 52 [some (vR 53), some (vI a1), some (vI a2), some (vI a3), some (vI a4), some (vI a5), some (vI a6), some (vJ 0), none, some (vI 0), none] [] S F1 G Q) ∧
      ((z20 = 0) →
        Q (some (vJ (-2))) S F1 G)))
theorem R_X10_before_0 {d : Nat} {S : AS} {F : AF} {G : AG} {Q : AQ} {a1 : Int} {a2 : Int} {a3 : Int} {a4 : Int} {a5 : Int} {a6 : Int} (hsm : ShM S) (h : V_X10_before_0 d S F G Q a1 a2 a3 a4 a5 a6) : Go d MX10_before 0 [some (vR 53), some (vI a1), some (vI a2), some (vI a3), some (vI a4), some (vI a5), some (vI a6), none, none, none, none] [] S F G Q := by
  unfold V_X10_before_0 at h
  refine go_aload_n (show decode cX10_before 0 = .ok (.aload_n 0, 1) by decide +kernel) (by rfl) ?_
  refine go_iconst (show decode cX10_before 1 = .ok (.iconst 0, 1) by decide +kernel) (by decide) ?_
  refine go_putI (show decode cX10_before 2 = .ok (.putfield 1, 3) by decide +kernel) fl_X10_1 rfl (Or.inl rfl) (shm_k hsm 53 (by decide) (by decide)) ?_
  obtain ⟨F1, F1e⟩ : ∃ F1 : AF, F1 = fu F 53 0 0 := ⟨_, rfl⟩
  have h := h F1 F1e
  rw [← F1e]
  refine go_iload_n (show decode cX10_before 5 = .ok (.iload_n 1, 1) by decide +kernel) (by rfl) ?_
  refine go_i2l (show decode cX10_before 6 = .ok (.i2l, 1) by decide +kernel) ?_
  refine go_lconst (n := 0) (show decode cX10_before 7 = .ok (.lconst 0, 1) by decide +kernel) ?_
  show Go d MX10_before 8 [some (vR 53), some (vI a1), some (vI a2), some (vI a3), some (vI a4), some (vI a5), some (vI a6), none, none, none, none] [vJ 0, vJ a1] S F1 G Q
  refine go_aload_n (show decode cX10_before 8 = .ok (.aload_n 0, 1) by decide +kernel) (by rfl) ?_
  refine go_getI (show decode cX10_before 9 = .ok (.getfield 108, 3) by decide +kernel) fl_X10_108 (Or.inl rfl) (shm_k hsm 53 (by decide) (by decide)) ?_
  refine go_iconst (show decode cX10_before 12 = .ok (.iconst 1, 1) by decide +kernel) (by decide) ?_
  obtain ⟨q2, h⟩ := h
  refine go_isub (show decode cX10_before 13 = .ok (.isub, 1) by decide +kernel) q2 ?_
  refine go_i2l (show decode cX10_before 14 = .ok (.i2l, 1) by decide +kernel) ?_
  obtain ⟨q3, h⟩ := h
  obtain ⟨z8, p9, h⟩ := h
  refine go_callS (d2 := d - 1) (M2 := MX10_isIn) (n := 3) (av := [vJ a1, vJ 0, vJ ((F1 53 11) - 1)]) (st := []) (show decode cX10_before 15 = .ok (.invokestatic 116, 3) by decide +kernel) ml_X10_116 mt_X10_isIn mst_X10_isIn rfl (Nat.le_of_ble_eq_true rfl) (by omega) (ok_mono p9 (fun w4 S5 F6 G7 e9 => ?_))
  obtain ⟨e1, e2, e3, e4⟩ := e9
  subst e1
  replace e2 := e2.symm; subst e2
  replace e3 := e3.symm; subst e3
  replace e4 := e4.symm; subst e4
  show Go d MX10_before 18 [some (vR 53), some (vI a1), some (vI a2), some (vI a3), some (vI a4), some (vI a5), some (vI a6), none, none, none, none] [vI z8] S F1 G Q
  obtain ⟨ht, hf⟩ := h
  refine go_ifeq (tgt := 42) (show decode cX10_before 18 = .ok (.ifCond .eq 24, 3) by decide +kernel) (by decide) (fun hc => ?_) (fun hc => ?_)
  · have h := ht hc
    refine go_ldc2 (show decode cX10_before 42 = .ok (.ldc2_w 174, 3) by decide +kernel) lc_X10_174 (by decide) ?_
    exact go_lret (show decode cX10_before 45 = .ok (.lreturn, 1) by decide +kernel) rfl h
  · have h := hf hc
    refine go_iload_n (show decode cX10_before 21 = .ok (.iload_n 2, 1) by decide +kernel) (by rfl) ?_
    obtain ⟨z14, p15, h⟩ := h
    refine go_callS (d2 := d - 1) (M2 := MX10_isGood) (n := 1) (av := [vI a2]) (st := []) (show decode cX10_before 22 = .ok (.invokestatic 167, 3) by decide +kernel) ml_X10_167 mt_X10_isGood mst_X10_isGood rfl (Nat.le_of_ble_eq_true rfl) (by omega) (ok_mono p15 (fun w10 S11 F12 G13 e9 => ?_))
    obtain ⟨e1, e2, e3, e4⟩ := e9
    subst e1
    replace e2 := e2.symm; subst e2
    replace e3 := e3.symm; subst e3
    replace e4 := e4.symm; subst e4
    show Go d MX10_before 25 [some (vR 53), some (vI a1), some (vI a2), some (vI a3), some (vI a4), some (vI a5), some (vI a6), none, none, none, none] [vI z14] S F1 G Q
    obtain ⟨ht, hf⟩ := h
    refine go_ifeq (tgt := 42) (show decode cX10_before 25 = .ok (.ifCond .eq 17, 3) by decide +kernel) (by decide) (fun hc => ?_) (fun hc => ?_)
    · have h := ht hc
      refine go_ldc2 (show decode cX10_before 42 = .ok (.ldc2_w 174, 3) by decide +kernel) lc_X10_174 (by decide) ?_
      exact go_lret (show decode cX10_before 45 = .ok (.lreturn, 1) by decide +kernel) rfl h
    · have h := hf hc
      refine go_aload_n (show decode cX10_before 28 = .ok (.aload_n 0, 1) by decide +kernel) (by rfl) ?_
      refine go_iload_n (show decode cX10_before 29 = .ok (.iload_n 3, 1) by decide +kernel) (by rfl) ?_
      refine go_iload (show decode cX10_before 30 = .ok (.iload 4, 2) by decide +kernel) (by rfl) ?_
      refine go_iload (show decode cX10_before 32 = .ok (.iload 5, 2) by decide +kernel) (by rfl) ?_
      refine go_iload (show decode cX10_before 34 = .ok (.iload 6, 2) by decide +kernel) (by rfl) ?_
      obtain ⟨z20, p21, h⟩ := h
      refine go_callV (d2 := d - 1) (M2 := MX10_isRectangle) (n := 4) (ci := 10) (av := [vI a3, vI a4, vI a5, vI a6]) (st := []) (show decode cX10_before 36 = .ok (.invokevirtual 170, 3) by decide +kernel) ml_X10_170 mt_X10_isRectangle min_X10_isRectangle mse_X10_isRectangle (by decide) (shm_k hsm 53 (by decide) (by decide)) rfl (Nat.le_of_ble_eq_true rfl) (by omega) (ok_mono p21 (fun w16 S17 F18 G19 e9 => ?_))
      obtain ⟨e1, e2, e3, e4⟩ := e9
      subst e1
      replace e2 := e2.symm; subst e2
      replace e3 := e3.symm; subst e3
      replace e4 := e4.symm; subst e4
      show Go d MX10_before 39 [some (vR 53), some (vI a1), some (vI a2), some (vI a3), some (vI a4), some (vI a5), some (vI a6), none, none, none, none] [vI z20] S F1 G Q
      obtain ⟨ht, hf⟩ := h
      refine go_ifne (tgt := 46) (show decode cX10_before 39 = .ok (.ifCond .ne 7, 3) by decide +kernel) (by decide) (fun hc => ?_) (fun hc => ?_)
      · have h := ht hc
        refine go_lconst (n := 0) (show decode cX10_before 46 = .ok (.lconst 0, 1) by decide +kernel) ?_
        show Go d MX10_before 47 [some (vR 53), some (vI a1), some (vI a2), some (vI a3), some (vI a4), some (vI a5), some (vI a6), none, none, none, none] [vJ 0] S F1 G Q
        refine go_lstore (show decode cX10_before 47 = .ok (.lstore 7, 2) by decide +kernel) (by decide) ?_
        show Go d MX10_before 49 [some (vR 53), some (vI a1), some (vI a2), some (vI a3), some (vI a4), some (vI a5), some (vI a6), some (vJ 0), none, none, none] [] S F1 G Q
        refine go_iconst (show decode cX10_before 49 = .ok (.iconst 0, 1) by decide +kernel) (by decide) ?_
        refine go_istore (show decode cX10_before 50 = .ok (.istore 9, 2) by decide +kernel) (by decide) ?_
        show Go d MX10_before 52 [some (vR 53), some (vI a1), some (vI a2), some (vI a3), some (vI a4), some (vI a5), some (vI a6), some (vJ 0), none, some (vI 0), none] [] S F1 G Q
        exact h
      · have h := hf hc
        refine go_ldc2 (show decode cX10_before 42 = .ok (.ldc2_w 174, 3) by decide +kernel) lc_X10_174 (by decide) ?_
        exact go_lret (show decode cX10_before 45 = .ok (.lreturn, 1) by decide +kernel) rfl h
