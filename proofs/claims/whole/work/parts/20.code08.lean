def V_X10_peek_0 (d : Nat) (S : AS) (F : AF) (G : AG) (Q : AQ) (a0 : Nat) : Prop :=
  (sK S a0 = 10) ∧
  ((F a0 35 ≤ F a0 36) →
    Q (some (vI (-1))) S F G) ∧
  ((¬ F a0 35 ≤ F a0 36) →
    (sK S (sR S a0 33) = 22) ∧
    ((0 : Int) ≤ F a0 36) ∧
    ((F a0 36 : Int) < (sN S (sR S a0 33) : Int)) ∧
    Q (some (vI (bAnd (G (sR S a0 33) (F a0 36)) 255))) S F G)
theorem R_X10_peek_0 {d : Nat} {S : AS} {F : AF} {G : AG} {Q : AQ} {a0 : Nat} (h : V_X10_peek_0 d S F G Q a0) : Go d MX10_peek 0 [some (vR a0)] [] S F G Q := by
  unfold V_X10_peek_0 at h
  refine go_aload_n (show decode cX10_peek 0 = .ok (.aload_n 0, 1) by decide +kernel) (by rfl) ?_
  obtain ⟨q1, h⟩ := h
  refine go_getI (show decode cX10_peek 1 = .ok (.getfield 316, 3) by decide +kernel) fl_X10_316 (Or.inl rfl) q1 ?_
  refine go_aload_n (show decode cX10_peek 4 = .ok (.aload_n 0, 1) by decide +kernel) (by rfl) ?_
  refine go_getI (show decode cX10_peek 5 = .ok (.getfield 319, 3) by decide +kernel) fl_X10_319 (Or.inl rfl) q1 ?_
  obtain ⟨ht, hf⟩ := h
  refine go_icmpge (tgt := 27) (show decode cX10_peek 8 = .ok (.if_icmp .ge 19, 3) by decide +kernel) (by decide) (fun hc => ?_) (fun hc => ?_)
  · have h := ht hc
    refine go_iconst (show decode cX10_peek 27 = .ok (.iconst (-1), 1) by decide +kernel) (by decide) ?_
    exact go_iret (show decode cX10_peek 28 = .ok (.ireturn, 1) by decide +kernel) rfl h
  · have h := hf hc
    refine go_aload_n (show decode cX10_peek 11 = .ok (.aload_n 0, 1) by decide +kernel) (by rfl) ?_
    refine go_getR (show decode cX10_peek 12 = .ok (.getfield 83, 3) by decide +kernel) fl_X10_83 rfl q1 ?_
    refine go_aload_n (show decode cX10_peek 15 = .ok (.aload_n 0, 1) by decide +kernel) (by rfl) ?_
    refine go_getI (show decode cX10_peek 16 = .ok (.getfield 316, 3) by decide +kernel) fl_X10_316 (Or.inl rfl) q1 ?_
    obtain ⟨q2, h⟩ := h
    obtain ⟨q3, h⟩ := h
    obtain ⟨q4, h⟩ := h
    refine go_baload (show decode cX10_peek 19 = .ok (.baload, 1) by decide +kernel) q2 q3 q4 ?_
    refine go_sipush (show decode cX10_peek 20 = .ok (.sipush 255, 3) by decide +kernel) (by decide) ?_
    refine go_iand (show decode cX10_peek 23 = .ok (.iand, 1) by decide +kernel) ?_
    refine go_goto (tgt := 28) (show decode cX10_peek 24 = .ok (.goto 4, 3) by decide +kernel) (by decide) ?_
    exact go_iret (show decode cX10_peek 28 = .ok (.ireturn, 1) by decide +kernel) rfl h
def V_X10_readAct_242 (d : Nat) (S : AS) (F : AF) (G : AG) (Q : AQ) (a0 : Nat) (a1 : Int) (a2 : Int) (a3 : Int) : Prop :=
  (sK S a0 = 10) ∧
  (r32 ((F a0 36) + 1)) ∧
  ∀ F3 : AF, F3 = fu F a0 36 ((F a0 36) + 1) →
  (r32 ((F3 a0 41) + 1)) ∧
  ∀ F5 : AF, F5 = fu F3 a0 41 ((F3 a0 41) + 1) →
  Q none S F5 G
theorem R_X10_readAct_242 {d : Nat} {S : AS} {F : AF} {G : AG} {Q : AQ} {a0 : Nat} {a1 : Int} {a2 : Int} {a3 : Int} (h : V_X10_readAct_242 d S F G Q a0 a1 a2 a3) : Go d MX10_readAct 242 [some (vR a0), some (vI a1), some (vI a2), some (vI a3), none, none] [] S F G Q := by
  unfold V_X10_readAct_242 at h
  refine go_aload_n (show decode cX10_readAct 242 = .ok (.aload_n 0, 1) by decide +kernel) (by rfl) ?_
  refine go_dup (show decode cX10_readAct 243 = .ok (.dup, 1) by decide +kernel) ?_
  obtain ⟨q1, h⟩ := h
  refine go_getI (show decode cX10_readAct 244 = .ok (.getfield 316, 3) by decide +kernel) fl_X10_316 (Or.inl rfl) q1 ?_
  refine go_iconst (show decode cX10_readAct 247 = .ok (.iconst 1, 1) by decide +kernel) (by decide) ?_
  obtain ⟨q2, h⟩ := h
  refine go_iadd (show decode cX10_readAct 248 = .ok (.iadd, 1) by decide +kernel) q2 ?_
  refine go_putI (show decode cX10_readAct 249 = .ok (.putfield 316, 3) by decide +kernel) fl_X10_316 rfl (Or.inl rfl) q1 ?_
  obtain ⟨F3, F3e⟩ : ∃ F3 : AF, F3 = fu F a0 36 ((F a0 36) + 1) := ⟨_, rfl⟩
  have h := h F3 F3e
  rw [← F3e]
  refine go_aload_n (show decode cX10_readAct 252 = .ok (.aload_n 0, 1) by decide +kernel) (by rfl) ?_
  refine go_dup (show decode cX10_readAct 253 = .ok (.dup, 1) by decide +kernel) ?_
  refine go_getI (show decode cX10_readAct 254 = .ok (.getfield 366, 3) by decide +kernel) fl_X10_366 (Or.inl rfl) q1 ?_
  refine go_iconst (show decode cX10_readAct 257 = .ok (.iconst 1, 1) by decide +kernel) (by decide) ?_
  obtain ⟨q4, h⟩ := h
  refine go_iadd (show decode cX10_readAct 258 = .ok (.iadd, 1) by decide +kernel) q4 ?_
  refine go_putI (show decode cX10_readAct 259 = .ok (.putfield 366, 3) by decide +kernel) fl_X10_366 rfl (Or.inl rfl) q1 ?_
  obtain ⟨F5, F5e⟩ : ∃ F5 : AF, F5 = fu F3 a0 41 ((F3 a0 41) + 1) := ⟨_, rfl⟩
  have h := h F5 F5e
  rw [← F5e]
  exact go_vret (show decode cX10_readAct 262 = .ok (.return_, 1) by decide +kernel) rfl h
def V_X10_readAct_213 (d : Nat) (S : AS) (F : AF) (G : AG) (Q : AQ) (a0 : Nat) (a1 : Int) (a2 : Int) (a3 : Int) : Prop :=
  (1 ≤ d) ∧
  (sK S a0 = 10) ∧
  Ok (d - 1) MX10_blanks [vR a0] S F G (fun w2 S3 F4 G5 =>
  w2 = none ∧
  (sK S3 a0 = 10) ∧
  ((¬ F4 a0 37 = 0) →
    V_X10_readAct_242 d S3 F4 G5 Q a0 a1 a2 a3) ∧
  ((F4 a0 37 = 0) →
    Ok (d - 1) MX10_peek [vR a0] S3 F4 G5 (fun w8 S9 F10 G11 =>
    ∃ z12 : Int, w8 = some (vI z12) ∧
    ((z12 = 59) →
      V_X10_readAct_242 d S9 F10 G11 Q a0 a1 a2 a3) ∧
    ((¬ z12 = 59) →
      (sK S9 a0 = 10) ∧
      Ok (d - 1) MX10_fails [vR a0, vI 1, vI (F10 a0 36)] S9 F10 G11 (fun w14 S15 F16 G17 =>
      w14 = none ∧
      V_X10_readAct_242 d S15 F16 G17 Q a0 a1 a2 a3)))))
theorem R_X10_readAct_213 {d : Nat} {S : AS} {F : AF} {G : AG} {Q : AQ} {a0 : Nat} {a1 : Int} {a2 : Int} {a3 : Int} (h : V_X10_readAct_213 d S F G Q a0 a1 a2 a3) : Go d MX10_readAct 213 [some (vR a0), some (vI a1), some (vI a2), some (vI a3), none, none] [] S F G Q := by
  unfold V_X10_readAct_213 at h
  refine go_aload_n (show decode cX10_readAct 213 = .ok (.aload_n 0, 1) by decide +kernel) (by rfl) ?_
  obtain ⟨q1, h⟩ := h
  obtain ⟨q6, h⟩ := h
  refine go_callV (d2 := d - 1) (M2 := MX10_blanks) (n := 0) (ci := 10) (av := []) (st := []) (show decode cX10_readAct 214 = .ok (.invokevirtual 329, 3) by decide +kernel) ml_X10_329 mt_X10_blanks min_X10_blanks mse_X10_blanks (by decide) q6 rfl (Nat.le_of_ble_eq_true rfl) (by omega) (ok_mono h (fun w2 S3 F4 G5 h => ?_))
  obtain ⟨e9, h⟩ := h
  subst e9
  show Go d MX10_readAct 217 [some (vR a0), some (vI a1), some (vI a2), some (vI a3), none, none] [] S3 F4 G5 Q
  refine go_aload_n (show decode cX10_readAct 217 = .ok (.aload_n 0, 1) by decide +kernel) (by rfl) ?_
  obtain ⟨q7, h⟩ := h
  refine go_getI (show decode cX10_readAct 218 = .ok (.getfield 322, 3) by decide +kernel) fl_X10_322 (Or.inl rfl) q7 ?_
  obtain ⟨ht, hf⟩ := h
  refine go_ifne (tgt := 242) (show decode cX10_readAct 221 = .ok (.ifCond .ne 21, 3) by decide +kernel) (by decide) (fun hc => ?_) (fun hc => ?_)
  · have h := ht hc
    exact R_X10_readAct_242 h
  · have h := hf hc
    refine go_aload_n (show decode cX10_readAct 224 = .ok (.aload_n 0, 1) by decide +kernel) (by rfl) ?_
    refine go_callV (d2 := d - 1) (M2 := MX10_peek) (n := 0) (ci := 10) (av := []) (st := []) (show decode cX10_readAct 225 = .ok (.invokevirtual 325, 3) by decide +kernel) ml_X10_325 mt_X10_peek min_X10_peek mse_X10_peek (by decide) q7 rfl (Nat.le_of_ble_eq_true rfl) (by omega) (ok_mono h (fun w8 S9 F10 G11 h => ?_))
    obtain ⟨z12, e9, h⟩ := h
    subst e9
    show Go d MX10_readAct 228 [some (vR a0), some (vI a1), some (vI a2), some (vI a3), none, none] [vI z12] S9 F10 G11 Q
    refine go_bipush (show decode cX10_readAct 228 = .ok (.bipush 59, 2) by decide +kernel) (by decide) ?_
    obtain ⟨ht, hf⟩ := h
    refine go_icmpeq (tgt := 242) (show decode cX10_readAct 230 = .ok (.if_icmp .eq 12, 3) by decide +kernel) (by decide) (fun hc => ?_) (fun hc => ?_)
    · have h := ht hc
      exact R_X10_readAct_242 h
    · have h := hf hc
      refine go_aload_n (show decode cX10_readAct 233 = .ok (.aload_n 0, 1) by decide +kernel) (by rfl) ?_
      refine go_iconst (show decode cX10_readAct 234 = .ok (.iconst 1, 1) by decide +kernel) (by decide) ?_
      refine go_aload_n (show decode cX10_readAct 235 = .ok (.aload_n 0, 1) by decide +kernel) (by rfl) ?_
      obtain ⟨q13, h⟩ := h
      refine go_getI (show decode cX10_readAct 236 = .ok (.getfield 316, 3) by decide +kernel) fl_X10_316 (Or.inl rfl) q13 ?_
      refine go_callV (d2 := d - 1) (M2 := MX10_fails) (n := 2) (ci := 10) (av := [vI 1, vI (F10 a0 36)]) (st := []) (show decode cX10_readAct 239 = .ok (.invokevirtual 360, 3) by decide +kernel) ml_X10_360 mt_X10_fails min_X10_fails mse_X10_fails (by decide) q13 rfl (Nat.le_of_ble_eq_true rfl) (by omega) (ok_mono h (fun w14 S15 F16 G17 h => ?_))
      obtain ⟨e9, h⟩ := h
      subst e9
      show Go d MX10_readAct 242 [some (vR a0), some (vI a1), some (vI a2), some (vI a3), none, none] [] S15 F16 G17 Q
      exact R_X10_readAct_242 h
def V_X10_readAct_212 (d : Nat) (S : AS) (F : AF) (G : AG) (Q : AQ) (a0 : Nat) (a1 : Int) (a2 : Int) (a3 : Int) (a4 : Int) (s0 : Int) (s1 : Int) (s2 : Nat) : Prop :=
  (sK S s2 = 21) ∧
  ((0 : Int) ≤ s1) ∧
  ((s1 : Int) < (sN S s2 : Int)) ∧
  ∀ G4 : AG, G4 = gu G s2 s1 s0 →
  V_X10_readAct_213 d S F G4 Q a0 a1 a2 a3
theorem R_X10_readAct_212 {d : Nat} {S : AS} {F : AF} {G : AG} {Q : AQ} {a0 : Nat} {a1 : Int} {a2 : Int} {a3 : Int} {a4 : Int} {s0 : Int} {s1 : Int} {s2 : Nat} (h : V_X10_readAct_212 d S F G Q a0 a1 a2 a3 a4 s0 s1 s2) : Go d MX10_readAct 212 [some (vR a0), some (vI a1), some (vI a2), some (vI a3), some (vJ a4), none] [vJ s0, vI s1, vR s2] S F G Q := by
  unfold V_X10_readAct_212 at h
  obtain ⟨q1, h⟩ := h
  obtain ⟨q2, h⟩ := h
  obtain ⟨q3, h⟩ := h
  refine go_lastore (show decode cX10_readAct 212 = .ok (.lastore, 1) by decide +kernel) q1 q2 q3  ?_
  obtain ⟨G4, G4e⟩ : ∃ G4 : AG, G4 = gu G s2 s1 s0 := ⟨_, rfl⟩
  have h := h G4 G4e
  rw [← G4e]
  refine go_clr 4 ?_
  exact R_X10_readAct_213 h
def V_X10_readAct_187 (d : Nat) (S : AS) (F : AF) (G : AG) (Q : AQ) (a0 : Nat) (a1 : Int) (a2 : Int) (a3 : Int) (s0 : Int) (s1 : Int) (s2 : Nat) : Prop :=
  (1 ≤ d) ∧
  (sK S s2 = 10) ∧
  Ok (d - 1) MX10_numeral [vR s2, vJ s1, vJ s0] S F G (fun w2 S3 F4 G5 =>
  ∃ z7 : Int, w2 = some (vJ z7) ∧
  (sK S3 a0 = 10) ∧
  (r32 (a2 + 6)) ∧
  ((a3 = 0) →
    V_X10_readAct_212 d S3 F4 G5 Q a0 a1 a2 a3 z7 z7 (a2 + 6) (sR S3 a0 40)) ∧
  ((¬ a3 = 0) →
    (r64 (-z7)) ∧
    V_X10_readAct_212 d S3 F4 G5 Q a0 a1 a2 a3 z7 (-z7) (a2 + 6) (sR S3 a0 40)))
theorem R_X10_readAct_187 {d : Nat} {S : AS} {F : AF} {G : AG} {Q : AQ} {a0 : Nat} {a1 : Int} {a2 : Int} {a3 : Int} {s0 : Int} {s1 : Int} {s2 : Nat} (h : V_X10_readAct_187 d S F G Q a0 a1 a2 a3 s0 s1 s2) : Go d MX10_readAct 187 [some (vR a0), some (vI a1), some (vI a2), some (vI a3), none, none] [vJ s0, vJ s1, vR s2] S F G Q := by
  unfold V_X10_readAct_187 at h
  obtain ⟨q1, h⟩ := h
  obtain ⟨q6, h⟩ := h
  refine go_callV (d2 := d - 1) (M2 := MX10_numeral) (n := 2) (ci := 10) (av := [vJ s1, vJ s0]) (st := []) (show decode cX10_readAct 187 = .ok (.invokevirtual 369, 3) by decide +kernel) ml_X10_369 mt_X10_numeral min_X10_numeral mse_X10_numeral (by decide) q6 rfl (Nat.le_of_ble_eq_true rfl) (by omega) (ok_mono h (fun w2 S3 F4 G5 h => ?_))
  obtain ⟨z7, e9, h⟩ := h
  subst e9
  show Go d MX10_readAct 190 [some (vR a0), some (vI a1), some (vI a2), some (vI a3), none, none] [vJ z7] S3 F4 G5 Q
  refine go_lstore (show decode cX10_readAct 190 = .ok (.lstore 4, 2) by decide +kernel) (by decide) ?_
  show Go d MX10_readAct 192 [some (vR a0), some (vI a1), some (vI a2), some (vI a3), some (vJ z7), none] [] S3 F4 G5 Q
  refine go_aload_n (show decode cX10_readAct 192 = .ok (.aload_n 0, 1) by decide +kernel) (by rfl) ?_
  obtain ⟨q8, h⟩ := h
  refine go_getR (show decode cX10_readAct 193 = .ok (.getfield 90, 3) by decide +kernel) fl_X10_90 rfl q8 ?_
  refine go_iload_n (show decode cX10_readAct 196 = .ok (.iload_n 2, 1) by decide +kernel) (by rfl) ?_
  refine go_bipush (show decode cX10_readAct 197 = .ok (.bipush 6, 2) by decide +kernel) (by decide) ?_
  obtain ⟨q9, h⟩ := h
  refine go_iadd (show decode cX10_readAct 199 = .ok (.iadd, 1) by decide +kernel) q9 ?_
  refine go_iload_n (show decode cX10_readAct 200 = .ok (.iload_n 3, 1) by decide +kernel) (by rfl) ?_
  obtain ⟨ht, hf⟩ := h
  refine go_ifeq (tgt := 210) (show decode cX10_readAct 201 = .ok (.ifCond .eq 9, 3) by decide +kernel) (by decide) (fun hc => ?_) (fun hc => ?_)
  · have h := ht hc
    refine go_lload (show decode cX10_readAct 210 = .ok (.lload 4, 2) by decide +kernel) (by rfl) ?_
    exact R_X10_readAct_212 h
  · have h := hf hc
    refine go_lload (show decode cX10_readAct 204 = .ok (.lload 4, 2) by decide +kernel) (by rfl) ?_
    obtain ⟨q10, h⟩ := h
    refine go_lneg (show decode cX10_readAct 206 = .ok (.lneg, 1) by decide +kernel) q10 ?_
    refine go_goto (tgt := 212) (show decode cX10_readAct 207 = .ok (.goto 5, 3) by decide +kernel) (by decide) ?_
    exact R_X10_readAct_212 h
def V_X10_readAct_167 (d : Nat) (S : AS) (F : AF) (G : AG) (Q : AQ) (a0 : Nat) (a1 : Int) (a2 : Int) (a3 : Int) : Prop :=
  ((2 ≤ a1) →
    V_X10_readAct_213 d S F G Q a0 a1 a2 a3) ∧
  ((¬ 2 ≤ a1) →
    ((¬ a1 = 0) →
      V_X10_readAct_187 d S F G Q a0 a1 a2 a3 3000000000000000000 1 a0) ∧
    ((a1 = 0) →
      V_X10_readAct_187 d S F G Q a0 a1 a2 a3 1000000000 1 a0))
theorem R_X10_readAct_167 {d : Nat} {S : AS} {F : AF} {G : AG} {Q : AQ} {a0 : Nat} {a1 : Int} {a2 : Int} {a3 : Int} (h : V_X10_readAct_167 d S F G Q a0 a1 a2 a3) : Go d MX10_readAct 167 [some (vR a0), some (vI a1), some (vI a2), some (vI a3), none, none] [] S F G Q := by
  unfold V_X10_readAct_167 at h
  refine go_iload_n (show decode cX10_readAct 167 = .ok (.iload_n 1, 1) by decide +kernel) (by rfl) ?_
  refine go_iconst (show decode cX10_readAct 168 = .ok (.iconst 2, 1) by decide +kernel) (by decide) ?_
  obtain ⟨ht, hf⟩ := h
  refine go_icmpge (tgt := 213) (show decode cX10_readAct 169 = .ok (.if_icmp .ge 44, 3) by decide +kernel) (by decide) (fun hc => ?_) (fun hc => ?_)
  · have h := ht hc
    exact R_X10_readAct_213 h
  · have h := hf hc
    refine go_aload_n (show decode cX10_readAct 172 = .ok (.aload_n 0, 1) by decide +kernel) (by rfl) ?_
    refine go_lconst (n := 1) (show decode cX10_readAct 173 = .ok (.lconst 1, 1) by decide +kernel) ?_
    show Go d MX10_readAct 174 [some (vR a0), some (vI a1), some (vI a2), some (vI a3), none, none] [vJ 1, vR a0] S F G Q
    refine go_iload_n (show decode cX10_readAct 174 = .ok (.iload_n 1, 1) by decide +kernel) (by rfl) ?_
    obtain ⟨ht, hf⟩ := h
    refine go_ifne (tgt := 184) (show decode cX10_readAct 175 = .ok (.ifCond .ne 9, 3) by decide +kernel) (by decide) (fun hc => ?_) (fun hc => ?_)
    · have h := ht hc
      refine go_ldc2 (show decode cX10_readAct 184 = .ok (.ldc2_w 198, 3) by decide +kernel) lc_X10_198 (by decide) ?_
      exact R_X10_readAct_187 h
    · have h := hf hc
      refine go_ldc2 (show decode cX10_readAct 178 = .ok (.ldc2_w 178, 3) by decide +kernel) lc_X10_178 (by decide) ?_
      refine go_goto (tgt := 187) (show decode cX10_readAct 181 = .ok (.goto 6, 3) by decide +kernel) (by decide) ?_
      exact R_X10_readAct_187 h
def V_X10_readAct_152 (d : Nat) (S : AS) (F : AF) (G : AG) (Q : AQ) (a0 : Nat) (a1 : Int) (a2 : Int) (a3 : Int) (s0 : Int) : Prop :=
  ((s0 = 0) →
    V_X10_readAct_167 d S F G Q a0 a1 a2 s0) ∧
  ((¬ s0 = 0) →
    (sK S a0 = 10) ∧
    (r32 ((F a0 36) + 1)) ∧
    ∀ F3 : AF, F3 = fu F a0 36 ((F a0 36) + 1) →
    V_X10_readAct_167 d S F3 G Q a0 a1 a2 s0)
theorem R_X10_readAct_152 {d : Nat} {S : AS} {F : AF} {G : AG} {Q : AQ} {a0 : Nat} {a1 : Int} {a2 : Int} {a3 : Int} {s0 : Int} (h : V_X10_readAct_152 d S F G Q a0 a1 a2 a3 s0) : Go d MX10_readAct 152 [some (vR a0), some (vI a1), some (vI a2), some (vI a3), none, none] [vI s0] S F G Q := by
  unfold V_X10_readAct_152 at h
  refine go_istore_n (show decode cX10_readAct 152 = .ok (.istore_n 3, 1) by decide +kernel) (by decide) ?_
  show Go d MX10_readAct 153 [some (vR a0), some (vI a1), some (vI a2), some (vI s0), none, none] [] S F G Q
  refine go_iload_n (show decode cX10_readAct 153 = .ok (.iload_n 3, 1) by decide +kernel) (by rfl) ?_
  obtain ⟨ht, hf⟩ := h
  refine go_ifeq (tgt := 167) (show decode cX10_readAct 154 = .ok (.ifCond .eq 13, 3) by decide +kernel) (by decide) (fun hc => ?_) (fun hc => ?_)
  · have h := ht hc
    exact R_X10_readAct_167 h
  · have h := hf hc
    refine go_aload_n (show decode cX10_readAct 157 = .ok (.aload_n 0, 1) by decide +kernel) (by rfl) ?_
    refine go_dup (show decode cX10_readAct 158 = .ok (.dup, 1) by decide +kernel) ?_
    obtain ⟨q1, h⟩ := h
    refine go_getI (show decode cX10_readAct 159 = .ok (.getfield 316, 3) by decide +kernel) fl_X10_316 (Or.inl rfl) q1 ?_
    refine go_iconst (show decode cX10_readAct 162 = .ok (.iconst 1, 1) by decide +kernel) (by decide) ?_
    obtain ⟨q2, h⟩ := h
    refine go_iadd (show decode cX10_readAct 163 = .ok (.iadd, 1) by decide +kernel) q2 ?_
    refine go_putI (show decode cX10_readAct 164 = .ok (.putfield 316, 3) by decide +kernel) fl_X10_316 rfl (Or.inl rfl) q1 ?_
    obtain ⟨F3, F3e⟩ : ∃ F3 : AF, F3 = fu F a0 36 ((F a0 36) + 1) := ⟨_, rfl⟩
    have h := h F3 F3e
    rw [← F3e]
    exact R_X10_readAct_167 h
def V_X10_readAct_151 (d : Nat) (S : AS) (F : AF) (G : AG) (Q : AQ) (a0 : Nat) (a1 : Int) (a2 : Int) (a3 : Int) : Prop :=
  V_X10_readAct_152 d S F G Q a0 a1 a2 a3 0
theorem R_X10_readAct_151 {d : Nat} {S : AS} {F : AF} {G : AG} {Q : AQ} {a0 : Nat} {a1 : Int} {a2 : Int} {a3 : Int} (h : V_X10_readAct_151 d S F G Q a0 a1 a2 a3) : Go d MX10_readAct 151 [some (vR a0), some (vI a1), some (vI a2), some (vI a3), none, none] [] S F G Q := by
  unfold V_X10_readAct_151 at h
  refine go_iconst (show decode cX10_readAct 151 = .ok (.iconst 0, 1) by decide +kernel) (by decide) ?_
  exact R_X10_readAct_152 h
def V_X10_readAct_123 (d : Nat) (S : AS) (F : AF) (G : AG) (Q : AQ) (a0 : Nat) (a1 : Int) (a2 : Int) (a3 : Int) : Prop :=
  (1 ≤ d) ∧
  (sK S a0 = 10) ∧
  Ok (d - 1) MX10_blanks [vR a0] S F G (fun w2 S3 F4 G5 =>
  w2 = none ∧
  ((¬ a1 = 0) →
    V_X10_readAct_151 d S3 F4 G5 Q a0 a1 a2 a3) ∧
  ((a1 = 0) →
    (sK S3 a0 = 10) ∧
    ((¬ F4 a0 37 = 0) →
      V_X10_readAct_151 d S3 F4 G5 Q a0 a1 a2 a3) ∧
    ((F4 a0 37 = 0) →
      Ok (d - 1) MX10_peek [vR a0] S3 F4 G5 (fun w8 S9 F10 G11 =>
      ∃ z12 : Int, w8 = some (vI z12) ∧
      ((¬ z12 = 45) →
        V_X10_readAct_151 d S9 F10 G11 Q a0 a1 a2 a3) ∧
      ((z12 = 45) →
        V_X10_readAct_152 d S9 F10 G11 Q a0 a1 a2 a3 1)))))
theorem R_X10_readAct_123 {d : Nat} {S : AS} {F : AF} {G : AG} {Q : AQ} {a0 : Nat} {a1 : Int} {a2 : Int} {a3 : Int} (h : V_X10_readAct_123 d S F G Q a0 a1 a2 a3) : Go d MX10_readAct 123 [some (vR a0), some (vI a1), some (vI a2), some (vI a3), none, none] [] S F G Q := by
  unfold V_X10_readAct_123 at h
  refine go_aload_n (show decode cX10_readAct 123 = .ok (.aload_n 0, 1) by decide +kernel) (by rfl) ?_
  obtain ⟨q1, h⟩ := h
  obtain ⟨q6, h⟩ := h
  refine go_callV (d2 := d - 1) (M2 := MX10_blanks) (n := 0) (ci := 10) (av := []) (st := []) (show decode cX10_readAct 124 = .ok (.invokevirtual 329, 3) by decide +kernel) ml_X10_329 mt_X10_blanks min_X10_blanks mse_X10_blanks (by decide) q6 rfl (Nat.le_of_ble_eq_true rfl) (by omega) (ok_mono h (fun w2 S3 F4 G5 h => ?_))
  obtain ⟨e9, h⟩ := h
  subst e9
  show Go d MX10_readAct 127 [some (vR a0), some (vI a1), some (vI a2), some (vI a3), none, none] [] S3 F4 G5 Q
  refine go_iload_n (show decode cX10_readAct 127 = .ok (.iload_n 1, 1) by decide +kernel) (by rfl) ?_
  obtain ⟨ht, hf⟩ := h
  refine go_ifne (tgt := 151) (show decode cX10_readAct 128 = .ok (.ifCond .ne 23, 3) by decide +kernel) (by decide) (fun hc => ?_) (fun hc => ?_)
  · have h := ht hc
    exact R_X10_readAct_151 h
  · have h := hf hc
    refine go_aload_n (show decode cX10_readAct 131 = .ok (.aload_n 0, 1) by decide +kernel) (by rfl) ?_
    obtain ⟨q7, h⟩ := h
    refine go_getI (show decode cX10_readAct 132 = .ok (.getfield 322, 3) by decide +kernel) fl_X10_322 (Or.inl rfl) q7 ?_
    obtain ⟨ht, hf⟩ := h
    refine go_ifne (tgt := 151) (show decode cX10_readAct 135 = .ok (.ifCond .ne 16, 3) by decide +kernel) (by decide) (fun hc => ?_) (fun hc => ?_)
    · have h := ht hc
      exact R_X10_readAct_151 h
    · have h := hf hc
      refine go_aload_n (show decode cX10_readAct 138 = .ok (.aload_n 0, 1) by decide +kernel) (by rfl) ?_
      refine go_callV (d2 := d - 1) (M2 := MX10_peek) (n := 0) (ci := 10) (av := []) (st := []) (show decode cX10_readAct 139 = .ok (.invokevirtual 325, 3) by decide +kernel) ml_X10_325 mt_X10_peek min_X10_peek mse_X10_peek (by decide) q7 rfl (Nat.le_of_ble_eq_true rfl) (by omega) (ok_mono h (fun w8 S9 F10 G11 h => ?_))
      obtain ⟨z12, e9, h⟩ := h
      subst e9
      show Go d MX10_readAct 142 [some (vR a0), some (vI a1), some (vI a2), some (vI a3), none, none] [vI z12] S9 F10 G11 Q
      refine go_bipush (show decode cX10_readAct 142 = .ok (.bipush 45, 2) by decide +kernel) (by decide) ?_
      obtain ⟨ht, hf⟩ := h
      refine go_icmpne (tgt := 151) (show decode cX10_readAct 144 = .ok (.if_icmp .ne 7, 3) by decide +kernel) (by decide) (fun hc => ?_) (fun hc => ?_)
      · have h := ht hc
        exact R_X10_readAct_151 h
      · have h := hf hc
        refine go_iconst (show decode cX10_readAct 147 = .ok (.iconst 1, 1) by decide +kernel) (by decide) ?_
        refine go_goto (tgt := 152) (show decode cX10_readAct 148 = .ok (.goto 4, 3) by decide +kernel) (by decide) ?_
        exact R_X10_readAct_152 h
def V_X10_readAct_113 (d : Nat) (S : AS) (F : AF) (G : AG) (Q : AQ) (a0 : Nat) (a1 : Int) (a2 : Int) (a3 : Int) (s0 : Int) (s1 : Int) (s2 : Nat) (s3 : Int) (s4 : Nat) : Prop :=
  (1 ≤ d) ∧
  (sK S s2 = 10) ∧
  Ok (d - 1) MX10_numeral [vR s2, vJ s1, vJ s0] S F G (fun w2 S3 F4 G5 =>
  ∃ z7 : Int, w2 = some (vJ z7) ∧
  (sK S3 s4 = 21) ∧
  ((0 : Int) ≤ s3) ∧
  ((s3 : Int) < (sN S3 s4 : Int)) ∧
  ∀ G11 : AG, G11 = gu G5 s4 s3 z7 →
  (r32 (a3 + 1)) ∧
  Go d MX10_readAct 79 [some (vR a0), some (vI a1), some (vI a2), some (vI (a3 + 1)), none, none] [] S3 F4 G11 Q)
theorem R_X10_readAct_113 {d : Nat} {S : AS} {F : AF} {G : AG} {Q : AQ} {a0 : Nat} {a1 : Int} {a2 : Int} {a3 : Int} {s0 : Int} {s1 : Int} {s2 : Nat} {s3 : Int} {s4 : Nat} (h : V_X10_readAct_113 d S F G Q a0 a1 a2 a3 s0 s1 s2 s3 s4) : Go d MX10_readAct 113 [some (vR a0), some (vI a1), some (vI a2), some (vI a3), none, none] [vJ s0, vJ s1, vR s2, vI s3, vR s4] S F G Q := by
  unfold V_X10_readAct_113 at h
  obtain ⟨q1, h⟩ := h
  obtain ⟨q6, h⟩ := h
  refine go_callV (d2 := d - 1) (M2 := MX10_numeral) (n := 2) (ci := 10) (av := [vJ s1, vJ s0]) (st := [vI s3, vR s4]) (show decode cX10_readAct 113 = .ok (.invokevirtual 369, 3) by decide +kernel) ml_X10_369 mt_X10_numeral min_X10_numeral mse_X10_numeral (by decide) q6 rfl (Nat.le_of_ble_eq_true rfl) (by omega) (ok_mono h (fun w2 S3 F4 G5 h => ?_))
  obtain ⟨z7, e9, h⟩ := h
  subst e9
  show Go d MX10_readAct 116 [some (vR a0), some (vI a1), some (vI a2), some (vI a3), none, none] [vJ z7, vI s3, vR s4] S3 F4 G5 Q
  obtain ⟨q8, h⟩ := h
  obtain ⟨q9, h⟩ := h
  obtain ⟨q10, h⟩ := h
  refine go_lastore (show decode cX10_readAct 116 = .ok (.lastore, 1) by decide +kernel) q8 q9 q10  ?_
  obtain ⟨G11, G11e⟩ : ∃ G11 : AG, G11 = gu G5 s4 s3 z7 := ⟨_, rfl⟩
  have h := h G11 G11e
  rw [← G11e]
  obtain ⟨q12, h⟩ := h
  refine go_iinc (show decode cX10_readAct 117 = .ok (.iinc 3 1, 3) by decide +kernel) (by rfl) q12 (by decide) ?_
  show Go d MX10_readAct 120 [some (vR a0), some (vI a1), some (vI a2), some (vI (a3 + 1)), none, none] [] S3 F4 G11 Q
  refine go_goto (tgt := 79) (show decode cX10_readAct 120 = .ok (.goto (-41), 3) by decide +kernel) (by decide) ?_
  exact h
def V_X10_readAct_79 (d : Nat) (S : AS) (F : AF) (G : AG) (Q : AQ) (a0 : Nat) (a1 : Int) (a2 : Int) (a3 : Int) : Prop :=
  ((5 ≤ a3) →
    V_X10_readAct_123 d S F G Q a0 a1 a2 a3) ∧
  ((¬ 5 ≤ a3) →
    ((2 ≤ a1) →
      V_X10_readAct_123 d S F G Q a0 a1 a2 a3) ∧
    ((¬ 2 ≤ a1) →
      (sK S a0 = 10) ∧
      (r32 (a2 + 1)) ∧
      (r32 ((a2 + 1) + a3)) ∧
      ((¬ a3 = 0) →
        V_X10_readAct_113 d S F G Q a0 a1 a2 a3 9999 0 a0 ((a2 + 1) + a3) (sR S a0 40)) ∧
      ((a3 = 0) →
        V_X10_readAct_113 d S F G Q a0 a1 a2 a3 2 0 a0 ((a2 + 1) + a3) (sR S a0 40))))
theorem R_X10_readAct_79 {d : Nat} {S : AS} {F : AF} {G : AG} {Q : AQ} {a0 : Nat} {a1 : Int} {a2 : Int} {a3 : Int} (h : V_X10_readAct_79 d S F G Q a0 a1 a2 a3) : Go d MX10_readAct 79 [some (vR a0), some (vI a1), some (vI a2), some (vI a3), none, none] [] S F G Q := by
  unfold V_X10_readAct_79 at h
  refine go_iload_n (show decode cX10_readAct 79 = .ok (.iload_n 3, 1) by decide +kernel) (by rfl) ?_
  refine go_iconst (show decode cX10_readAct 80 = .ok (.iconst 5, 1) by decide +kernel) (by decide) ?_
  obtain ⟨ht, hf⟩ := h
  refine go_icmpge (tgt := 123) (show decode cX10_readAct 81 = .ok (.if_icmp .ge 42, 3) by decide +kernel) (by decide) (fun hc => ?_) (fun hc => ?_)
  · have h := ht hc
    exact R_X10_readAct_123 h
  · have h := hf hc
    refine go_iload_n (show decode cX10_readAct 84 = .ok (.iload_n 1, 1) by decide +kernel) (by rfl) ?_
    refine go_iconst (show decode cX10_readAct 85 = .ok (.iconst 2, 1) by decide +kernel) (by decide) ?_
    obtain ⟨ht, hf⟩ := h
    refine go_icmpge (tgt := 123) (show decode cX10_readAct 86 = .ok (.if_icmp .ge 37, 3) by decide +kernel) (by decide) (fun hc => ?_) (fun hc => ?_)
    · have h := ht hc
      exact R_X10_readAct_123 h
    · have h := hf hc
      refine go_aload_n (show decode cX10_readAct 89 = .ok (.aload_n 0, 1) by decide +kernel) (by rfl) ?_
      obtain ⟨q1, h⟩ := h
      refine go_getR (show decode cX10_readAct 90 = .ok (.getfield 90, 3) by decide +kernel) fl_X10_90 rfl q1 ?_
      refine go_iload_n (show decode cX10_readAct 93 = .ok (.iload_n 2, 1) by decide +kernel) (by rfl) ?_
      refine go_iconst (show decode cX10_readAct 94 = .ok (.iconst 1, 1) by decide +kernel) (by decide) ?_
      obtain ⟨q2, h⟩ := h
      refine go_iadd (show decode cX10_readAct 95 = .ok (.iadd, 1) by decide +kernel) q2 ?_
      refine go_iload_n (show decode cX10_readAct 96 = .ok (.iload_n 3, 1) by decide +kernel) (by rfl) ?_
      obtain ⟨q3, h⟩ := h
      refine go_iadd (show decode cX10_readAct 97 = .ok (.iadd, 1) by decide +kernel) q3 ?_
      refine go_aload_n (show decode cX10_readAct 98 = .ok (.aload_n 0, 1) by decide +kernel) (by rfl) ?_
      refine go_lconst (n := 0) (show decode cX10_readAct 99 = .ok (.lconst 0, 1) by decide +kernel) ?_
      show Go d MX10_readAct 100 [some (vR a0), some (vI a1), some (vI a2), some (vI a3), none, none] [vJ 0, vR a0, vI ((a2 + 1) + a3), vR (sR S a0 40)] S F G Q
      refine go_iload_n (show decode cX10_readAct 100 = .ok (.iload_n 3, 1) by decide +kernel) (by rfl) ?_
      obtain ⟨ht, hf⟩ := h
      refine go_ifne (tgt := 110) (show decode cX10_readAct 101 = .ok (.ifCond .ne 9, 3) by decide +kernel) (by decide) (fun hc => ?_) (fun hc => ?_)
      · have h := ht hc
        refine go_ldc2 (show decode cX10_readAct 110 = .ok (.ldc2_w 277, 3) by decide +kernel) lc_X10_277 (by decide) ?_
        exact R_X10_readAct_113 h
      · have h := hf hc
        refine go_ldc2 (show decode cX10_readAct 104 = .ok (.ldc2_w 157, 3) by decide +kernel) lc_X10_157 (by decide) ?_
        refine go_goto (tgt := 113) (show decode cX10_readAct 107 = .ok (.goto 6, 3) by decide +kernel) (by decide) ?_
        exact R_X10_readAct_113 h
def V_X10_readAct_40 (d : Nat) (S : AS) (F : AF) (G : AG) (Q : AQ) (a0 : Nat) (a1 : Int) : Prop :=
  (sK S a0 = 10) ∧
  ((F a0 37 = 0) →
    (1 ≤ d) ∧
    Ok (d - 1) MX10_lettersHere [vR a0] S F G (fun w3 S4 F5 G6 =>
    ∃ z7 : Int, w3 = some (vI z7) ∧
    (r32 ((F a0 36) + z7)) ∧
    (sK S4 a0 = 10) ∧
    ∀ F10 : AF, F10 = fu F5 a0 36 ((F a0 36) + z7) →
    (r32 (7 * (F10 a0 41))) ∧
    ∀ x12 : Int, x12 = 7 * (F10 a0 41) →
    (sK S4 (sR S4 a0 40) = 21) ∧
    ((0 : Int) ≤ x12) ∧
    ((x12 : Int) < (sN S4 (sR S4 a0 40) : Int)) ∧
    ∀ G16 : AG, G16 = gu G6 (sR S4 a0 40) x12 a1 →
    Go d MX10_readAct 79 [some (vR a0), some (vI a1), some (vI x12), some (vI 0), none, none] [] S4 F10 G16 Q)) ∧
  ((¬ F a0 37 = 0) →
    Q none S F G)
theorem R_X10_readAct_40 {d : Nat} {S : AS} {F : AF} {G : AG} {Q : AQ} {a0 : Nat} {a1 : Int} (h : V_X10_readAct_40 d S F G Q a0 a1) : Go d MX10_readAct 40 [some (vR a0), some (vI a1), none, none, none, none] [] S F G Q := by
  unfold V_X10_readAct_40 at h
  refine go_aload_n (show decode cX10_readAct 40 = .ok (.aload_n 0, 1) by decide +kernel) (by rfl) ?_
  obtain ⟨q1, h⟩ := h
  refine go_getI (show decode cX10_readAct 41 = .ok (.getfield 322, 3) by decide +kernel) fl_X10_322 (Or.inl rfl) q1 ?_
  obtain ⟨ht, hf⟩ := h
  refine go_ifeq (tgt := 48) (show decode cX10_readAct 44 = .ok (.ifCond .eq 4, 3) by decide +kernel) (by decide) (fun hc => ?_) (fun hc => ?_)
  · have h := ht hc
    refine go_aload_n (show decode cX10_readAct 48 = .ok (.aload_n 0, 1) by decide +kernel) (by rfl) ?_
    refine go_dup (show decode cX10_readAct 49 = .ok (.dup, 1) by decide +kernel) ?_
    refine go_getI (show decode cX10_readAct 50 = .ok (.getfield 316, 3) by decide +kernel) fl_X10_316 (Or.inl rfl) q1 ?_
    refine go_aload_n (show decode cX10_readAct 53 = .ok (.aload_n 0, 1) by decide +kernel) (by rfl) ?_
    obtain ⟨q2, h⟩ := h
    refine go_callV (d2 := d - 1) (M2 := MX10_lettersHere) (n := 0) (ci := 10) (av := []) (st := [vI (F a0 36), vR a0]) (show decode cX10_readAct 54 = .ok (.invokevirtual 336, 3) by decide +kernel) ml_X10_336 mt_X10_lettersHere min_X10_lettersHere mse_X10_lettersHere (by decide) q1 rfl (Nat.le_of_ble_eq_true rfl) (by omega) (ok_mono h (fun w3 S4 F5 G6 h => ?_))
    obtain ⟨z7, e9, h⟩ := h
    subst e9
    show Go d MX10_readAct 57 [some (vR a0), some (vI a1), none, none, none, none] [vI z7, vI (F a0 36), vR a0] S4 F5 G6 Q
    obtain ⟨q8, h⟩ := h
    refine go_iadd (show decode cX10_readAct 57 = .ok (.iadd, 1) by decide +kernel) q8 ?_
    obtain ⟨q9, h⟩ := h
    refine go_putI (show decode cX10_readAct 58 = .ok (.putfield 316, 3) by decide +kernel) fl_X10_316 rfl (Or.inl rfl) q9 ?_
    obtain ⟨F10, F10e⟩ : ∃ F10 : AF, F10 = fu F5 a0 36 ((F a0 36) + z7) := ⟨_, rfl⟩
    have h := h F10 F10e
    rw [← F10e]
    refine go_bipush (show decode cX10_readAct 61 = .ok (.bipush 7, 2) by decide +kernel) (by decide) ?_
    refine go_aload_n (show decode cX10_readAct 63 = .ok (.aload_n 0, 1) by decide +kernel) (by rfl) ?_
    refine go_getI (show decode cX10_readAct 64 = .ok (.getfield 366, 3) by decide +kernel) fl_X10_366 (Or.inl rfl) q9 ?_
    obtain ⟨q11, h⟩ := h
    refine go_imul (show decode cX10_readAct 67 = .ok (.imul, 1) by decide +kernel) q11 ?_
    obtain ⟨x12, x12e⟩ : ∃ x12 : Int, x12 = 7 * (F10 a0 41) := ⟨_, rfl⟩
    have h := h x12 x12e
    rw [← x12e]
    refine go_istore_n (show decode cX10_readAct 68 = .ok (.istore_n 2, 1) by decide +kernel) (by decide) ?_
    show Go d MX10_readAct 69 [some (vR a0), some (vI a1), some (vI x12), none, none, none] [] S4 F10 G6 Q
    refine go_aload_n (show decode cX10_readAct 69 = .ok (.aload_n 0, 1) by decide +kernel) (by rfl) ?_
    refine go_getR (show decode cX10_readAct 70 = .ok (.getfield 90, 3) by decide +kernel) fl_X10_90 rfl q9 ?_
    refine go_iload_n (show decode cX10_readAct 73 = .ok (.iload_n 2, 1) by decide +kernel) (by rfl) ?_
    refine go_iload_n (show decode cX10_readAct 74 = .ok (.iload_n 1, 1) by decide +kernel) (by rfl) ?_
    refine go_i2l (show decode cX10_readAct 75 = .ok (.i2l, 1) by decide +kernel) ?_
    obtain ⟨q13, h⟩ := h
    obtain ⟨q14, h⟩ := h
    obtain ⟨q15, h⟩ := h
    refine go_lastore (show decode cX10_readAct 76 = .ok (.lastore, 1) by decide +kernel) q13 q14 q15  ?_
    obtain ⟨G16, G16e⟩ : ∃ G16 : AG, G16 = gu G6 (sR S4 a0 40) x12 a1 := ⟨_, rfl⟩
    have h := h G16 G16e
    rw [← G16e]
    refine go_iconst (show decode cX10_readAct 77 = .ok (.iconst 0, 1) by decide +kernel) (by decide) ?_
    refine go_istore_n (show decode cX10_readAct 78 = .ok (.istore_n 3, 1) by decide +kernel) (by decide) ?_
    show Go d MX10_readAct 79 [some (vR a0), some (vI a1), some (vI x12), some (vI 0), none, none] [] S4 F10 G16 Q
    exact h
  · have h := hf hc
    exact go_vret (show decode cX10_readAct 47 = .ok (.return_, 1) by decide +kernel) rfl h
def V_X10_readAct_0 (d : Nat) (S : AS) (F : AF) (G : AG) (Q : AQ) (a0 : Nat) : Prop :=
  (1 ≤ d) ∧
  (sK S a0 = 10) ∧
  Ok (d - 1) MX10_wordNext [vR a0] S F G (fun w2 S3 F4 G5 =>
  ∃ z7 : Int, w2 = some (vI z7) ∧
  ((¬ z7 = -1) →
    (sK S3 a0 = 10) ∧
    ((¬ F4 a0 41 = 30) →
      V_X10_readAct_40 d S3 F4 G5 Q a0 z7) ∧
    ((F4 a0 41 = 30) →
      Ok (d - 1) MX10_fails [vR a0, vI 3, vI (F4 a0 36)] S3 F4 G5 (fun w9 S10 F11 G12 =>
      w9 = none ∧
      V_X10_readAct_40 d S10 F11 G12 Q a0 z7))) ∧
  ((z7 = -1) →
    (sK S3 a0 = 10) ∧
    Ok (d - 1) MX10_fails [vR a0, vI 1, vI (F4 a0 36)] S3 F4 G5 (fun w14 S15 F16 G17 =>
    w14 = none ∧
    V_X10_readAct_40 d S15 F16 G17 Q a0 z7)))
theorem R_X10_readAct_0 {d : Nat} {S : AS} {F : AF} {G : AG} {Q : AQ} {a0 : Nat} (h : V_X10_readAct_0 d S F G Q a0) : Go d MX10_readAct 0 [some (vR a0), none, none, none, none, none] [] S F G Q := by
  unfold V_X10_readAct_0 at h
  refine go_aload_n (show decode cX10_readAct 0 = .ok (.aload_n 0, 1) by decide +kernel) (by rfl) ?_
  obtain ⟨q1, h⟩ := h
  obtain ⟨q6, h⟩ := h
  refine go_callV (d2 := d - 1) (M2 := MX10_wordNext) (n := 0) (ci := 10) (av := []) (st := []) (show decode cX10_readAct 1 = .ok (.invokevirtual 363, 3) by decide +kernel) ml_X10_363 mt_X10_wordNext min_X10_wordNext mse_X10_wordNext (by decide) q6 rfl (Nat.le_of_ble_eq_true rfl) (by omega) (ok_mono h (fun w2 S3 F4 G5 h => ?_))
  obtain ⟨z7, e9, h⟩ := h
  subst e9
  show Go d MX10_readAct 4 [some (vR a0), none, none, none, none, none] [vI z7] S3 F4 G5 Q
  refine go_istore_n (show decode cX10_readAct 4 = .ok (.istore_n 1, 1) by decide +kernel) (by decide) ?_
  show Go d MX10_readAct 5 [some (vR a0), some (vI z7), none, none, none, none] [] S3 F4 G5 Q
  refine go_iload_n (show decode cX10_readAct 5 = .ok (.iload_n 1, 1) by decide +kernel) (by rfl) ?_
  refine go_iconst (show decode cX10_readAct 6 = .ok (.iconst (-1), 1) by decide +kernel) (by decide) ?_
  obtain ⟨ht, hf⟩ := h
  refine go_icmpne (tgt := 22) (show decode cX10_readAct 7 = .ok (.if_icmp .ne 15, 3) by decide +kernel) (by decide) (fun hc => ?_) (fun hc => ?_)
  · have h := ht hc
    refine go_aload_n (show decode cX10_readAct 22 = .ok (.aload_n 0, 1) by decide +kernel) (by rfl) ?_
    obtain ⟨q8, h⟩ := h
    refine go_getI (show decode cX10_readAct 23 = .ok (.getfield 366, 3) by decide +kernel) fl_X10_366 (Or.inl rfl) q8 ?_
    refine go_bipush (show decode cX10_readAct 26 = .ok (.bipush 30, 2) by decide +kernel) (by decide) ?_
    obtain ⟨ht, hf⟩ := h
    refine go_icmpne (tgt := 40) (show decode cX10_readAct 28 = .ok (.if_icmp .ne 12, 3) by decide +kernel) (by decide) (fun hc => ?_) (fun hc => ?_)
    · have h := ht hc
      exact R_X10_readAct_40 h
    · have h := hf hc
      refine go_aload_n (show decode cX10_readAct 31 = .ok (.aload_n 0, 1) by decide +kernel) (by rfl) ?_
      refine go_iconst (show decode cX10_readAct 32 = .ok (.iconst 3, 1) by decide +kernel) (by decide) ?_
      refine go_aload_n (show decode cX10_readAct 33 = .ok (.aload_n 0, 1) by decide +kernel) (by rfl) ?_
      refine go_getI (show decode cX10_readAct 34 = .ok (.getfield 316, 3) by decide +kernel) fl_X10_316 (Or.inl rfl) q8 ?_
      refine go_callV (d2 := d - 1) (M2 := MX10_fails) (n := 2) (ci := 10) (av := [vI 3, vI (F4 a0 36)]) (st := []) (show decode cX10_readAct 37 = .ok (.invokevirtual 360, 3) by decide +kernel) ml_X10_360 mt_X10_fails min_X10_fails mse_X10_fails (by decide) q8 rfl (Nat.le_of_ble_eq_true rfl) (by omega) (ok_mono h (fun w9 S10 F11 G12 h => ?_))
      obtain ⟨e9, h⟩ := h
      subst e9
      show Go d MX10_readAct 40 [some (vR a0), some (vI z7), none, none, none, none] [] S10 F11 G12 Q
      exact R_X10_readAct_40 h
  · have h := hf hc
    refine go_aload_n (show decode cX10_readAct 10 = .ok (.aload_n 0, 1) by decide +kernel) (by rfl) ?_
    refine go_iconst (show decode cX10_readAct 11 = .ok (.iconst 1, 1) by decide +kernel) (by decide) ?_
    refine go_aload_n (show decode cX10_readAct 12 = .ok (.aload_n 0, 1) by decide +kernel) (by rfl) ?_
    obtain ⟨q13, h⟩ := h
    refine go_getI (show decode cX10_readAct 13 = .ok (.getfield 316, 3) by decide +kernel) fl_X10_316 (Or.inl rfl) q13 ?_
    refine go_callV (d2 := d - 1) (M2 := MX10_fails) (n := 2) (ci := 10) (av := [vI 1, vI (F4 a0 36)]) (st := []) (show decode cX10_readAct 16 = .ok (.invokevirtual 360, 3) by decide +kernel) ml_X10_360 mt_X10_fails min_X10_fails mse_X10_fails (by decide) q13 rfl (Nat.le_of_ble_eq_true rfl) (by omega) (ok_mono h (fun w14 S15 F16 G17 h => ?_))
    obtain ⟨e9, h⟩ := h
    subst e9
    show Go d MX10_readAct 19 [some (vR a0), some (vI z7), none, none, none, none] [] S15 F16 G17 Q
    refine go_goto (tgt := 40) (show decode cX10_readAct 19 = .ok (.goto 21, 3) by decide +kernel) (by decide) ?_
    exact R_X10_readAct_40 h
def V_X10_lettersHere_9 (d : Nat) (S : AS) (F : AF) (G : AG) (Q : AQ) (a0 : Nat) (a1 : Int) : Prop :=
  (sK S a0 = 10) ∧
  ((F a0 35 ≤ a1) →
    (r32 (a1 - (F a0 36))) ∧
    Q (some (vI (a1 - (F a0 36)))) S F G) ∧
  ((¬ F a0 35 ≤ a1) →
    (sK S (sR S a0 33) = 22) ∧
    ((0 : Int) ≤ a1) ∧
    ((a1 : Int) < (sN S (sR S a0 33) : Int)) ∧
    (1 ≤ d) ∧
    Ok (d - 1) MX10_isIn [vJ (G (sR S a0 33) a1), vJ 97, vJ 122] S F G (fun w7 S8 F9 G10 =>
    ∃ z11 : Int, w7 = some (vI z11) ∧
    ((z11 = 0) →
      (sK S8 a0 = 10) ∧
      (r32 (a1 - (F9 a0 36))) ∧
      Q (some (vI (a1 - (F9 a0 36)))) S8 F9 G10) ∧
    ((¬ z11 = 0) →
      (r32 (a1 + 1)) ∧
      Go d MX10_lettersHere 9 [some (vR a0), some (vI (a1 + 1))] [] S8 F9 G10 Q)))
theorem R_X10_lettersHere_9 {d : Nat} {S : AS} {F : AF} {G : AG} {Q : AQ} {a0 : Nat} {a1 : Int} (h : V_X10_lettersHere_9 d S F G Q a0 a1) : Go d MX10_lettersHere 9 [some (vR a0), some (vI a1)] [] S F G Q := by
  unfold V_X10_lettersHere_9 at h
  refine go_iload_n (show decode cX10_lettersHere 9 = .ok (.iload_n 1, 1) by decide +kernel) (by rfl) ?_
  refine go_aload_n (show decode cX10_lettersHere 10 = .ok (.aload_n 0, 1) by decide +kernel) (by rfl) ?_
  obtain ⟨q1, h⟩ := h
  refine go_getI (show decode cX10_lettersHere 11 = .ok (.getfield 319, 3) by decide +kernel) fl_X10_319 (Or.inl rfl) q1 ?_
  obtain ⟨ht, hf⟩ := h
  refine go_icmpge (tgt := 42) (show decode cX10_lettersHere 14 = .ok (.if_icmp .ge 28, 3) by decide +kernel) (by decide) (fun hc => ?_) (fun hc => ?_)
  · have h := ht hc
    refine go_iload_n (show decode cX10_lettersHere 42 = .ok (.iload_n 1, 1) by decide +kernel) (by rfl) ?_
    refine go_aload_n (show decode cX10_lettersHere 43 = .ok (.aload_n 0, 1) by decide +kernel) (by rfl) ?_
    refine go_getI (show decode cX10_lettersHere 44 = .ok (.getfield 316, 3) by decide +kernel) fl_X10_316 (Or.inl rfl) q1 ?_
    obtain ⟨q2, h⟩ := h
    refine go_isub (show decode cX10_lettersHere 47 = .ok (.isub, 1) by decide +kernel) q2 ?_
    exact go_iret (show decode cX10_lettersHere 48 = .ok (.ireturn, 1) by decide +kernel) rfl h
  · have h := hf hc
    refine go_aload_n (show decode cX10_lettersHere 17 = .ok (.aload_n 0, 1) by decide +kernel) (by rfl) ?_
    refine go_getR (show decode cX10_lettersHere 18 = .ok (.getfield 83, 3) by decide +kernel) fl_X10_83 rfl q1 ?_
    refine go_iload_n (show decode cX10_lettersHere 21 = .ok (.iload_n 1, 1) by decide +kernel) (by rfl) ?_
    obtain ⟨q3, h⟩ := h
    obtain ⟨q4, h⟩ := h
    obtain ⟨q5, h⟩ := h
    refine go_baload (show decode cX10_lettersHere 22 = .ok (.baload, 1) by decide +kernel) q3 q4 q5 ?_
    refine go_i2l (show decode cX10_lettersHere 23 = .ok (.i2l, 1) by decide +kernel) ?_
    refine go_ldc2 (show decode cX10_lettersHere 24 = .ok (.ldc2_w 332, 3) by decide +kernel) lc_X10_332 (by decide) ?_
    refine go_ldc2 (show decode cX10_lettersHere 27 = .ok (.ldc2_w 334, 3) by decide +kernel) lc_X10_334 (by decide) ?_
    obtain ⟨q6, h⟩ := h
    refine go_callS (d2 := d - 1) (M2 := MX10_isIn) (n := 3) (av := [vJ (G (sR S a0 33) a1), vJ 97, vJ 122]) (st := []) (show decode cX10_lettersHere 30 = .ok (.invokestatic 116, 3) by decide +kernel) ml_X10_116 mt_X10_isIn mst_X10_isIn rfl (Nat.le_of_ble_eq_true rfl) (by omega) (ok_mono h (fun w7 S8 F9 G10 h => ?_))
    obtain ⟨z11, e9, h⟩ := h
    subst e9
    show Go d MX10_lettersHere 33 [some (vR a0), some (vI a1)] [vI z11] S8 F9 G10 Q
    obtain ⟨ht, hf⟩ := h
    refine go_ifeq (tgt := 42) (show decode cX10_lettersHere 33 = .ok (.ifCond .eq 9, 3) by decide +kernel) (by decide) (fun hc => ?_) (fun hc => ?_)
    · have h := ht hc
      refine go_iload_n (show decode cX10_lettersHere 42 = .ok (.iload_n 1, 1) by decide +kernel) (by rfl) ?_
      refine go_aload_n (show decode cX10_lettersHere 43 = .ok (.aload_n 0, 1) by decide +kernel) (by rfl) ?_
      obtain ⟨q12, h⟩ := h
      refine go_getI (show decode cX10_lettersHere 44 = .ok (.getfield 316, 3) by decide +kernel) fl_X10_316 (Or.inl rfl) q12 ?_
      obtain ⟨q13, h⟩ := h
      refine go_isub (show decode cX10_lettersHere 47 = .ok (.isub, 1) by decide +kernel) q13 ?_
      exact go_iret (show decode cX10_lettersHere 48 = .ok (.ireturn, 1) by decide +kernel) rfl h
    · have h := hf hc
      obtain ⟨q14, h⟩ := h
      refine go_iinc (show decode cX10_lettersHere 36 = .ok (.iinc 1 1, 3) by decide +kernel) (by rfl) q14 (by decide) ?_
      show Go d MX10_lettersHere 39 [some (vR a0), some (vI (a1 + 1))] [] S8 F9 G10 Q
      refine go_goto (tgt := 9) (show decode cX10_lettersHere 39 = .ok (.goto (-30), 3) by decide +kernel) (by decide) ?_
      exact h
def V_X10_lettersHere_0 (d : Nat) (S : AS) (F : AF) (G : AG) (Q : AQ) (a0 : Nat) : Prop :=
  (1 ≤ d) ∧
  (sK S a0 = 10) ∧
  Ok (d - 1) MX10_blanks [vR a0] S F G (fun w2 S3 F4 G5 =>
  w2 = none ∧
  (sK S3 a0 = 10) ∧
  ∀ x8 : Int, x8 = F4 a0 36 →
  Go d MX10_lettersHere 9 [some (vR a0), some (vI x8)] [] S3 F4 G5 Q)
theorem R_X10_lettersHere_0 {d : Nat} {S : AS} {F : AF} {G : AG} {Q : AQ} {a0 : Nat} (h : V_X10_lettersHere_0 d S F G Q a0) : Go d MX10_lettersHere 0 [some (vR a0), none] [] S F G Q := by
  unfold V_X10_lettersHere_0 at h
  refine go_aload_n (show decode cX10_lettersHere 0 = .ok (.aload_n 0, 1) by decide +kernel) (by rfl) ?_
  obtain ⟨q1, h⟩ := h
  obtain ⟨q6, h⟩ := h
  refine go_callV (d2 := d - 1) (M2 := MX10_blanks) (n := 0) (ci := 10) (av := []) (st := []) (show decode cX10_lettersHere 1 = .ok (.invokevirtual 329, 3) by decide +kernel) ml_X10_329 mt_X10_blanks min_X10_blanks mse_X10_blanks (by decide) q6 rfl (Nat.le_of_ble_eq_true rfl) (by omega) (ok_mono h (fun w2 S3 F4 G5 h => ?_))
  obtain ⟨e9, h⟩ := h
  subst e9
  show Go d MX10_lettersHere 4 [some (vR a0), none] [] S3 F4 G5 Q
  refine go_aload_n (show decode cX10_lettersHere 4 = .ok (.aload_n 0, 1) by decide +kernel) (by rfl) ?_
  obtain ⟨q7, h⟩ := h
  refine go_getI (show decode cX10_lettersHere 5 = .ok (.getfield 316, 3) by decide +kernel) fl_X10_316 (Or.inl rfl) q7 ?_
  obtain ⟨x8, x8e⟩ : ∃ x8 : Int, x8 = F4 a0 36 := ⟨_, rfl⟩
  have h := h x8 x8e
  rw [← x8e]
  refine go_istore_n (show decode cX10_lettersHere 8 = .ok (.istore_n 1, 1) by decide +kernel) (by decide) ?_
  show Go d MX10_lettersHere 9 [some (vR a0), some (vI x8)] [] S3 F4 G5 Q
  exact h
def V_X10_fails_0 (d : Nat) (S : AS) (F : AF) (G : AG) (Q : AQ) (a0 : Nat) (a1 : Int) (a2 : Int) : Prop :=
  (sK S a0 = 10) ∧
  ((F a0 37 = 0) →
    ∀ F2 : AF, F2 = fu F a0 37 a1 →
    ∀ F3 : AF, F3 = fu F2 a0 38 a2 →
    Q none S F3 G) ∧
  ((¬ F a0 37 = 0) →
    Q none S F G)
theorem R_X10_fails_0 {d : Nat} {S : AS} {F : AF} {G : AG} {Q : AQ} {a0 : Nat} {a1 : Int} {a2 : Int} (h : V_X10_fails_0 d S F G Q a0 a1 a2) : Go d MX10_fails 0 [some (vR a0), some (vI a1), some (vI a2)] [] S F G Q := by
  unfold V_X10_fails_0 at h
  refine go_aload_n (show decode cX10_fails 0 = .ok (.aload_n 0, 1) by decide +kernel) (by rfl) ?_
  obtain ⟨q1, h⟩ := h
  refine go_getI (show decode cX10_fails 1 = .ok (.getfield 322, 3) by decide +kernel) fl_X10_322 (Or.inl rfl) q1 ?_
  obtain ⟨ht, hf⟩ := h
  refine go_ifeq (tgt := 8) (show decode cX10_fails 4 = .ok (.ifCond .eq 4, 3) by decide +kernel) (by decide) (fun hc => ?_) (fun hc => ?_)
  · have h := ht hc
    refine go_aload_n (show decode cX10_fails 8 = .ok (.aload_n 0, 1) by decide +kernel) (by rfl) ?_
    refine go_iload_n (show decode cX10_fails 9 = .ok (.iload_n 1, 1) by decide +kernel) (by rfl) ?_
    refine go_putI (show decode cX10_fails 10 = .ok (.putfield 322, 3) by decide +kernel) fl_X10_322 rfl (Or.inl rfl) q1 ?_
    obtain ⟨F2, F2e⟩ : ∃ F2 : AF, F2 = fu F a0 37 a1 := ⟨_, rfl⟩
    have h := h F2 F2e
    rw [← F2e]
    refine go_aload_n (show decode cX10_fails 13 = .ok (.aload_n 0, 1) by decide +kernel) (by rfl) ?_
    refine go_iload_n (show decode cX10_fails 14 = .ok (.iload_n 2, 1) by decide +kernel) (by rfl) ?_
    refine go_putI (show decode cX10_fails 15 = .ok (.putfield 87, 3) by decide +kernel) fl_X10_87 rfl (Or.inl rfl) q1 ?_
    obtain ⟨F3, F3e⟩ : ∃ F3 : AF, F3 = fu F2 a0 38 a2 := ⟨_, rfl⟩
    have h := h F3 F3e
    rw [← F3e]
    exact go_vret (show decode cX10_fails 18 = .ok (.return_, 1) by decide +kernel) rfl h
  · have h := hf hc
    exact go_vret (show decode cX10_fails 7 = .ok (.return_, 1) by decide +kernel) rfl h
def V_X10_numeral_145 (d : Nat) (S : AS) (F : AF) (G : AG) (Q : AQ) (a0 : Nat) (a1 : Int) (a3 : Int) (a5 : Int) (a6 : Int) : Prop :=
  (1 ≤ d) ∧
  (sK S a0 = 10) ∧
  Ok (d - 1) MX10_fails [vR a0, vI 2, vI a5] S F G (fun w2 S3 F4 G5 =>
  w2 = none ∧
  Q (some (vJ a6)) S3 F4 G5)
theorem R_X10_numeral_145 {d : Nat} {S : AS} {F : AF} {G : AG} {Q : AQ} {a0 : Nat} {a1 : Int} {a3 : Int} {a5 : Int} {a6 : Int} (h : V_X10_numeral_145 d S F G Q a0 a1 a3 a5 a6) : Go d MX10_numeral 145 [some (vR a0), some (vJ a1), none, some (vJ a3), none, some (vI a5), some (vJ a6), none] [] S F G Q := by
  unfold V_X10_numeral_145 at h
  refine go_aload_n (show decode cX10_numeral 145 = .ok (.aload_n 0, 1) by decide +kernel) (by rfl) ?_
  refine go_iconst (show decode cX10_numeral 146 = .ok (.iconst 2, 1) by decide +kernel) (by decide) ?_
  refine go_iload (show decode cX10_numeral 147 = .ok (.iload 5, 2) by decide +kernel) (by rfl) ?_
  obtain ⟨q1, h⟩ := h
  obtain ⟨q6, h⟩ := h
  refine go_callV (d2 := d - 1) (M2 := MX10_fails) (n := 2) (ci := 10) (av := [vI 2, vI a5]) (st := []) (show decode cX10_numeral 149 = .ok (.invokevirtual 360, 3) by decide +kernel) ml_X10_360 mt_X10_fails min_X10_fails mse_X10_fails (by decide) q6 rfl (Nat.le_of_ble_eq_true rfl) (by omega) (ok_mono h (fun w2 S3 F4 G5 h => ?_))
  obtain ⟨e9, h⟩ := h
  subst e9
  show Go d MX10_numeral 152 [some (vR a0), some (vJ a1), none, some (vJ a3), none, some (vI a5), some (vJ a6), none] [] S3 F4 G5 Q
  refine go_lload (show decode cX10_numeral 152 = .ok (.lload 6, 2) by decide +kernel) (by rfl) ?_
  exact go_lret (show decode cX10_numeral 154 = .ok (.lreturn, 1) by decide +kernel) rfl h
def V_X10_numeral_89 (d : Nat) (S : AS) (F : AF) (G : AG) (Q : AQ) (a0 : Nat) (a1 : Int) (a3 : Int) (a5 : Int) (a6 : Int) (s0 : Int) : Prop :=
  (sK S a0 = 10) ∧
  (r32 ((F a0 36) + 1)) ∧
  ∀ F3 : AF, F3 = fu F a0 36 ((F a0 36) + 1) →
  Go d MX10_numeral 22 [some (vR a0), some (vJ a1), none, some (vJ a3), none, some (vI a5), some (vJ s0), none] [] S F3 G Q
theorem R_X10_numeral_89 {d : Nat} {S : AS} {F : AF} {G : AG} {Q : AQ} {a0 : Nat} {a1 : Int} {a3 : Int} {a5 : Int} {a6 : Int} {s0 : Int} (h : V_X10_numeral_89 d S F G Q a0 a1 a3 a5 a6 s0) : Go d MX10_numeral 89 [some (vR a0), some (vJ a1), none, some (vJ a3), none, some (vI a5), some (vJ a6), none] [vJ s0] S F G Q := by
  unfold V_X10_numeral_89 at h
  refine go_lstore (show decode cX10_numeral 89 = .ok (.lstore 6, 2) by decide +kernel) (by decide) ?_
  show Go d MX10_numeral 91 [some (vR a0), some (vJ a1), none, some (vJ a3), none, some (vI a5), some (vJ s0), none] [] S F G Q
  refine go_aload_n (show decode cX10_numeral 91 = .ok (.aload_n 0, 1) by decide +kernel) (by rfl) ?_
  refine go_dup (show decode cX10_numeral 92 = .ok (.dup, 1) by decide +kernel) ?_
  obtain ⟨q1, h⟩ := h
  refine go_getI (show decode cX10_numeral 93 = .ok (.getfield 316, 3) by decide +kernel) fl_X10_316 (Or.inl rfl) q1 ?_
  refine go_iconst (show decode cX10_numeral 96 = .ok (.iconst 1, 1) by decide +kernel) (by decide) ?_
  obtain ⟨q2, h⟩ := h
  refine go_iadd (show decode cX10_numeral 97 = .ok (.iadd, 1) by decide +kernel) q2 ?_
  refine go_putI (show decode cX10_numeral 98 = .ok (.putfield 316, 3) by decide +kernel) fl_X10_316 rfl (Or.inl rfl) q1 ?_
  obtain ⟨F3, F3e⟩ : ∃ F3 : AF, F3 = fu F a0 36 ((F a0 36) + 1) := ⟨_, rfl⟩
  have h := h F3 F3e
  rw [← F3e]
  refine go_goto (tgt := 22) (show decode cX10_numeral 101 = .ok (.goto (-79), 3) by decide +kernel) (by decide) ?_
  exact h
def V_X10_numeral_70 (d : Nat) (S : AS) (F : AF) (G : AG) (Q : AQ) (a0 : Nat) (a1 : Int) (a3 : Int) (a5 : Int) (a6 : Int) (s0 : Int) : Prop :=
  ((s0 ≤ 3000000000000000000) →
    V_X10_numeral_89 d S F G Q a0 a1 a3 a5 s0 s0) ∧
  ((¬ s0 ≤ 3000000000000000000) →
    V_X10_numeral_89 d S F G Q a0 a1 a3 a5 s0 3000000000000000001)
theorem R_X10_numeral_70 {d : Nat} {S : AS} {F : AF} {G : AG} {Q : AQ} {a0 : Nat} {a1 : Int} {a3 : Int} {a5 : Int} {a6 : Int} {s0 : Int} (h : V_X10_numeral_70 d S F G Q a0 a1 a3 a5 a6 s0) : Go d MX10_numeral 70 [some (vR a0), some (vJ a1), none, some (vJ a3), none, some (vI a5), some (vJ a6), none] [vJ s0] S F G Q := by
  unfold V_X10_numeral_70 at h
  refine go_lstore (show decode cX10_numeral 70 = .ok (.lstore 6, 2) by decide +kernel) (by decide) ?_
  show Go d MX10_numeral 72 [some (vR a0), some (vJ a1), none, some (vJ a3), none, some (vI a5), some (vJ s0), none] [] S F G Q
  refine go_lload (show decode cX10_numeral 72 = .ok (.lload 6, 2) by decide +kernel) (by rfl) ?_
  refine go_ldc2 (show decode cX10_numeral 74 = .ok (.ldc2_w 198, 3) by decide +kernel) lc_X10_198 (by decide) ?_
  obtain ⟨ht, hf⟩ := h
  refine go_jle (tgt := 87) (show decode cX10_numeral 77 = .ok (.lcmp, 1) by decide +kernel) (show decode cX10_numeral 78 = .ok (.ifCond .le 9, 3) by decide +kernel) (by decide) (fun hc => ?_) (fun hc => ?_)
  · have h := ht hc
    refine go_lload (show decode cX10_numeral 87 = .ok (.lload 6, 2) by decide +kernel) (by rfl) ?_
    exact R_X10_numeral_89 h
  · have h := hf hc
    refine go_ldc2 (show decode cX10_numeral 81 = .ok (.ldc2_w 356, 3) by decide +kernel) lc_X10_356 (by decide) ?_
    refine go_goto (tgt := 89) (show decode cX10_numeral 84 = .ok (.goto 5, 3) by decide +kernel) (by decide) ?_
    exact R_X10_numeral_89 h
def V_X10_numeral_22 (d : Nat) (S : AS) (F : AF) (G : AG) (Q : AQ) (a0 : Nat) (a1 : Int) (a3 : Int) (a5 : Int) (a6 : Int) : Prop :=
  (1 ≤ d) ∧
  (sK S a0 = 10) ∧
  Ok (d - 1) MX10_peek [vR a0] S F G (fun w2 S3 F4 G5 =>
  ∃ z7 : Int, w2 = some (vI z7) ∧
  Ok (d - 1) MX10_isIn [vJ z7, vJ 48, vJ 57] S3 F4 G5 (fun w8 S9 F10 G11 =>
  ∃ z12 : Int, w8 = some (vI z12) ∧
  ((z12 = 0) →
    (sK S9 a0 = 10) ∧
    ((¬ F10 a0 36 = a5) →
      (r32 ((F10 a0 36) - a5)) ∧
      ((19 < (F10 a0 36) - a5) →
        V_X10_numeral_145 d S9 F10 G11 Q a0 a1 a3 a5 a6) ∧
      ((¬ 19 < (F10 a0 36) - a5) →
        Ok (d - 1) MX10_isIn [vJ a6, vJ a1, vJ a3] S9 F10 G11 (fun w15 S16 F17 G18 =>
        ∃ z19 : Int, w15 = some (vI z19) ∧
        ((¬ z19 = 0) →
          Q (some (vJ a6)) S16 F17 G18) ∧
        ((z19 = 0) →
          V_X10_numeral_145 d S16 F17 G18 Q a0 a1 a3 a5 a6)))) ∧
    ((F10 a0 36 = a5) →
      Ok (d - 1) MX10_fails [vR a0, vI 1, vI a5] S9 F10 G11 (fun w20 S21 F22 G23 =>
      w20 = none ∧
      Q (some (vJ a6)) S21 F22 G23))) ∧
  ((¬ z12 = 0) →
    ((a6 ≤ 300000000000000001) →
      (r64 (10 * a6)) ∧
      (sK S9 a0 = 10) ∧
      Ok (d - 1) MX10_peek [vR a0] S9 F10 G11 (fun w25 S26 F27 G28 =>
      ∃ z30 : Int, w25 = some (vI z30) ∧
      (r64 ((10 * a6) + z30)) ∧
      (r64 (((10 * a6) + z30) - 48)) ∧
      V_X10_numeral_70 d S26 F27 G28 Q a0 a1 a3 a5 a6 (((10 * a6) + z30) - 48))) ∧
    ((¬ a6 ≤ 300000000000000001) →
      V_X10_numeral_70 d S9 F10 G11 Q a0 a1 a3 a5 a6 3000000000000000001))))
theorem R_X10_numeral_22 {d : Nat} {S : AS} {F : AF} {G : AG} {Q : AQ} {a0 : Nat} {a1 : Int} {a3 : Int} {a5 : Int} {a6 : Int} (h : V_X10_numeral_22 d S F G Q a0 a1 a3 a5 a6) : Go d MX10_numeral 22 [some (vR a0), some (vJ a1), none, some (vJ a3), none, some (vI a5), some (vJ a6), none] [] S F G Q := by
  unfold V_X10_numeral_22 at h
  refine go_aload_n (show decode cX10_numeral 22 = .ok (.aload_n 0, 1) by decide +kernel) (by rfl) ?_
  obtain ⟨q1, h⟩ := h
  obtain ⟨q6, h⟩ := h
  refine go_callV (d2 := d - 1) (M2 := MX10_peek) (n := 0) (ci := 10) (av := []) (st := []) (show decode cX10_numeral 23 = .ok (.invokevirtual 325, 3) by decide +kernel) ml_X10_325 mt_X10_peek min_X10_peek mse_X10_peek (by decide) q6 rfl (Nat.le_of_ble_eq_true rfl) (by omega) (ok_mono h (fun w2 S3 F4 G5 h => ?_))
  obtain ⟨z7, e9, h⟩ := h
  subst e9
  show Go d MX10_numeral 26 [some (vR a0), some (vJ a1), none, some (vJ a3), none, some (vI a5), some (vJ a6), none] [vI z7] S3 F4 G5 Q
  refine go_i2l (show decode cX10_numeral 26 = .ok (.i2l, 1) by decide +kernel) ?_
  refine go_ldc2 (show decode cX10_numeral 27 = .ok (.ldc2_w 350, 3) by decide +kernel) lc_X10_350 (by decide) ?_
  refine go_ldc2 (show decode cX10_numeral 30 = .ok (.ldc2_w 352, 3) by decide +kernel) lc_X10_352 (by decide) ?_
  refine go_callS (d2 := d - 1) (M2 := MX10_isIn) (n := 3) (av := [vJ z7, vJ 48, vJ 57]) (st := []) (show decode cX10_numeral 33 = .ok (.invokestatic 116, 3) by decide +kernel) ml_X10_116 mt_X10_isIn mst_X10_isIn rfl (Nat.le_of_ble_eq_true rfl) (by omega) (ok_mono h (fun w8 S9 F10 G11 h => ?_))
  obtain ⟨z12, e9, h⟩ := h
  subst e9
  show Go d MX10_numeral 36 [some (vR a0), some (vJ a1), none, some (vJ a3), none, some (vI a5), some (vJ a6), none] [vI z12] S9 F10 G11 Q
  obtain ⟨ht, hf⟩ := h
  refine go_ifeq (tgt := 104) (show decode cX10_numeral 36 = .ok (.ifCond .eq 68, 3) by decide +kernel) (by decide) (fun hc => ?_) (fun hc => ?_)
  · have h := ht hc
    refine go_aload_n (show decode cX10_numeral 104 = .ok (.aload_n 0, 1) by decide +kernel) (by rfl) ?_
    obtain ⟨q13, h⟩ := h
    refine go_getI (show decode cX10_numeral 105 = .ok (.getfield 316, 3) by decide +kernel) fl_X10_316 (Or.inl rfl) q13 ?_
    refine go_iload (show decode cX10_numeral 108 = .ok (.iload 5, 2) by decide +kernel) (by rfl) ?_
    obtain ⟨ht, hf⟩ := h
    refine go_icmpne (tgt := 123) (show decode cX10_numeral 110 = .ok (.if_icmp .ne 13, 3) by decide +kernel) (by decide) (fun hc => ?_) (fun hc => ?_)
    · have h := ht hc
      refine go_aload_n (show decode cX10_numeral 123 = .ok (.aload_n 0, 1) by decide +kernel) (by rfl) ?_
      refine go_getI (show decode cX10_numeral 124 = .ok (.getfield 316, 3) by decide +kernel) fl_X10_316 (Or.inl rfl) q13 ?_
      refine go_iload (show decode cX10_numeral 127 = .ok (.iload 5, 2) by decide +kernel) (by rfl) ?_
      obtain ⟨q14, h⟩ := h
      refine go_isub (show decode cX10_numeral 129 = .ok (.isub, 1) by decide +kernel) q14 ?_
      refine go_bipush (show decode cX10_numeral 130 = .ok (.bipush 19, 2) by decide +kernel) (by decide) ?_
      obtain ⟨ht, hf⟩ := h
      refine go_icmpgt (tgt := 145) (show decode cX10_numeral 132 = .ok (.if_icmp .gt 13, 3) by decide +kernel) (by decide) (fun hc => ?_) (fun hc => ?_)
      · have h := ht hc
        exact R_X10_numeral_145 h
      · have h := hf hc
        refine go_lload (show decode cX10_numeral 135 = .ok (.lload 6, 2) by decide +kernel) (by rfl) ?_
        refine go_lload_n (show decode cX10_numeral 137 = .ok (.lload_n 1, 1) by decide +kernel) (by rfl) ?_
        refine go_lload_n (show decode cX10_numeral 138 = .ok (.lload_n 3, 1) by decide +kernel) (by rfl) ?_
        refine go_callS (d2 := d - 1) (M2 := MX10_isIn) (n := 3) (av := [vJ a6, vJ a1, vJ a3]) (st := []) (show decode cX10_numeral 139 = .ok (.invokestatic 116, 3) by decide +kernel) ml_X10_116 mt_X10_isIn mst_X10_isIn rfl (Nat.le_of_ble_eq_true rfl) (by omega) (ok_mono h (fun w15 S16 F17 G18 h => ?_))
        obtain ⟨z19, e9, h⟩ := h
        subst e9
        show Go d MX10_numeral 142 [some (vR a0), some (vJ a1), none, some (vJ a3), none, some (vI a5), some (vJ a6), none] [vI z19] S16 F17 G18 Q
        obtain ⟨ht, hf⟩ := h
        refine go_ifne (tgt := 152) (show decode cX10_numeral 142 = .ok (.ifCond .ne 10, 3) by decide +kernel) (by decide) (fun hc => ?_) (fun hc => ?_)
        · have h := ht hc
          refine go_lload (show decode cX10_numeral 152 = .ok (.lload 6, 2) by decide +kernel) (by rfl) ?_
          exact go_lret (show decode cX10_numeral 154 = .ok (.lreturn, 1) by decide +kernel) rfl h
        · have h := hf hc
          exact R_X10_numeral_145 h
    · have h := hf hc
      refine go_aload_n (show decode cX10_numeral 113 = .ok (.aload_n 0, 1) by decide +kernel) (by rfl) ?_
      refine go_iconst (show decode cX10_numeral 114 = .ok (.iconst 1, 1) by decide +kernel) (by decide) ?_
      refine go_iload (show decode cX10_numeral 115 = .ok (.iload 5, 2) by decide +kernel) (by rfl) ?_
      refine go_callV (d2 := d - 1) (M2 := MX10_fails) (n := 2) (ci := 10) (av := [vI 1, vI a5]) (st := []) (show decode cX10_numeral 117 = .ok (.invokevirtual 360, 3) by decide +kernel) ml_X10_360 mt_X10_fails min_X10_fails mse_X10_fails (by decide) q13 rfl (Nat.le_of_ble_eq_true rfl) (by omega) (ok_mono h (fun w20 S21 F22 G23 h => ?_))
      obtain ⟨e9, h⟩ := h
      subst e9
      show Go d MX10_numeral 120 [some (vR a0), some (vJ a1), none, some (vJ a3), none, some (vI a5), some (vJ a6), none] [] S21 F22 G23 Q
      refine go_goto (tgt := 152) (show decode cX10_numeral 120 = .ok (.goto 32, 3) by decide +kernel) (by decide) ?_
      refine go_lload (show decode cX10_numeral 152 = .ok (.lload 6, 2) by decide +kernel) (by rfl) ?_
      exact go_lret (show decode cX10_numeral 154 = .ok (.lreturn, 1) by decide +kernel) rfl h
  · have h := hf hc
    refine go_lload (show decode cX10_numeral 39 = .ok (.lload 6, 2) by decide +kernel) (by rfl) ?_
    refine go_ldc2 (show decode cX10_numeral 41 = .ok (.ldc2_w 354, 3) by decide +kernel) lc_X10_354 (by decide) ?_
    obtain ⟨ht, hf⟩ := h
    refine go_jle (tgt := 54) (show decode cX10_numeral 44 = .ok (.lcmp, 1) by decide +kernel) (show decode cX10_numeral 45 = .ok (.ifCond .le 9, 3) by decide +kernel) (by decide) (fun hc => ?_) (fun hc => ?_)
    · have h := ht hc
      refine go_ldc2 (show decode cX10_numeral 54 = .ok (.ldc2_w 358, 3) by decide +kernel) lc_X10_358 (by decide) ?_
      refine go_lload (show decode cX10_numeral 57 = .ok (.lload 6, 2) by decide +kernel) (by rfl) ?_
      obtain ⟨q24, h⟩ := h
      refine go_lmul (show decode cX10_numeral 59 = .ok (.lmul, 1) by decide +kernel) q24 ?_
      refine go_aload_n (show decode cX10_numeral 60 = .ok (.aload_n 0, 1) by decide +kernel) (by rfl) ?_
      obtain ⟨q29, h⟩ := h
      refine go_callV (d2 := d - 1) (M2 := MX10_peek) (n := 0) (ci := 10) (av := []) (st := [vJ (10 * a6)]) (show decode cX10_numeral 61 = .ok (.invokevirtual 325, 3) by decide +kernel) ml_X10_325 mt_X10_peek min_X10_peek mse_X10_peek (by decide) q29 rfl (Nat.le_of_ble_eq_true rfl) (by omega) (ok_mono h (fun w25 S26 F27 G28 h => ?_))
      obtain ⟨z30, e9, h⟩ := h
      subst e9
      show Go d MX10_numeral 64 [some (vR a0), some (vJ a1), none, some (vJ a3), none, some (vI a5), some (vJ a6), none] [vI z30, vJ (10 * a6)] S26 F27 G28 Q
      refine go_i2l (show decode cX10_numeral 64 = .ok (.i2l, 1) by decide +kernel) ?_
      obtain ⟨q31, h⟩ := h
      refine go_ladd (show decode cX10_numeral 65 = .ok (.ladd, 1) by decide +kernel) q31 ?_
      refine go_ldc2 (show decode cX10_numeral 66 = .ok (.ldc2_w 350, 3) by decide +kernel) lc_X10_350 (by decide) ?_
      obtain ⟨q32, h⟩ := h
      refine go_lsub (show decode cX10_numeral 69 = .ok (.lsub, 1) by decide +kernel) q32 ?_
      exact R_X10_numeral_70 h
    · have h := hf hc
      refine go_ldc2 (show decode cX10_numeral 48 = .ok (.ldc2_w 356, 3) by decide +kernel) lc_X10_356 (by decide) ?_
      refine go_goto (tgt := 70) (show decode cX10_numeral 51 = .ok (.goto 19, 3) by decide +kernel) (by decide) ?_
      exact R_X10_numeral_70 h
def V_X10_numeral_0 (d : Nat) (S : AS) (F : AF) (G : AG) (Q : AQ) (a0 : Nat) (a1 : Int) (a3 : Int) : Prop :=
  (sK S a0 = 10) ∧
  ((F a0 37 = 0) →
    (1 ≤ d) ∧
    Ok (d - 1) MX10_blanks [vR a0] S F G (fun w3 S4 F5 G6 =>
    w3 = none ∧
    (sK S4 a0 = 10) ∧
    ∀ x8 : Int, x8 = F5 a0 36 →
    Go d MX10_numeral 22 [some (vR a0), some (vJ a1), none, some (vJ a3), none, some (vI x8), some (vJ 0), none] [] S4 F5 G6 Q)) ∧
  ((¬ F a0 37 = 0) →
    Q (some (vJ 0)) S F G)
theorem R_X10_numeral_0 {d : Nat} {S : AS} {F : AF} {G : AG} {Q : AQ} {a0 : Nat} {a1 : Int} {a3 : Int} (h : V_X10_numeral_0 d S F G Q a0 a1 a3) : Go d MX10_numeral 0 [some (vR a0), some (vJ a1), none, some (vJ a3), none, none, none, none] [] S F G Q := by
  unfold V_X10_numeral_0 at h
  refine go_aload_n (show decode cX10_numeral 0 = .ok (.aload_n 0, 1) by decide +kernel) (by rfl) ?_
  obtain ⟨q1, h⟩ := h
  refine go_getI (show decode cX10_numeral 1 = .ok (.getfield 322, 3) by decide +kernel) fl_X10_322 (Or.inl rfl) q1 ?_
  obtain ⟨ht, hf⟩ := h
  refine go_ifeq (tgt := 9) (show decode cX10_numeral 4 = .ok (.ifCond .eq 5, 3) by decide +kernel) (by decide) (fun hc => ?_) (fun hc => ?_)
  · have h := ht hc
    refine go_aload_n (show decode cX10_numeral 9 = .ok (.aload_n 0, 1) by decide +kernel) (by rfl) ?_
    obtain ⟨q2, h⟩ := h
    refine go_callV (d2 := d - 1) (M2 := MX10_blanks) (n := 0) (ci := 10) (av := []) (st := []) (show decode cX10_numeral 10 = .ok (.invokevirtual 329, 3) by decide +kernel) ml_X10_329 mt_X10_blanks min_X10_blanks mse_X10_blanks (by decide) q1 rfl (Nat.le_of_ble_eq_true rfl) (by omega) (ok_mono h (fun w3 S4 F5 G6 h => ?_))
    obtain ⟨e9, h⟩ := h
    subst e9
    show Go d MX10_numeral 13 [some (vR a0), some (vJ a1), none, some (vJ a3), none, none, none, none] [] S4 F5 G6 Q
    refine go_aload_n (show decode cX10_numeral 13 = .ok (.aload_n 0, 1) by decide +kernel) (by rfl) ?_
    obtain ⟨q7, h⟩ := h
    refine go_getI (show decode cX10_numeral 14 = .ok (.getfield 316, 3) by decide +kernel) fl_X10_316 (Or.inl rfl) q7 ?_
    obtain ⟨x8, x8e⟩ : ∃ x8 : Int, x8 = F5 a0 36 := ⟨_, rfl⟩
    have h := h x8 x8e
    rw [← x8e]
    refine go_istore (show decode cX10_numeral 17 = .ok (.istore 5, 2) by decide +kernel) (by decide) ?_
    show Go d MX10_numeral 19 [some (vR a0), some (vJ a1), none, some (vJ a3), none, some (vI x8), none, none] [] S4 F5 G6 Q
    refine go_lconst (n := 0) (show decode cX10_numeral 19 = .ok (.lconst 0, 1) by decide +kernel) ?_
    show Go d MX10_numeral 20 [some (vR a0), some (vJ a1), none, some (vJ a3), none, some (vI x8), none, none] [vJ 0] S4 F5 G6 Q
    refine go_lstore (show decode cX10_numeral 20 = .ok (.lstore 6, 2) by decide +kernel) (by decide) ?_
    show Go d MX10_numeral 22 [some (vR a0), some (vJ a1), none, some (vJ a3), none, some (vI x8), some (vJ 0), none] [] S4 F5 G6 Q
    exact h
  · have h := hf hc
    refine go_lconst (n := 0) (show decode cX10_numeral 7 = .ok (.lconst 0, 1) by decide +kernel) ?_
    show Go d MX10_numeral 8 [some (vR a0), some (vJ a1), none, some (vJ a3), none, none, none, none] [vJ 0] S F G Q
    exact go_lret (show decode cX10_numeral 8 = .ok (.lreturn, 1) by decide +kernel) rfl h
def V_X10_does_0 (d : Nat) (S : AS) (F : AF) (G : AG) (Q : AQ) (a0 : Nat) (a1 : Int) : Prop :=
  (r32 (7 * a1)) ∧
  ∀ x2 : Int, x2 = 7 * a1 →
  (sK S a0 = 10) ∧
  (r32 (x2 + 1)) ∧
  (sK S (sR S a0 40) = 21) ∧
  ((0 : Int) ≤ x2 + 1) ∧
  ((x2 + 1 : Int) < (sN S (sR S a0 40) : Int)) ∧
  (r32 (G (sR S a0 40) (x2 + 1))) ∧
  ∀ x9 : Int, x9 = G (sR S a0 40) (x2 + 1) →
  (r32 (x2 + 2)) ∧
  ((0 : Int) ≤ x2 + 2) ∧
  ((x2 + 2 : Int) < (sN S (sR S a0 40) : Int)) ∧
  (r32 (G (sR S a0 40) (x2 + 2))) ∧
  ∀ x14 : Int, x14 = G (sR S a0 40) (x2 + 2) →
  (r32 (x2 + 3)) ∧
  ((0 : Int) ≤ x2 + 3) ∧
  ((x2 + 3 : Int) < (sN S (sR S a0 40) : Int)) ∧
  (r32 (G (sR S a0 40) (x2 + 3))) ∧
  ∀ x19 : Int, x19 = G (sR S a0 40) (x2 + 3) →
  (r32 (x2 + 4)) ∧
  ((0 : Int) ≤ x2 + 4) ∧
  ((x2 + 4 : Int) < (sN S (sR S a0 40) : Int)) ∧
  (r32 (G (sR S a0 40) (x2 + 4))) ∧
  ∀ x24 : Int, x24 = G (sR S a0 40) (x2 + 4) →
  (r32 (x2 + 5)) ∧
  ((0 : Int) ≤ x2 + 5) ∧
  ((x2 + 5 : Int) < (sN S (sR S a0 40) : Int)) ∧
  (r32 (G (sR S a0 40) (x2 + 5))) ∧
  ∀ x29 : Int, x29 = G (sR S a0 40) (x2 + 5) →
  ((0 : Int) ≤ x2) ∧
  ((x2 : Int) < (sN S (sR S a0 40) : Int)) ∧
  (r32 (G (sR S a0 40) x2)) ∧
  ((G (sR S a0 40) x2 = 0) →
    (r32 (x2 + 6)) ∧
    ((0 : Int) ≤ x2 + 6) ∧
    ((x2 + 6 : Int) < (sN S (sR S a0 40) : Int)) ∧
    (r32 (G (sR S a0 40) (x2 + 6))) ∧
    (1 ≤ d) ∧
    Ok (d - 1) MX10_add [vR a0, vI x9, vI x14, vI x19, vI x24, vI x29, vI (G (sR S a0 40) (x2 + 6))] S F G (fun w38 S39 F40 G41 =>
    ∃ z42 : Int, w38 = some (vJ z42) ∧
    Q (some (vJ z42)) S39 F40 G41)) ∧
  ((G (sR S a0 40) x2 = 1) →
    (r32 (x2 + 6)) ∧
    ((0 : Int) ≤ x2 + 6) ∧
    ((x2 + 6 : Int) < (sN S (sR S a0 40) : Int)) ∧
    (1 ≤ d) ∧
    Ok (d - 1) MX10_pick [vR a0, vI x9, vI x14, vI x19, vI x24, vI x29, vJ (G (sR S a0 40) (x2 + 6))] S F G (fun w47 S48 F49 G50 =>
    ∃ z51 : Int, w47 = some (vJ z51) ∧
    Q (some (vJ z51)) S48 F49 G50)) ∧
  ((G (sR S a0 40) x2 = 2) →
    (1 ≤ d) ∧
    Ok (d - 1) MX10_begin [vR a0] S F G (fun w53 S54 F55 G56 =>
    ∃ z57 : Int, w53 = some (vI z57) ∧
    Q (some (vJ z57)) S54 F55 G56)) ∧
  ((G (sR S a0 40) x2 = 3) →
    (1 ≤ d) ∧
    Ok (d - 1) MX10_commit [vR a0] S F G (fun w59 S60 F61 G62 =>
    ∃ z63 : Int, w59 = some (vI z63) ∧
    Q (some (vJ z63)) S60 F61 G62)) ∧
  ((G (sR S a0 40) x2 < 0 ∨ 3 < G (sR S a0 40) x2) →
    (1 ≤ d) ∧
    Ok (d - 1) MX10_cancel [vR a0] S F G (fun w65 S66 F67 G68 =>
    ∃ z69 : Int, w65 = some (vI z69) ∧
    Q (some (vJ z69)) S66 F67 G68))
theorem R_X10_does_0 {d : Nat} {S : AS} {F : AF} {G : AG} {Q : AQ} {a0 : Nat} {a1 : Int} (h : V_X10_does_0 d S F G Q a0 a1) : Go d MX10_does 0 [some (vR a0), some (vI a1), none, none, none, none, none, none] [] S F G Q := by
  unfold V_X10_does_0 at h
  refine go_bipush (show decode cX10_does 0 = .ok (.bipush 7, 2) by decide +kernel) (by decide) ?_
  refine go_iload_n (show decode cX10_does 2 = .ok (.iload_n 1, 1) by decide +kernel) (by rfl) ?_
  obtain ⟨q1, h⟩ := h
  refine go_imul (show decode cX10_does 3 = .ok (.imul, 1) by decide +kernel) q1 ?_
  obtain ⟨x2, x2e⟩ : ∃ x2 : Int, x2 = 7 * a1 := ⟨_, rfl⟩
  have h := h x2 x2e
  rw [← x2e]
  refine go_istore_n (show decode cX10_does 4 = .ok (.istore_n 2, 1) by decide +kernel) (by decide) ?_
  show Go d MX10_does 5 [some (vR a0), some (vI a1), some (vI x2), none, none, none, none, none] [] S F G Q
  refine go_aload_n (show decode cX10_does 5 = .ok (.aload_n 0, 1) by decide +kernel) (by rfl) ?_
  obtain ⟨q3, h⟩ := h
  refine go_getR (show decode cX10_does 6 = .ok (.getfield 90, 3) by decide +kernel) fl_X10_90 rfl q3 ?_
  refine go_iload_n (show decode cX10_does 9 = .ok (.iload_n 2, 1) by decide +kernel) (by rfl) ?_
  refine go_iconst (show decode cX10_does 10 = .ok (.iconst 1, 1) by decide +kernel) (by decide) ?_
  obtain ⟨q4, h⟩ := h
  refine go_iadd (show decode cX10_does 11 = .ok (.iadd, 1) by decide +kernel) q4 ?_
  obtain ⟨q5, h⟩ := h
  obtain ⟨q6, h⟩ := h
  obtain ⟨q7, h⟩ := h
  refine go_laload (show decode cX10_does 12 = .ok (.laload, 1) by decide +kernel) q5 q6 q7 ?_
  obtain ⟨q8, h⟩ := h
  refine go_l2i (show decode cX10_does 13 = .ok (.l2i, 1) by decide +kernel) q8 ?_
  obtain ⟨x9, x9e⟩ : ∃ x9 : Int, x9 = G (sR S a0 40) (x2 + 1) := ⟨_, rfl⟩
  have h := h x9 x9e
  rw [← x9e]
  refine go_istore_n (show decode cX10_does 14 = .ok (.istore_n 3, 1) by decide +kernel) (by decide) ?_
  show Go d MX10_does 15 [some (vR a0), some (vI a1), some (vI x2), some (vI x9), none, none, none, none] [] S F G Q
  refine go_aload_n (show decode cX10_does 15 = .ok (.aload_n 0, 1) by decide +kernel) (by rfl) ?_
  refine go_getR (show decode cX10_does 16 = .ok (.getfield 90, 3) by decide +kernel) fl_X10_90 rfl q3 ?_
  refine go_iload_n (show decode cX10_does 19 = .ok (.iload_n 2, 1) by decide +kernel) (by rfl) ?_
  refine go_iconst (show decode cX10_does 20 = .ok (.iconst 2, 1) by decide +kernel) (by decide) ?_
  obtain ⟨q10, h⟩ := h
  refine go_iadd (show decode cX10_does 21 = .ok (.iadd, 1) by decide +kernel) q10 ?_
  obtain ⟨q11, h⟩ := h
  obtain ⟨q12, h⟩ := h
  refine go_laload (show decode cX10_does 22 = .ok (.laload, 1) by decide +kernel) q5 q11 q12 ?_
  obtain ⟨q13, h⟩ := h
  refine go_l2i (show decode cX10_does 23 = .ok (.l2i, 1) by decide +kernel) q13 ?_
  obtain ⟨x14, x14e⟩ : ∃ x14 : Int, x14 = G (sR S a0 40) (x2 + 2) := ⟨_, rfl⟩
  have h := h x14 x14e
  rw [← x14e]
  refine go_istore (show decode cX10_does 24 = .ok (.istore 4, 2) by decide +kernel) (by decide) ?_
  show Go d MX10_does 26 [some (vR a0), some (vI a1), some (vI x2), some (vI x9), some (vI x14), none, none, none] [] S F G Q
  refine go_aload_n (show decode cX10_does 26 = .ok (.aload_n 0, 1) by decide +kernel) (by rfl) ?_
  refine go_getR (show decode cX10_does 27 = .ok (.getfield 90, 3) by decide +kernel) fl_X10_90 rfl q3 ?_
  refine go_iload_n (show decode cX10_does 30 = .ok (.iload_n 2, 1) by decide +kernel) (by rfl) ?_
  refine go_iconst (show decode cX10_does 31 = .ok (.iconst 3, 1) by decide +kernel) (by decide) ?_
  obtain ⟨q15, h⟩ := h
  refine go_iadd (show decode cX10_does 32 = .ok (.iadd, 1) by decide +kernel) q15 ?_
  obtain ⟨q16, h⟩ := h
  obtain ⟨q17, h⟩ := h
  refine go_laload (show decode cX10_does 33 = .ok (.laload, 1) by decide +kernel) q5 q16 q17 ?_
  obtain ⟨q18, h⟩ := h
  refine go_l2i (show decode cX10_does 34 = .ok (.l2i, 1) by decide +kernel) q18 ?_
  obtain ⟨x19, x19e⟩ : ∃ x19 : Int, x19 = G (sR S a0 40) (x2 + 3) := ⟨_, rfl⟩
  have h := h x19 x19e
  rw [← x19e]
  refine go_istore (show decode cX10_does 35 = .ok (.istore 5, 2) by decide +kernel) (by decide) ?_
  show Go d MX10_does 37 [some (vR a0), some (vI a1), some (vI x2), some (vI x9), some (vI x14), some (vI x19), none, none] [] S F G Q
  refine go_aload_n (show decode cX10_does 37 = .ok (.aload_n 0, 1) by decide +kernel) (by rfl) ?_
  refine go_getR (show decode cX10_does 38 = .ok (.getfield 90, 3) by decide +kernel) fl_X10_90 rfl q3 ?_
  refine go_iload_n (show decode cX10_does 41 = .ok (.iload_n 2, 1) by decide +kernel) (by rfl) ?_
  refine go_iconst (show decode cX10_does 42 = .ok (.iconst 4, 1) by decide +kernel) (by decide) ?_
  obtain ⟨q20, h⟩ := h
  refine go_iadd (show decode cX10_does 43 = .ok (.iadd, 1) by decide +kernel) q20 ?_
  obtain ⟨q21, h⟩ := h
  obtain ⟨q22, h⟩ := h
  refine go_laload (show decode cX10_does 44 = .ok (.laload, 1) by decide +kernel) q5 q21 q22 ?_
  obtain ⟨q23, h⟩ := h
  refine go_l2i (show decode cX10_does 45 = .ok (.l2i, 1) by decide +kernel) q23 ?_
  obtain ⟨x24, x24e⟩ : ∃ x24 : Int, x24 = G (sR S a0 40) (x2 + 4) := ⟨_, rfl⟩
  have h := h x24 x24e
  rw [← x24e]
  refine go_istore (show decode cX10_does 46 = .ok (.istore 6, 2) by decide +kernel) (by decide) ?_
  show Go d MX10_does 48 [some (vR a0), some (vI a1), some (vI x2), some (vI x9), some (vI x14), some (vI x19), some (vI x24), none] [] S F G Q
  refine go_aload_n (show decode cX10_does 48 = .ok (.aload_n 0, 1) by decide +kernel) (by rfl) ?_
  refine go_getR (show decode cX10_does 49 = .ok (.getfield 90, 3) by decide +kernel) fl_X10_90 rfl q3 ?_
  refine go_iload_n (show decode cX10_does 52 = .ok (.iload_n 2, 1) by decide +kernel) (by rfl) ?_
  refine go_iconst (show decode cX10_does 53 = .ok (.iconst 5, 1) by decide +kernel) (by decide) ?_
  obtain ⟨q25, h⟩ := h
  refine go_iadd (show decode cX10_does 54 = .ok (.iadd, 1) by decide +kernel) q25 ?_
  obtain ⟨q26, h⟩ := h
  obtain ⟨q27, h⟩ := h
  refine go_laload (show decode cX10_does 55 = .ok (.laload, 1) by decide +kernel) q5 q26 q27 ?_
  obtain ⟨q28, h⟩ := h
  refine go_l2i (show decode cX10_does 56 = .ok (.l2i, 1) by decide +kernel) q28 ?_
  obtain ⟨x29, x29e⟩ : ∃ x29 : Int, x29 = G (sR S a0 40) (x2 + 5) := ⟨_, rfl⟩
  have h := h x29 x29e
  rw [← x29e]
  refine go_istore (show decode cX10_does 57 = .ok (.istore 7, 2) by decide +kernel) (by decide) ?_
  show Go d MX10_does 59 [some (vR a0), some (vI a1), some (vI x2), some (vI x9), some (vI x14), some (vI x19), some (vI x24), some (vI x29)] [] S F G Q
  refine go_aload_n (show decode cX10_does 59 = .ok (.aload_n 0, 1) by decide +kernel) (by rfl) ?_
  refine go_getR (show decode cX10_does 60 = .ok (.getfield 90, 3) by decide +kernel) fl_X10_90 rfl q3 ?_
  refine go_iload_n (show decode cX10_does 63 = .ok (.iload_n 2, 1) by decide +kernel) (by rfl) ?_
  obtain ⟨q30, h⟩ := h
  obtain ⟨q31, h⟩ := h
  refine go_laload (show decode cX10_does 64 = .ok (.laload, 1) by decide +kernel) q5 q30 q31 ?_
  obtain ⟨q32, h⟩ := h
  refine go_l2i (show decode cX10_does 65 = .ok (.l2i, 1) by decide +kernel) q32 ?_
  obtain ⟨h_0, h_1, h_2, h_3, h_d⟩ := h
  by_cases hd9 : G (sR S a0 40) x2 < 0 ∨ 3 < G (sR S a0 40) x2
  · have h := h_d hd9
    refine go_swOut (tgt := 155) (show decode cX10_does 66 = .ok (.tableswitch 89 0 3 #[30, 54, 77, 83], 30) by decide +kernel) hd9 (by decide) ?_
    refine go_aload_n (show decode cX10_does 155 = .ok (.aload_n 0, 1) by decide +kernel) (by rfl) ?_
    obtain ⟨q64, h⟩ := h
    refine go_callV (d2 := d - 1) (M2 := MX10_cancel) (n := 0) (ci := 10) (av := []) (st := []) (show decode cX10_does 156 = .ok (.invokevirtual 387, 3) by decide +kernel) ml_X10_387 mt_X10_cancel min_X10_cancel mse_X10_cancel (by decide) q3 rfl (Nat.le_of_ble_eq_true rfl) (by omega) (ok_mono h (fun w65 S66 F67 G68 h => ?_))
    obtain ⟨z69, e9, h⟩ := h
    subst e9
    show Go d MX10_does 159 [some (vR a0), some (vI a1), some (vI x2), some (vI x9), some (vI x14), some (vI x19), some (vI x24), some (vI x29)] [vI z69] S66 F67 G68 Q
    refine go_i2l (show decode cX10_does 159 = .ok (.i2l, 1) by decide +kernel) ?_
    exact go_lret (show decode cX10_does 160 = .ok (.lreturn, 1) by decide +kernel) rfl h
  by_cases hc0 : G (sR S a0 40) x2 = 0
  · have h := h_0 hc0
    refine go_swIn (tgt := 96) (show decode cX10_does 66 = .ok (.tableswitch 89 0 3 #[30, 54, 77, 83], 30) by decide +kernel) (by omega) (by omega) (by rw [hc0]; rfl) (by decide) ?_
    refine go_aload_n (show decode cX10_does 96 = .ok (.aload_n 0, 1) by decide +kernel) (by rfl) ?_
    refine go_iload_n (show decode cX10_does 97 = .ok (.iload_n 3, 1) by decide +kernel) (by rfl) ?_
    refine go_iload (show decode cX10_does 98 = .ok (.iload 4, 2) by decide +kernel) (by rfl) ?_
    refine go_iload (show decode cX10_does 100 = .ok (.iload 5, 2) by decide +kernel) (by rfl) ?_
    refine go_iload (show decode cX10_does 102 = .ok (.iload 6, 2) by decide +kernel) (by rfl) ?_
    refine go_iload (show decode cX10_does 104 = .ok (.iload 7, 2) by decide +kernel) (by rfl) ?_
    refine go_aload_n (show decode cX10_does 106 = .ok (.aload_n 0, 1) by decide +kernel) (by rfl) ?_
    refine go_getR (show decode cX10_does 107 = .ok (.getfield 90, 3) by decide +kernel) fl_X10_90 rfl q3 ?_
    refine go_iload_n (show decode cX10_does 110 = .ok (.iload_n 2, 1) by decide +kernel) (by rfl) ?_
    refine go_bipush (show decode cX10_does 111 = .ok (.bipush 6, 2) by decide +kernel) (by decide) ?_
    obtain ⟨q33, h⟩ := h
    refine go_iadd (show decode cX10_does 113 = .ok (.iadd, 1) by decide +kernel) q33 ?_
    obtain ⟨q34, h⟩ := h
    obtain ⟨q35, h⟩ := h
    refine go_laload (show decode cX10_does 114 = .ok (.laload, 1) by decide +kernel) q5 q34 q35 ?_
    obtain ⟨q36, h⟩ := h
    refine go_l2i (show decode cX10_does 115 = .ok (.l2i, 1) by decide +kernel) q36 ?_
    obtain ⟨q37, h⟩ := h
    refine go_callV (d2 := d - 1) (M2 := MX10_add) (n := 6) (ci := 10) (av := [vI x9, vI x14, vI x19, vI x24, vI x29, vI (G (sR S a0 40) (x2 + 6))]) (st := []) (show decode cX10_does 116 = .ok (.invokevirtual 373, 3) by decide +kernel) ml_X10_373 mt_X10_add min_X10_add mse_X10_add (by decide) q3 rfl (Nat.le_of_ble_eq_true rfl) (by omega) (ok_mono h (fun w38 S39 F40 G41 h => ?_))
    obtain ⟨z42, e9, h⟩ := h
    subst e9
    show Go d MX10_does 119 [some (vR a0), some (vI a1), some (vI x2), some (vI x9), some (vI x14), some (vI x19), some (vI x24), some (vI x29)] [vJ z42] S39 F40 G41 Q
    exact go_lret (show decode cX10_does 119 = .ok (.lreturn, 1) by decide +kernel) rfl h
  by_cases hc1 : G (sR S a0 40) x2 = 1
  · have h := h_1 hc1
    refine go_swIn (tgt := 120) (show decode cX10_does 66 = .ok (.tableswitch 89 0 3 #[30, 54, 77, 83], 30) by decide +kernel) (by omega) (by omega) (by rw [hc1]; rfl) (by decide) ?_
    refine go_aload_n (show decode cX10_does 120 = .ok (.aload_n 0, 1) by decide +kernel) (by rfl) ?_
    refine go_iload_n (show decode cX10_does 121 = .ok (.iload_n 3, 1) by decide +kernel) (by rfl) ?_
    refine go_iload (show decode cX10_does 122 = .ok (.iload 4, 2) by decide +kernel) (by rfl) ?_
    refine go_iload (show decode cX10_does 124 = .ok (.iload 5, 2) by decide +kernel) (by rfl) ?_
    refine go_iload (show decode cX10_does 126 = .ok (.iload 6, 2) by decide +kernel) (by rfl) ?_
    refine go_iload (show decode cX10_does 128 = .ok (.iload 7, 2) by decide +kernel) (by rfl) ?_
    refine go_aload_n (show decode cX10_does 130 = .ok (.aload_n 0, 1) by decide +kernel) (by rfl) ?_
    refine go_getR (show decode cX10_does 131 = .ok (.getfield 90, 3) by decide +kernel) fl_X10_90 rfl q3 ?_
    refine go_iload_n (show decode cX10_does 134 = .ok (.iload_n 2, 1) by decide +kernel) (by rfl) ?_
    refine go_bipush (show decode cX10_does 135 = .ok (.bipush 6, 2) by decide +kernel) (by decide) ?_
    obtain ⟨q43, h⟩ := h
    refine go_iadd (show decode cX10_does 137 = .ok (.iadd, 1) by decide +kernel) q43 ?_
    obtain ⟨q44, h⟩ := h
    obtain ⟨q45, h⟩ := h
    refine go_laload (show decode cX10_does 138 = .ok (.laload, 1) by decide +kernel) q5 q44 q45 ?_
    obtain ⟨q46, h⟩ := h
    refine go_callV (d2 := d - 1) (M2 := MX10_pick) (n := 6) (ci := 10) (av := [vI x9, vI x14, vI x19, vI x24, vI x29, vJ (G (sR S a0 40) (x2 + 6))]) (st := []) (show decode cX10_does 139 = .ok (.invokevirtual 377, 3) by decide +kernel) ml_X10_377 mt_X10_pick min_X10_pick mse_X10_pick (by decide) q3 rfl (Nat.le_of_ble_eq_true rfl) (by omega) (ok_mono h (fun w47 S48 F49 G50 h => ?_))
    obtain ⟨z51, e9, h⟩ := h
    subst e9
    show Go d MX10_does 142 [some (vR a0), some (vI a1), some (vI x2), some (vI x9), some (vI x14), some (vI x19), some (vI x24), some (vI x29)] [vJ z51] S48 F49 G50 Q
    exact go_lret (show decode cX10_does 142 = .ok (.lreturn, 1) by decide +kernel) rfl h
  by_cases hc2 : G (sR S a0 40) x2 = 2
  · have h := h_2 hc2
    refine go_swIn (tgt := 143) (show decode cX10_does 66 = .ok (.tableswitch 89 0 3 #[30, 54, 77, 83], 30) by decide +kernel) (by omega) (by omega) (by rw [hc2]; rfl) (by decide) ?_
    refine go_aload_n (show decode cX10_does 143 = .ok (.aload_n 0, 1) by decide +kernel) (by rfl) ?_
    obtain ⟨q52, h⟩ := h
    refine go_callV (d2 := d - 1) (M2 := MX10_begin) (n := 0) (ci := 10) (av := []) (st := []) (show decode cX10_does 144 = .ok (.invokevirtual 381, 3) by decide +kernel) ml_X10_381 mt_X10_begin min_X10_begin mse_X10_begin (by decide) q3 rfl (Nat.le_of_ble_eq_true rfl) (by omega) (ok_mono h (fun w53 S54 F55 G56 h => ?_))
    obtain ⟨z57, e9, h⟩ := h
    subst e9
    show Go d MX10_does 147 [some (vR a0), some (vI a1), some (vI x2), some (vI x9), some (vI x14), some (vI x19), some (vI x24), some (vI x29)] [vI z57] S54 F55 G56 Q
    refine go_i2l (show decode cX10_does 147 = .ok (.i2l, 1) by decide +kernel) ?_
    exact go_lret (show decode cX10_does 148 = .ok (.lreturn, 1) by decide +kernel) rfl h
  by_cases hc3 : G (sR S a0 40) x2 = 3
  · have h := h_3 hc3
    refine go_swIn (tgt := 149) (show decode cX10_does 66 = .ok (.tableswitch 89 0 3 #[30, 54, 77, 83], 30) by decide +kernel) (by omega) (by omega) (by rw [hc3]; rfl) (by decide) ?_
    refine go_aload_n (show decode cX10_does 149 = .ok (.aload_n 0, 1) by decide +kernel) (by rfl) ?_
    obtain ⟨q58, h⟩ := h
    refine go_callV (d2 := d - 1) (M2 := MX10_commit) (n := 0) (ci := 10) (av := []) (st := []) (show decode cX10_does 150 = .ok (.invokevirtual 384, 3) by decide +kernel) ml_X10_384 mt_X10_commit min_X10_commit mse_X10_commit (by decide) q3 rfl (Nat.le_of_ble_eq_true rfl) (by omega) (ok_mono h (fun w59 S60 F61 G62 h => ?_))
    obtain ⟨z63, e9, h⟩ := h
    subst e9
    show Go d MX10_does 153 [some (vR a0), some (vI a1), some (vI x2), some (vI x9), some (vI x14), some (vI x19), some (vI x24), some (vI x29)] [vI z63] S60 F61 G62 Q
    refine go_i2l (show decode cX10_does 153 = .ok (.i2l, 1) by decide +kernel) ?_
    exact go_lret (show decode cX10_does 154 = .ok (.lreturn, 1) by decide +kernel) rfl h
  exact absurd hd9 (by omega)
def V_X10_fault_0 (d : Nat) (S : AS) (F : AF) (G : AG) (Q : AQ) (a0 : Nat) (a1 : Int) : Prop :=
  (sK S a0 = 10) ∧
  ∀ F2 : AF, F2 = fu F a0 0 0 →
  ((¬ a1 = 0) →
    ((¬ a1 = 1) →
      ((¬ a1 = 2) →
        Q (some (vI (-1))) S F2 G) ∧
      ((a1 = 2) →
        Q (some (vI (F2 a0 39))) S F2 G)) ∧
    ((a1 = 1) →
      Q (some (vI (F2 a0 38))) S F2 G)) ∧
  ((a1 = 0) →
    Q (some (vI (F2 a0 37))) S F2 G)
theorem R_X10_fault_0 {d : Nat} {S : AS} {F : AF} {G : AG} {Q : AQ} {a0 : Nat} {a1 : Int} (h : V_X10_fault_0 d S F G Q a0 a1) : Go d MX10_fault 0 [some (vR a0), some (vI a1)] [] S F G Q := by
  unfold V_X10_fault_0 at h
  refine go_aload_n (show decode cX10_fault 0 = .ok (.aload_n 0, 1) by decide +kernel) (by rfl) ?_
  refine go_iconst (show decode cX10_fault 1 = .ok (.iconst 0, 1) by decide +kernel) (by decide) ?_
  obtain ⟨q1, h⟩ := h
  refine go_putI (show decode cX10_fault 2 = .ok (.putfield 1, 3) by decide +kernel) fl_X10_1 rfl (Or.inl rfl) q1 ?_
  obtain ⟨F2, F2e⟩ : ∃ F2 : AF, F2 = fu F a0 0 0 := ⟨_, rfl⟩
  have h := h F2 F2e
  rw [← F2e]
  refine go_iload_n (show decode cX10_fault 5 = .ok (.iload_n 1, 1) by decide +kernel) (by rfl) ?_
  obtain ⟨ht, hf⟩ := h
  refine go_ifne (tgt := 16) (show decode cX10_fault 6 = .ok (.ifCond .ne 10, 3) by decide +kernel) (by decide) (fun hc => ?_) (fun hc => ?_)
  · have h := ht hc
    refine go_iload_n (show decode cX10_fault 16 = .ok (.iload_n 1, 1) by decide +kernel) (by rfl) ?_
    refine go_iconst (show decode cX10_fault 17 = .ok (.iconst 1, 1) by decide +kernel) (by decide) ?_
    obtain ⟨ht, hf⟩ := h
    refine go_icmpne (tgt := 28) (show decode cX10_fault 18 = .ok (.if_icmp .ne 10, 3) by decide +kernel) (by decide) (fun hc => ?_) (fun hc => ?_)
    · have h := ht hc
      refine go_iload_n (show decode cX10_fault 28 = .ok (.iload_n 1, 1) by decide +kernel) (by rfl) ?_
      refine go_iconst (show decode cX10_fault 29 = .ok (.iconst 2, 1) by decide +kernel) (by decide) ?_
      obtain ⟨ht, hf⟩ := h
      refine go_icmpne (tgt := 40) (show decode cX10_fault 30 = .ok (.if_icmp .ne 10, 3) by decide +kernel) (by decide) (fun hc => ?_) (fun hc => ?_)
      · have h := ht hc
        refine go_iconst (show decode cX10_fault 40 = .ok (.iconst (-1), 1) by decide +kernel) (by decide) ?_
        exact go_iret (show decode cX10_fault 41 = .ok (.ireturn, 1) by decide +kernel) rfl h
      · have h := hf hc
        refine go_aload_n (show decode cX10_fault 33 = .ok (.aload_n 0, 1) by decide +kernel) (by rfl) ?_
        refine go_getI (show decode cX10_fault 34 = .ok (.getfield 390, 3) by decide +kernel) fl_X10_390 (Or.inl rfl) q1 ?_
        refine go_goto (tgt := 41) (show decode cX10_fault 37 = .ok (.goto 4, 3) by decide +kernel) (by decide) ?_
        exact go_iret (show decode cX10_fault 41 = .ok (.ireturn, 1) by decide +kernel) rfl h
    · have h := hf hc
      refine go_aload_n (show decode cX10_fault 21 = .ok (.aload_n 0, 1) by decide +kernel) (by rfl) ?_
      refine go_getI (show decode cX10_fault 22 = .ok (.getfield 87, 3) by decide +kernel) fl_X10_87 (Or.inl rfl) q1 ?_
      refine go_goto (tgt := 41) (show decode cX10_fault 25 = .ok (.goto 16, 3) by decide +kernel) (by decide) ?_
      exact go_iret (show decode cX10_fault 41 = .ok (.ireturn, 1) by decide +kernel) rfl h
  · have h := hf hc
    refine go_aload_n (show decode cX10_fault 9 = .ok (.aload_n 0, 1) by decide +kernel) (by rfl) ?_
    refine go_getI (show decode cX10_fault 10 = .ok (.getfield 322, 3) by decide +kernel) fl_X10_322 (Or.inl rfl) q1 ?_
    refine go_goto (tgt := 41) (show decode cX10_fault 13 = .ok (.goto 28, 3) by decide +kernel) (by decide) ?_
    exact go_iret (show decode cX10_fault 41 = .ok (.ireturn, 1) by decide +kernel) rfl h
def V_X10_sum_0 (d : Nat) (S : AS) (F : AF) (G : AG) (Q : AQ) (a0 : Nat) (a1 : Int) (a2 : Int) (a3 : Int) (a4 : Int) (a5 : Int) : Prop :=
  (sK S a0 = 10) ∧
  ∀ F2 : AF, F2 = fu F a0 0 0 →
  (1 ≤ d) ∧
  Ok (d - 1) MX10_isGoodOrAll [vI a1] S F2 G (fun w4 S5 F6 G7 =>
  ∃ z8 : Int, w4 = some (vI z8) ∧
  ((z8 = 0) →
    Q (some (vJ (-2))) S5 F6 G7) ∧
  ((¬ z8 = 0) →
    (sK S5 a0 = 10) ∧
    Ok (d - 1) MX10_isRectangle [vR a0, vI a2, vI a3, vI a4, vI a5] S5 F6 G7 (fun w9 S10 F11 G12 =>
    ∃ z14 : Int, w9 = some (vI z14) ∧
    ((z14 = 0) →
      Q (some (vJ (-2))) S10 F11 G12) ∧
    ((¬ z14 = 0) →
      (sK S10 a0 = 10) ∧
      Ok (d - 1) MX10_sumOf [vR a0, vI a1, vI a2, vI a3, vI a4, vI a5] S10 F11 G12 (fun w15 S16 F17 G18 =>
      ∃ z20 : Int, w15 = some (vJ z20) ∧
      Q (some (vJ z20)) S16 F17 G18)))))
theorem R_X10_sum_0 {d : Nat} {S : AS} {F : AF} {G : AG} {Q : AQ} {a0 : Nat} {a1 : Int} {a2 : Int} {a3 : Int} {a4 : Int} {a5 : Int} (h : V_X10_sum_0 d S F G Q a0 a1 a2 a3 a4 a5) : Go d MX10_sum 0 [some (vR a0), some (vI a1), some (vI a2), some (vI a3), some (vI a4), some (vI a5)] [] S F G Q := by
  unfold V_X10_sum_0 at h
  refine go_aload_n (show decode cX10_sum 0 = .ok (.aload_n 0, 1) by decide +kernel) (by rfl) ?_
  refine go_iconst (show decode cX10_sum 1 = .ok (.iconst 0, 1) by decide +kernel) (by decide) ?_
  obtain ⟨q1, h⟩ := h
  refine go_putI (show decode cX10_sum 2 = .ok (.putfield 1, 3) by decide +kernel) fl_X10_1 rfl (Or.inl rfl) q1 ?_
  obtain ⟨F2, F2e⟩ : ∃ F2 : AF, F2 = fu F a0 0 0 := ⟨_, rfl⟩
  have h := h F2 F2e
  rw [← F2e]
  refine go_iload_n (show decode cX10_sum 5 = .ok (.iload_n 1, 1) by decide +kernel) (by rfl) ?_
  obtain ⟨q3, h⟩ := h
  refine go_callS (d2 := d - 1) (M2 := MX10_isGoodOrAll) (n := 1) (av := [vI a1]) (st := []) (show decode cX10_sum 6 = .ok (.invokestatic 403, 3) by decide +kernel) ml_X10_403 mt_X10_isGoodOrAll mst_X10_isGoodOrAll rfl (Nat.le_of_ble_eq_true rfl) (by omega) (ok_mono h (fun w4 S5 F6 G7 h => ?_))
  obtain ⟨z8, e9, h⟩ := h
  subst e9
  show Go d MX10_sum 9 [some (vR a0), some (vI a1), some (vI a2), some (vI a3), some (vI a4), some (vI a5)] [vI z8] S5 F6 G7 Q
  obtain ⟨ht, hf⟩ := h
  refine go_ifeq (tgt := 39) (show decode cX10_sum 9 = .ok (.ifCond .eq 30, 3) by decide +kernel) (by decide) (fun hc => ?_) (fun hc => ?_)
  · have h := ht hc
    refine go_ldc2 (show decode cX10_sum 39 = .ok (.ldc2_w 174, 3) by decide +kernel) lc_X10_174 (by decide) ?_
    exact go_lret (show decode cX10_sum 42 = .ok (.lreturn, 1) by decide +kernel) rfl h
  · have h := hf hc
    refine go_aload_n (show decode cX10_sum 12 = .ok (.aload_n 0, 1) by decide +kernel) (by rfl) ?_
    refine go_iload_n (show decode cX10_sum 13 = .ok (.iload_n 2, 1) by decide +kernel) (by rfl) ?_
    refine go_iload_n (show decode cX10_sum 14 = .ok (.iload_n 3, 1) by decide +kernel) (by rfl) ?_
    refine go_iload (show decode cX10_sum 15 = .ok (.iload 4, 2) by decide +kernel) (by rfl) ?_
    refine go_iload (show decode cX10_sum 17 = .ok (.iload 5, 2) by decide +kernel) (by rfl) ?_
    obtain ⟨q13, h⟩ := h
    refine go_callV (d2 := d - 1) (M2 := MX10_isRectangle) (n := 4) (ci := 10) (av := [vI a2, vI a3, vI a4, vI a5]) (st := []) (show decode cX10_sum 19 = .ok (.invokevirtual 170, 3) by decide +kernel) ml_X10_170 mt_X10_isRectangle min_X10_isRectangle mse_X10_isRectangle (by decide) q13 rfl (Nat.le_of_ble_eq_true rfl) (by omega) (ok_mono h (fun w9 S10 F11 G12 h => ?_))
    obtain ⟨z14, e9, h⟩ := h
    subst e9
    show Go d MX10_sum 22 [some (vR a0), some (vI a1), some (vI a2), some (vI a3), some (vI a4), some (vI a5)] [vI z14] S10 F11 G12 Q
    obtain ⟨ht, hf⟩ := h
    refine go_ifeq (tgt := 39) (show decode cX10_sum 22 = .ok (.ifCond .eq 17, 3) by decide +kernel) (by decide) (fun hc => ?_) (fun hc => ?_)
    · have h := ht hc
      refine go_ldc2 (show decode cX10_sum 39 = .ok (.ldc2_w 174, 3) by decide +kernel) lc_X10_174 (by decide) ?_
      exact go_lret (show decode cX10_sum 42 = .ok (.lreturn, 1) by decide +kernel) rfl h
    · have h := hf hc
      refine go_aload_n (show decode cX10_sum 25 = .ok (.aload_n 0, 1) by decide +kernel) (by rfl) ?_
      refine go_iload_n (show decode cX10_sum 26 = .ok (.iload_n 1, 1) by decide +kernel) (by rfl) ?_
      refine go_iload_n (show decode cX10_sum 27 = .ok (.iload_n 2, 1) by decide +kernel) (by rfl) ?_
      refine go_iload_n (show decode cX10_sum 28 = .ok (.iload_n 3, 1) by decide +kernel) (by rfl) ?_
      refine go_iload (show decode cX10_sum 29 = .ok (.iload 4, 2) by decide +kernel) (by rfl) ?_
      refine go_iload (show decode cX10_sum 31 = .ok (.iload 5, 2) by decide +kernel) (by rfl) ?_
      obtain ⟨q19, h⟩ := h
      refine go_callV (d2 := d - 1) (M2 := MX10_sumOf) (n := 5) (ci := 10) (av := [vI a1, vI a2, vI a3, vI a4, vI a5]) (st := []) (show decode cX10_sum 33 = .ok (.invokevirtual 251, 3) by decide +kernel) ml_X10_251 mt_X10_sumOf min_X10_sumOf mse_X10_sumOf (by decide) q19 rfl (Nat.le_of_ble_eq_true rfl) (by omega) (ok_mono h (fun w15 S16 F17 G18 h => ?_))
      obtain ⟨z20, e9, h⟩ := h
      subst e9
      show Go d MX10_sum 36 [some (vR a0), some (vI a1), some (vI a2), some (vI a3), some (vI a4), some (vI a5)] [vJ z20] S16 F17 G18 Q
      refine go_goto (tgt := 42) (show decode cX10_sum 36 = .ok (.goto 6, 3) by decide +kernel) (by decide) ?_
      exact go_lret (show decode cX10_sum 42 = .ok (.lreturn, 1) by decide +kernel) rfl h
def V_X10_isGoodOrAll_0 (d : Nat) (S : AS) (F : AF) (G : AG) (Q : AQ) (a0 : Int) : Prop :=
  ((a0 = -1) →
    Q (some (vI 1)) S F G) ∧
  ((¬ a0 = -1) →
    (1 ≤ d) ∧
    Ok (d - 1) MX10_isGood [vI a0] S F G (fun w2 S3 F4 G5 =>
    ∃ z6 : Int, w2 = some (vI z6) ∧
    ((z6 = 0) →
      Q (some (vI 0)) S3 F4 G5) ∧
    ((¬ z6 = 0) →
      Q (some (vI 1)) S3 F4 G5)))
theorem R_X10_isGoodOrAll_0 {d : Nat} {S : AS} {F : AF} {G : AG} {Q : AQ} {a0 : Int} (h : V_X10_isGoodOrAll_0 d S F G Q a0) : Go d MX10_isGoodOrAll 0 [some (vI a0)] [] S F G Q := by
  unfold V_X10_isGoodOrAll_0 at h
  refine go_iload_n (show decode cX10_isGoodOrAll 0 = .ok (.iload_n 0, 1) by decide +kernel) (by rfl) ?_
  refine go_iconst (show decode cX10_isGoodOrAll 1 = .ok (.iconst (-1), 1) by decide +kernel) (by decide) ?_
  obtain ⟨ht, hf⟩ := h
  refine go_icmpeq (tgt := 12) (show decode cX10_isGoodOrAll 2 = .ok (.if_icmp .eq 10, 3) by decide +kernel) (by decide) (fun hc => ?_) (fun hc => ?_)
  · have h := ht hc
    refine go_iconst (show decode cX10_isGoodOrAll 12 = .ok (.iconst 1, 1) by decide +kernel) (by decide) ?_
    refine go_goto (tgt := 17) (show decode cX10_isGoodOrAll 13 = .ok (.goto 4, 3) by decide +kernel) (by decide) ?_
    exact go_zret (show decode cX10_isGoodOrAll 17 = .ok (.ireturn, 1) by decide +kernel) rfl (by decide) h
  · have h := hf hc
    refine go_iload_n (show decode cX10_isGoodOrAll 5 = .ok (.iload_n 0, 1) by decide +kernel) (by rfl) ?_
    obtain ⟨q1, h⟩ := h
    refine go_callS (d2 := d - 1) (M2 := MX10_isGood) (n := 1) (av := [vI a0]) (st := []) (show decode cX10_isGoodOrAll 6 = .ok (.invokestatic 167, 3) by decide +kernel) ml_X10_167 mt_X10_isGood mst_X10_isGood rfl (Nat.le_of_ble_eq_true rfl) (by omega) (ok_mono h (fun w2 S3 F4 G5 h => ?_))
    obtain ⟨z6, e9, h⟩ := h
    subst e9
    show Go d MX10_isGoodOrAll 9 [some (vI a0)] [vI z6] S3 F4 G5 Q
    obtain ⟨ht, hf⟩ := h
    refine go_ifeq (tgt := 16) (show decode cX10_isGoodOrAll 9 = .ok (.ifCond .eq 7, 3) by decide +kernel) (by decide) (fun hc => ?_) (fun hc => ?_)
    · have h := ht hc
      refine go_iconst (show decode cX10_isGoodOrAll 16 = .ok (.iconst 0, 1) by decide +kernel) (by decide) ?_
      exact go_zret (show decode cX10_isGoodOrAll 17 = .ok (.ireturn, 1) by decide +kernel) rfl (by decide) h
    · have h := hf hc
      refine go_iconst (show decode cX10_isGoodOrAll 12 = .ok (.iconst 1, 1) by decide +kernel) (by decide) ?_
      refine go_goto (tgt := 17) (show decode cX10_isGoodOrAll 13 = .ok (.goto 4, 3) by decide +kernel) (by decide) ?_
      exact go_zret (show decode cX10_isGoodOrAll 17 = .ok (.ireturn, 1) by decide +kernel) rfl (by decide) h
def V_X10_at_0 (d : Nat) (S : AS) (F : AF) (G : AG) (Q : AQ) (a0 : Nat) (a1 : Int) (a2 : Int) (a3 : Int) : Prop :=
  (sK S a0 = 10) ∧
  ∀ F2 : AF, F2 = fu F a0 0 0 →
  (1 ≤ d) ∧
  Ok (d - 1) MX10_isGoodOrAll [vI a1] S F2 G (fun w4 S5 F6 G7 =>
  ∃ z8 : Int, w4 = some (vI z8) ∧
  ((z8 = 0) →
    Q (some (vJ (-2))) S5 F6 G7) ∧
  ((¬ z8 = 0) →
    (sK S5 a0 = 10) ∧
    Ok (d - 1) MX10_isCell [vR a0, vI a2, vI a3] S5 F6 G7 (fun w9 S10 F11 G12 =>
    ∃ z14 : Int, w9 = some (vI z14) ∧
    ((z14 = 0) →
      Q (some (vJ (-2))) S10 F11 G12) ∧
    ((¬ z14 = 0) →
      (sK S10 a0 = 10) ∧
      Ok (d - 1) MX10_blockAt [vR a0, vI 0, vI a2] S10 F11 G12 (fun w15 S16 F17 G18 =>
      ∃ z20 : Int, w15 = some (vI z20) ∧
      (sK S16 a0 = 10) ∧
      Ok (d - 1) MX10_blockAt [vR a0, vI 1, vI a3] S16 F17 G18 (fun w21 S22 F23 G24 =>
      ∃ z26 : Int, w21 = some (vI z26) ∧
      (sK S22 a0 = 10) ∧
      Ok (d - 1) MX10_in [vR a0, vI a1, vI z20, vI z26] S22 F23 G24 (fun w27 S28 F29 G30 =>
      ∃ z32 : Int, w27 = some (vJ z32) ∧
      Q (some (vJ z32)) S28 F29 G30)))))))
theorem R_X10_at_0 {d : Nat} {S : AS} {F : AF} {G : AG} {Q : AQ} {a0 : Nat} {a1 : Int} {a2 : Int} {a3 : Int} (h : V_X10_at_0 d S F G Q a0 a1 a2 a3) : Go d MX10_at 0 [some (vR a0), some (vI a1), some (vI a2), some (vI a3)] [] S F G Q := by
  unfold V_X10_at_0 at h
  refine go_aload_n (show decode cX10_at 0 = .ok (.aload_n 0, 1) by decide +kernel) (by rfl) ?_
  refine go_iconst (show decode cX10_at 1 = .ok (.iconst 0, 1) by decide +kernel) (by decide) ?_
  obtain ⟨q1, h⟩ := h
  refine go_putI (show decode cX10_at 2 = .ok (.putfield 1, 3) by decide +kernel) fl_X10_1 rfl (Or.inl rfl) q1 ?_
  obtain ⟨F2, F2e⟩ : ∃ F2 : AF, F2 = fu F a0 0 0 := ⟨_, rfl⟩
  have h := h F2 F2e
  rw [← F2e]
  refine go_iload_n (show decode cX10_at 5 = .ok (.iload_n 1, 1) by decide +kernel) (by rfl) ?_
  obtain ⟨q3, h⟩ := h
  refine go_callS (d2 := d - 1) (M2 := MX10_isGoodOrAll) (n := 1) (av := [vI a1]) (st := []) (show decode cX10_at 6 = .ok (.invokestatic 403, 3) by decide +kernel) ml_X10_403 mt_X10_isGoodOrAll mst_X10_isGoodOrAll rfl (Nat.le_of_ble_eq_true rfl) (by omega) (ok_mono h (fun w4 S5 F6 G7 h => ?_))
  obtain ⟨z8, e9, h⟩ := h
  subst e9
  show Go d MX10_at 9 [some (vR a0), some (vI a1), some (vI a2), some (vI a3)] [vI z8] S5 F6 G7 Q
  obtain ⟨ht, hf⟩ := h
  refine go_ifeq (tgt := 41) (show decode cX10_at 9 = .ok (.ifCond .eq 32, 3) by decide +kernel) (by decide) (fun hc => ?_) (fun hc => ?_)
  · have h := ht hc
    refine go_ldc2 (show decode cX10_at 41 = .ok (.ldc2_w 174, 3) by decide +kernel) lc_X10_174 (by decide) ?_
    exact go_lret (show decode cX10_at 44 = .ok (.lreturn, 1) by decide +kernel) rfl h
  · have h := hf hc
    refine go_aload_n (show decode cX10_at 12 = .ok (.aload_n 0, 1) by decide +kernel) (by rfl) ?_
    refine go_iload_n (show decode cX10_at 13 = .ok (.iload_n 2, 1) by decide +kernel) (by rfl) ?_
    refine go_iload_n (show decode cX10_at 14 = .ok (.iload_n 3, 1) by decide +kernel) (by rfl) ?_
    obtain ⟨q13, h⟩ := h
    refine go_callV (d2 := d - 1) (M2 := MX10_isCell) (n := 2) (ci := 10) (av := [vI a2, vI a3]) (st := []) (show decode cX10_at 15 = .ok (.invokevirtual 406, 3) by decide +kernel) ml_X10_406 mt_X10_isCell min_X10_isCell mse_X10_isCell (by decide) q13 rfl (Nat.le_of_ble_eq_true rfl) (by omega) (ok_mono h (fun w9 S10 F11 G12 h => ?_))
    obtain ⟨z14, e9, h⟩ := h
    subst e9
    show Go d MX10_at 18 [some (vR a0), some (vI a1), some (vI a2), some (vI a3)] [vI z14] S10 F11 G12 Q
    obtain ⟨ht, hf⟩ := h
    refine go_ifeq (tgt := 41) (show decode cX10_at 18 = .ok (.ifCond .eq 23, 3) by decide +kernel) (by decide) (fun hc => ?_) (fun hc => ?_)
    · have h := ht hc
      refine go_ldc2 (show decode cX10_at 41 = .ok (.ldc2_w 174, 3) by decide +kernel) lc_X10_174 (by decide) ?_
      exact go_lret (show decode cX10_at 44 = .ok (.lreturn, 1) by decide +kernel) rfl h
    · have h := hf hc
      refine go_aload_n (show decode cX10_at 21 = .ok (.aload_n 0, 1) by decide +kernel) (by rfl) ?_
      refine go_iload_n (show decode cX10_at 22 = .ok (.iload_n 1, 1) by decide +kernel) (by rfl) ?_
      refine go_aload_n (show decode cX10_at 23 = .ok (.aload_n 0, 1) by decide +kernel) (by rfl) ?_
      refine go_iconst (show decode cX10_at 24 = .ok (.iconst 0, 1) by decide +kernel) (by decide) ?_
      refine go_iload_n (show decode cX10_at 25 = .ok (.iload_n 2, 1) by decide +kernel) (by rfl) ?_
      obtain ⟨q19, h⟩ := h
      refine go_callV (d2 := d - 1) (M2 := MX10_blockAt) (n := 2) (ci := 10) (av := [vI 0, vI a2]) (st := [vI a1, vR a0]) (show decode cX10_at 26 = .ok (.invokevirtual 265, 3) by decide +kernel) ml_X10_265 mt_X10_blockAt min_X10_blockAt mse_X10_blockAt (by decide) q19 rfl (Nat.le_of_ble_eq_true rfl) (by omega) (ok_mono h (fun w15 S16 F17 G18 h => ?_))
      obtain ⟨z20, e9, h⟩ := h
      subst e9
      show Go d MX10_at 29 [some (vR a0), some (vI a1), some (vI a2), some (vI a3)] [vI z20, vI a1, vR a0] S16 F17 G18 Q
      refine go_aload_n (show decode cX10_at 29 = .ok (.aload_n 0, 1) by decide +kernel) (by rfl) ?_
      refine go_iconst (show decode cX10_at 30 = .ok (.iconst 1, 1) by decide +kernel) (by decide) ?_
      refine go_iload_n (show decode cX10_at 31 = .ok (.iload_n 3, 1) by decide +kernel) (by rfl) ?_
      obtain ⟨q25, h⟩ := h
      refine go_callV (d2 := d - 1) (M2 := MX10_blockAt) (n := 2) (ci := 10) (av := [vI 1, vI a3]) (st := [vI z20, vI a1, vR a0]) (show decode cX10_at 32 = .ok (.invokevirtual 265, 3) by decide +kernel) ml_X10_265 mt_X10_blockAt min_X10_blockAt mse_X10_blockAt (by decide) q25 rfl (Nat.le_of_ble_eq_true rfl) (by omega) (ok_mono h (fun w21 S22 F23 G24 h => ?_))
      obtain ⟨z26, e9, h⟩ := h
      subst e9
      show Go d MX10_at 35 [some (vR a0), some (vI a1), some (vI a2), some (vI a3)] [vI z26, vI z20, vI a1, vR a0] S22 F23 G24 Q
      obtain ⟨q31, h⟩ := h
      refine go_callV (d2 := d - 1) (M2 := MX10_in) (n := 3) (ci := 10) (av := [vI a1, vI z20, vI z26]) (st := []) (show decode cX10_at 35 = .ok (.invokevirtual 163, 3) by decide +kernel) ml_X10_163 mt_X10_in min_X10_in mse_X10_in (by decide) q31 rfl (Nat.le_of_ble_eq_true rfl) (by omega) (ok_mono h (fun w27 S28 F29 G30 h => ?_))
      obtain ⟨z32, e9, h⟩ := h
      subst e9
      show Go d MX10_at 38 [some (vR a0), some (vI a1), some (vI a2), some (vI a3)] [vJ z32] S28 F29 G30 Q
      refine go_goto (tgt := 44) (show decode cX10_at 38 = .ok (.goto 6, 3) by decide +kernel) (by decide) ?_
      exact go_lret (show decode cX10_at 44 = .ok (.lreturn, 1) by decide +kernel) rfl h
def V_X10_isCell_0 (d : Nat) (S : AS) (F : AF) (G : AG) (Q : AQ) (a0 : Nat) (a1 : Int) (a2 : Int) : Prop :=
  (sK S a0 = 10) ∧
  (r32 ((F a0 1) - 1)) ∧
  (1 ≤ d) ∧
  Ok (d - 1) MX10_isIn [vJ a1, vJ 0, vJ ((F a0 1) - 1)] S F G (fun w4 S5 F6 G7 =>
  ∃ z8 : Int, w4 = some (vI z8) ∧
  ((z8 = 0) →
    Q (some (vI 0)) S5 F6 G7) ∧
  ((¬ z8 = 0) →
    (sK S5 a0 = 10) ∧
    (r32 ((F6 a0 2) - 1)) ∧
    Ok (d - 1) MX10_isIn [vJ a2, vJ 0, vJ ((F6 a0 2) - 1)] S5 F6 G7 (fun w11 S12 F13 G14 =>
    ∃ z15 : Int, w11 = some (vI z15) ∧
    ((z15 = 0) →
      Q (some (vI 0)) S12 F13 G14) ∧
    ((¬ z15 = 0) →
      Q (some (vI 1)) S12 F13 G14))))
theorem R_X10_isCell_0 {d : Nat} {S : AS} {F : AF} {G : AG} {Q : AQ} {a0 : Nat} {a1 : Int} {a2 : Int} (h : V_X10_isCell_0 d S F G Q a0 a1 a2) : Go d MX10_isCell 0 [some (vR a0), some (vI a1), some (vI a2)] [] S F G Q := by
  unfold V_X10_isCell_0 at h
  refine go_iload_n (show decode cX10_isCell 0 = .ok (.iload_n 1, 1) by decide +kernel) (by rfl) ?_
  refine go_i2l (show decode cX10_isCell 1 = .ok (.i2l, 1) by decide +kernel) ?_
  refine go_lconst (n := 0) (show decode cX10_isCell 2 = .ok (.lconst 0, 1) by decide +kernel) ?_
  show Go d MX10_isCell 3 [some (vR a0), some (vI a1), some (vI a2)] [vJ 0, vJ a1] S F G Q
  refine go_aload_n (show decode cX10_isCell 3 = .ok (.aload_n 0, 1) by decide +kernel) (by rfl) ?_
  obtain ⟨q1, h⟩ := h
  refine go_getI (show decode cX10_isCell 4 = .ok (.getfield 13, 3) by decide +kernel) fl_X10_13 (Or.inl rfl) q1 ?_
  refine go_iconst (show decode cX10_isCell 7 = .ok (.iconst 1, 1) by decide +kernel) (by decide) ?_
  obtain ⟨q2, h⟩ := h
  refine go_isub (show decode cX10_isCell 8 = .ok (.isub, 1) by decide +kernel) q2 ?_
  refine go_i2l (show decode cX10_isCell 9 = .ok (.i2l, 1) by decide +kernel) ?_
  obtain ⟨q3, h⟩ := h
  refine go_callS (d2 := d - 1) (M2 := MX10_isIn) (n := 3) (av := [vJ a1, vJ 0, vJ ((F a0 1) - 1)]) (st := []) (show decode cX10_isCell 10 = .ok (.invokestatic 116, 3) by decide +kernel) ml_X10_116 mt_X10_isIn mst_X10_isIn rfl (Nat.le_of_ble_eq_true rfl) (by omega) (ok_mono h (fun w4 S5 F6 G7 h => ?_))
  obtain ⟨z8, e9, h⟩ := h
  subst e9
  show Go d MX10_isCell 13 [some (vR a0), some (vI a1), some (vI a2)] [vI z8] S5 F6 G7 Q
  obtain ⟨ht, hf⟩ := h
  refine go_ifeq (tgt := 36) (show decode cX10_isCell 13 = .ok (.ifCond .eq 23, 3) by decide +kernel) (by decide) (fun hc => ?_) (fun hc => ?_)
  · have h := ht hc
    refine go_iconst (show decode cX10_isCell 36 = .ok (.iconst 0, 1) by decide +kernel) (by decide) ?_
    exact go_zret (show decode cX10_isCell 37 = .ok (.ireturn, 1) by decide +kernel) rfl (by decide) h
  · have h := hf hc
    refine go_iload_n (show decode cX10_isCell 16 = .ok (.iload_n 2, 1) by decide +kernel) (by rfl) ?_
    refine go_i2l (show decode cX10_isCell 17 = .ok (.i2l, 1) by decide +kernel) ?_
    refine go_lconst (n := 0) (show decode cX10_isCell 18 = .ok (.lconst 0, 1) by decide +kernel) ?_
    show Go d MX10_isCell 19 [some (vR a0), some (vI a1), some (vI a2)] [vJ 0, vJ a2] S5 F6 G7 Q
    refine go_aload_n (show decode cX10_isCell 19 = .ok (.aload_n 0, 1) by decide +kernel) (by rfl) ?_
    obtain ⟨q9, h⟩ := h
    refine go_getI (show decode cX10_isCell 20 = .ok (.getfield 16, 3) by decide +kernel) fl_X10_16 (Or.inl rfl) q9 ?_
    refine go_iconst (show decode cX10_isCell 23 = .ok (.iconst 1, 1) by decide +kernel) (by decide) ?_
    obtain ⟨q10, h⟩ := h
    refine go_isub (show decode cX10_isCell 24 = .ok (.isub, 1) by decide +kernel) q10 ?_
    refine go_i2l (show decode cX10_isCell 25 = .ok (.i2l, 1) by decide +kernel) ?_
    refine go_callS (d2 := d - 1) (M2 := MX10_isIn) (n := 3) (av := [vJ a2, vJ 0, vJ ((F6 a0 2) - 1)]) (st := []) (show decode cX10_isCell 26 = .ok (.invokestatic 116, 3) by decide +kernel) ml_X10_116 mt_X10_isIn mst_X10_isIn rfl (Nat.le_of_ble_eq_true rfl) (by omega) (ok_mono h (fun w11 S12 F13 G14 h => ?_))
    obtain ⟨z15, e9, h⟩ := h
    subst e9
    show Go d MX10_isCell 29 [some (vR a0), some (vI a1), some (vI a2)] [vI z15] S12 F13 G14 Q
    obtain ⟨ht, hf⟩ := h
    refine go_ifeq (tgt := 36) (show decode cX10_isCell 29 = .ok (.ifCond .eq 7, 3) by decide +kernel) (by decide) (fun hc => ?_) (fun hc => ?_)
    · have h := ht hc
      refine go_iconst (show decode cX10_isCell 36 = .ok (.iconst 0, 1) by decide +kernel) (by decide) ?_
      exact go_zret (show decode cX10_isCell 37 = .ok (.ireturn, 1) by decide +kernel) rfl (by decide) h
    · have h := hf hc
      refine go_iconst (show decode cX10_isCell 32 = .ok (.iconst 1, 1) by decide +kernel) (by decide) ?_
      refine go_goto (tgt := 37) (show decode cX10_isCell 33 = .ok (.goto 4, 3) by decide +kernel) (by decide) ?_
      exact go_zret (show decode cX10_isCell 37 = .ok (.ireturn, 1) by decide +kernel) rfl (by decide) h
def V_X10_bound_150 (d : Nat) (S : AS) (F : AF) (G : AG) (Q : AQ) (a0 : Nat) (a1 : Int) (a2 : Int) (a3 : Int) (a4 : Int) (a5 : Int) (a6 : Int) (a7 : Int) (a9 : Int) (a10 : Int) : Prop :=
  (r32 (a10 + 1)) ∧
  Go d MX10_bound 62 [some (vR a0), some (vI a1), some (vI a2), some (vI a3), some (vI a4), some (vI a5), some (vI a6), some (vJ a7), none, some (vI a9), some (vI (a10 + 1)), none, none] [] S F G Q
theorem R_X10_bound_150 {d : Nat} {S : AS} {F : AF} {G : AG} {Q : AQ} {a0 : Nat} {a1 : Int} {a2 : Int} {a3 : Int} {a4 : Int} {a5 : Int} {a6 : Int} {a7 : Int} {a9 : Int} {a10 : Int} (h : V_X10_bound_150 d S F G Q a0 a1 a2 a3 a4 a5 a6 a7 a9 a10) : Go d MX10_bound 150 [some (vR a0), some (vI a1), some (vI a2), some (vI a3), some (vI a4), some (vI a5), some (vI a6), some (vJ a7), none, some (vI a9), some (vI a10), none, none] [] S F G Q := by
  unfold V_X10_bound_150 at h
  obtain ⟨q1, h⟩ := h
  refine go_iinc (show decode cX10_bound 150 = .ok (.iinc 10 1, 3) by decide +kernel) (by rfl) q1 (by decide) ?_
  show Go d MX10_bound 153 [some (vR a0), some (vI a1), some (vI a2), some (vI a3), some (vI a4), some (vI a5), some (vI a6), some (vJ a7), none, some (vI a9), some (vI (a10 + 1)), none, none] [] S F G Q
  refine go_goto (tgt := 62) (show decode cX10_bound 153 = .ok (.goto (-91), 3) by decide +kernel) (by decide) ?_
  exact h
def V_X10_bound_146 (d : Nat) (S : AS) (F : AF) (G : AG) (Q : AQ) (a0 : Nat) (a1 : Int) (a2 : Int) (a3 : Int) (a4 : Int) (a5 : Int) (a6 : Int) (a7 : Int) (a9 : Int) (a10 : Int) (a11 : Int) : Prop :=
  V_X10_bound_150 d S F G Q a0 a1 a2 a3 a4 a5 a6 a11 a9 a10
theorem R_X10_bound_146 {d : Nat} {S : AS} {F : AF} {G : AG} {Q : AQ} {a0 : Nat} {a1 : Int} {a2 : Int} {a3 : Int} {a4 : Int} {a5 : Int} {a6 : Int} {a7 : Int} {a9 : Int} {a10 : Int} {a11 : Int} (h : V_X10_bound_146 d S F G Q a0 a1 a2 a3 a4 a5 a6 a7 a9 a10 a11) : Go d MX10_bound 146 [some (vR a0), some (vI a1), some (vI a2), some (vI a3), some (vI a4), some (vI a5), some (vI a6), some (vJ a7), none, some (vI a9), some (vI a10), some (vJ a11), none] [] S F G Q := by
  unfold V_X10_bound_146 at h
  refine go_lload (show decode cX10_bound 146 = .ok (.lload 11, 2) by decide +kernel) (by rfl) ?_
  refine go_lstore (show decode cX10_bound 148 = .ok (.lstore 7, 2) by decide +kernel) (by decide) ?_
  show Go d MX10_bound 150 [some (vR a0), some (vI a1), some (vI a2), some (vI a3), some (vI a4), some (vI a5), some (vI a6), some (vJ a11), none, some (vI a9), some (vI a10), some (vJ a11), none] [] S F G Q
  refine go_clr 11 ?_
  exact R_X10_bound_150 h
def V_X10_bound_62 (d : Nat) (S : AS) (F : AF) (G : AG) (Q : AQ) (a0 : Nat) (a1 : Int) (a2 : Int) (a3 : Int) (a4 : Int) (a5 : Int) (a6 : Int) (a7 : Int) (a9 : Int) (a10 : Int) : Prop :=
  (sK S a0 = 10) ∧
  (sK S (sR S a0 5) = 20) ∧
  ((1 : Int) < (sN S (sR S a0 5) : Int)) ∧
  ((G (sR S a0 5) 1 ≤ a10) →
    (r32 (a9 + 1)) ∧
    Go d MX10_bound 48 [some (vR a0), some (vI a1), some (vI a2), some (vI a3), some (vI a4), some (vI a5), some (vI a6), some (vJ a7), none, some (vI (a9 + 1)), none, none, none] [] S F G Q) ∧
  ((¬ G (sR S a0 5) 1 ≤ a10) →
    (1 ≤ d) ∧
    Ok (d - 1) MX10_part [vR a0, vI 0, vI a9, vI a2, vI a4] S F G (fun w6 S7 F8 G9 =>
    ∃ z10 : Int, w6 = some (vI z10) ∧
    ((z10 = 0) →
      V_X10_bound_150 d S7 F8 G9 Q a0 a1 a2 a3 a4 a5 a6 a7 a9 a10) ∧
    ((¬ z10 = 0) →
      (sK S7 a0 = 10) ∧
      Ok (d - 1) MX10_part [vR a0, vI 1, vI a10, vI a3, vI a5] S7 F8 G9 (fun w11 S12 F13 G14 =>
      ∃ z16 : Int, w11 = some (vI z16) ∧
      ((¬ z16 = 0) →
        (sK S12 a0 = 10) ∧
        Ok (d - 1) MX10_in [vR a0, vI a1, vI a9, vI a10] S12 F13 G14 (fun w17 S18 F19 G20 =>
        ∃ z22 : Int, w17 = some (vJ z22) ∧
        ((a7 = -1) →
          V_X10_bound_146 d S18 F19 G20 Q a0 a1 a2 a3 a4 a5 a6 a7 a9 a10 z22) ∧
        ((¬ a7 = -1) →
          ((¬ a6 = 0) →
            ((z22 ≤ a7) →
              V_X10_bound_150 d S18 F19 G20 Q a0 a1 a2 a3 a4 a5 a6 a7 a9 a10) ∧
            ((¬ z22 ≤ a7) →
              V_X10_bound_146 d S18 F19 G20 Q a0 a1 a2 a3 a4 a5 a6 a7 a9 a10 z22)) ∧
          ((a6 = 0) →
            ((a7 ≤ z22) →
              V_X10_bound_150 d S18 F19 G20 Q a0 a1 a2 a3 a4 a5 a6 a7 a9 a10) ∧
            ((¬ a7 ≤ z22) →
              V_X10_bound_146 d S18 F19 G20 Q a0 a1 a2 a3 a4 a5 a6 a7 a9 a10 z22))))) ∧
      ((z16 = 0) →
        V_X10_bound_150 d S12 F13 G14 Q a0 a1 a2 a3 a4 a5 a6 a7 a9 a10)))))
theorem R_X10_bound_62 {d : Nat} {S : AS} {F : AF} {G : AG} {Q : AQ} {a0 : Nat} {a1 : Int} {a2 : Int} {a3 : Int} {a4 : Int} {a5 : Int} {a6 : Int} {a7 : Int} {a9 : Int} {a10 : Int} (h : V_X10_bound_62 d S F G Q a0 a1 a2 a3 a4 a5 a6 a7 a9 a10) : Go d MX10_bound 62 [some (vR a0), some (vI a1), some (vI a2), some (vI a3), some (vI a4), some (vI a5), some (vI a6), some (vJ a7), none, some (vI a9), some (vI a10), none, none] [] S F G Q := by
  unfold V_X10_bound_62 at h
  refine go_iload (show decode cX10_bound 62 = .ok (.iload 10, 2) by decide +kernel) (by rfl) ?_
  refine go_aload_n (show decode cX10_bound 64 = .ok (.aload_n 0, 1) by decide +kernel) (by rfl) ?_
  obtain ⟨q1, h⟩ := h
  refine go_getR (show decode cX10_bound 65 = .ok (.getfield 29, 3) by decide +kernel) fl_X10_29 rfl q1 ?_
  refine go_iconst (show decode cX10_bound 68 = .ok (.iconst 1, 1) by decide +kernel) (by decide) ?_
  obtain ⟨q2, h⟩ := h
  obtain ⟨q3, h⟩ := h
  refine go_iaload (show decode cX10_bound 69 = .ok (.iaload, 1) by decide +kernel) q2 (by decide) q3 ?_
  obtain ⟨ht, hf⟩ := h
  refine go_icmpge (tgt := 156) (show decode cX10_bound 70 = .ok (.if_icmp .ge 86, 3) by decide +kernel) (by decide) (fun hc => ?_) (fun hc => ?_)
  · have h := ht hc
    obtain ⟨q4, h⟩ := h
    refine go_iinc (show decode cX10_bound 156 = .ok (.iinc 9 1, 3) by decide +kernel) (by rfl) q4 (by decide) ?_
    show Go d MX10_bound 159 [some (vR a0), some (vI a1), some (vI a2), some (vI a3), some (vI a4), some (vI a5), some (vI a6), some (vJ a7), none, some (vI (a9 + 1)), some (vI a10), none, none] [] S F G Q
    refine go_goto (tgt := 48) (show decode cX10_bound 159 = .ok (.goto (-111), 3) by decide +kernel) (by decide) ?_
    refine go_clr 10 ?_
    exact h
  · have h := hf hc
    refine go_aload_n (show decode cX10_bound 73 = .ok (.aload_n 0, 1) by decide +kernel) (by rfl) ?_
    refine go_iconst (show decode cX10_bound 74 = .ok (.iconst 0, 1) by decide +kernel) (by decide) ?_
    refine go_iload (show decode cX10_bound 75 = .ok (.iload 9, 2) by decide +kernel) (by rfl) ?_
    refine go_iload_n (show decode cX10_bound 77 = .ok (.iload_n 2, 1) by decide +kernel) (by rfl) ?_
    refine go_iload (show decode cX10_bound 78 = .ok (.iload 4, 2) by decide +kernel) (by rfl) ?_
    obtain ⟨q5, h⟩ := h
    refine go_callV (d2 := d - 1) (M2 := MX10_part) (n := 4) (ci := 10) (av := [vI 0, vI a9, vI a2, vI a4]) (st := []) (show decode cX10_bound 80 = .ok (.invokevirtual 159, 3) by decide +kernel) ml_X10_159 mt_X10_part min_X10_part mse_X10_part (by decide) q1 rfl (Nat.le_of_ble_eq_true rfl) (by omega) (ok_mono h (fun w6 S7 F8 G9 h => ?_))
    obtain ⟨z10, e9, h⟩ := h
    subst e9
    show Go d MX10_bound 83 [some (vR a0), some (vI a1), some (vI a2), some (vI a3), some (vI a4), some (vI a5), some (vI a6), some (vJ a7), none, some (vI a9), some (vI a10), none, none] [vI z10] S7 F8 G9 Q
    obtain ⟨ht, hf⟩ := h
    refine go_ifeq (tgt := 150) (show decode cX10_bound 83 = .ok (.ifCond .eq 67, 3) by decide +kernel) (by decide) (fun hc => ?_) (fun hc => ?_)
    · have h := ht hc
      exact R_X10_bound_150 h
    · have h := hf hc
      refine go_aload_n (show decode cX10_bound 86 = .ok (.aload_n 0, 1) by decide +kernel) (by rfl) ?_
      refine go_iconst (show decode cX10_bound 87 = .ok (.iconst 1, 1) by decide +kernel) (by decide) ?_
      refine go_iload (show decode cX10_bound 88 = .ok (.iload 10, 2) by decide +kernel) (by rfl) ?_
      refine go_iload_n (show decode cX10_bound 90 = .ok (.iload_n 3, 1) by decide +kernel) (by rfl) ?_
      refine go_iload (show decode cX10_bound 91 = .ok (.iload 5, 2) by decide +kernel) (by rfl) ?_
      obtain ⟨q15, h⟩ := h
      refine go_callV (d2 := d - 1) (M2 := MX10_part) (n := 4) (ci := 10) (av := [vI 1, vI a10, vI a3, vI a5]) (st := []) (show decode cX10_bound 93 = .ok (.invokevirtual 159, 3) by decide +kernel) ml_X10_159 mt_X10_part min_X10_part mse_X10_part (by decide) q15 rfl (Nat.le_of_ble_eq_true rfl) (by omega) (ok_mono h (fun w11 S12 F13 G14 h => ?_))
      obtain ⟨z16, e9, h⟩ := h
      subst e9
      show Go d MX10_bound 96 [some (vR a0), some (vI a1), some (vI a2), some (vI a3), some (vI a4), some (vI a5), some (vI a6), some (vJ a7), none, some (vI a9), some (vI a10), none, none] [vI z16] S12 F13 G14 Q
      obtain ⟨ht, hf⟩ := h
      refine go_ifne (tgt := 102) (show decode cX10_bound 96 = .ok (.ifCond .ne 6, 3) by decide +kernel) (by decide) (fun hc => ?_) (fun hc => ?_)
      · have h := ht hc
        refine go_aload_n (show decode cX10_bound 102 = .ok (.aload_n 0, 1) by decide +kernel) (by rfl) ?_
        refine go_iload_n (show decode cX10_bound 103 = .ok (.iload_n 1, 1) by decide +kernel) (by rfl) ?_
        refine go_iload (show decode cX10_bound 104 = .ok (.iload 9, 2) by decide +kernel) (by rfl) ?_
        refine go_iload (show decode cX10_bound 106 = .ok (.iload 10, 2) by decide +kernel) (by rfl) ?_
        obtain ⟨q21, h⟩ := h
        refine go_callV (d2 := d - 1) (M2 := MX10_in) (n := 3) (ci := 10) (av := [vI a1, vI a9, vI a10]) (st := []) (show decode cX10_bound 108 = .ok (.invokevirtual 163, 3) by decide +kernel) ml_X10_163 mt_X10_in min_X10_in mse_X10_in (by decide) q21 rfl (Nat.le_of_ble_eq_true rfl) (by omega) (ok_mono h (fun w17 S18 F19 G20 h => ?_))
        obtain ⟨z22, e9, h⟩ := h
        subst e9
        show Go d MX10_bound 111 [some (vR a0), some (vI a1), some (vI a2), some (vI a3), some (vI a4), some (vI a5), some (vI a6), some (vJ a7), none, some (vI a9), some (vI a10), none, none] [vJ z22] S18 F19 G20 Q
        refine go_lstore (show decode cX10_bound 111 = .ok (.lstore 11, 2) by decide +kernel) (by decide) ?_
        show Go d MX10_bound 113 [some (vR a0), some (vI a1), some (vI a2), some (vI a3), some (vI a4), some (vI a5), some (vI a6), some (vJ a7), none, some (vI a9), some (vI a10), some (vJ z22), none] [] S18 F19 G20 Q
        refine go_lload (show decode cX10_bound 113 = .ok (.lload 7, 2) by decide +kernel) (by rfl) ?_
        refine go_ldc2 (show decode cX10_bound 115 = .ok (.ldc2_w 311, 3) by decide +kernel) lc_X10_311 (by decide) ?_
        obtain ⟨ht, hf⟩ := h
        refine go_jeq (tgt := 146) (show decode cX10_bound 118 = .ok (.lcmp, 1) by decide +kernel) (show decode cX10_bound 119 = .ok (.ifCond .eq 27, 3) by decide +kernel) (by decide) (fun hc => ?_) (fun hc => ?_)
        · have h := ht hc
          exact R_X10_bound_146 h
        · have h := hf hc
          refine go_iload (show decode cX10_bound 122 = .ok (.iload 6, 2) by decide +kernel) (by rfl) ?_
          obtain ⟨ht, hf⟩ := h
          refine go_ifne (tgt := 138) (show decode cX10_bound 124 = .ok (.ifCond .ne 14, 3) by decide +kernel) (by decide) (fun hc => ?_) (fun hc => ?_)
          · have h := ht hc
            refine go_lload (show decode cX10_bound 138 = .ok (.lload 11, 2) by decide +kernel) (by rfl) ?_
            refine go_lload (show decode cX10_bound 140 = .ok (.lload 7, 2) by decide +kernel) (by rfl) ?_
            obtain ⟨ht, hf⟩ := h
            refine go_jle (tgt := 150) (show decode cX10_bound 142 = .ok (.lcmp, 1) by decide +kernel) (show decode cX10_bound 143 = .ok (.ifCond .le 7, 3) by decide +kernel) (by decide) (fun hc => ?_) (fun hc => ?_)
            · have h := ht hc
              refine go_clr 11 ?_
              exact R_X10_bound_150 h
            · have h := hf hc
              exact R_X10_bound_146 h
          · have h := hf hc
            refine go_lload (show decode cX10_bound 127 = .ok (.lload 11, 2) by decide +kernel) (by rfl) ?_
            refine go_lload (show decode cX10_bound 129 = .ok (.lload 7, 2) by decide +kernel) (by rfl) ?_
            obtain ⟨ht, hf⟩ := h
            refine go_jge (tgt := 150) (show decode cX10_bound 131 = .ok (.lcmp, 1) by decide +kernel) (show decode cX10_bound 132 = .ok (.ifCond .ge 18, 3) by decide +kernel) (by decide) (fun hc => ?_) (fun hc => ?_)
            · have h := ht hc
              refine go_clr 11 ?_
              exact R_X10_bound_150 h
            · have h := hf hc
              refine go_goto (tgt := 146) (show decode cX10_bound 135 = .ok (.goto 11, 3) by decide +kernel) (by decide) ?_
              exact R_X10_bound_146 h
      · have h := hf hc
        refine go_goto (tgt := 150) (show decode cX10_bound 99 = .ok (.goto 51, 3) by decide +kernel) (by decide) ?_
        exact R_X10_bound_150 h
def V_X10_bound_48 (d : Nat) (S : AS) (F : AF) (G : AG) (Q : AQ) (a0 : Nat) (a1 : Int) (a2 : Int) (a3 : Int) (a4 : Int) (a5 : Int) (a6 : Int) (a7 : Int) (a9 : Int) : Prop :=
  (sK S a0 = 10) ∧
  (sK S (sR S a0 5) = 20) ∧
  ((0 : Int) < (sN S (sR S a0 5) : Int)) ∧
  ((G (sR S a0 5) 0 ≤ a9) →
    Q (some (vJ a7)) S F G) ∧
  ((¬ G (sR S a0 5) 0 ≤ a9) →
    Go d MX10_bound 62 [some (vR a0), some (vI a1), some (vI a2), some (vI a3), some (vI a4), some (vI a5), some (vI a6), some (vJ a7), none, some (vI a9), some (vI 0), none, none] [] S F G Q)
theorem R_X10_bound_48 {d : Nat} {S : AS} {F : AF} {G : AG} {Q : AQ} {a0 : Nat} {a1 : Int} {a2 : Int} {a3 : Int} {a4 : Int} {a5 : Int} {a6 : Int} {a7 : Int} {a9 : Int} (h : V_X10_bound_48 d S F G Q a0 a1 a2 a3 a4 a5 a6 a7 a9) : Go d MX10_bound 48 [some (vR a0), some (vI a1), some (vI a2), some (vI a3), some (vI a4), some (vI a5), some (vI a6), some (vJ a7), none, some (vI a9), none, none, none] [] S F G Q := by
  unfold V_X10_bound_48 at h
  refine go_iload (show decode cX10_bound 48 = .ok (.iload 9, 2) by decide +kernel) (by rfl) ?_
  refine go_aload_n (show decode cX10_bound 50 = .ok (.aload_n 0, 1) by decide +kernel) (by rfl) ?_
  obtain ⟨q1, h⟩ := h
  refine go_getR (show decode cX10_bound 51 = .ok (.getfield 29, 3) by decide +kernel) fl_X10_29 rfl q1 ?_
  refine go_iconst (show decode cX10_bound 54 = .ok (.iconst 0, 1) by decide +kernel) (by decide) ?_
  obtain ⟨q2, h⟩ := h
  obtain ⟨q3, h⟩ := h
  refine go_iaload (show decode cX10_bound 55 = .ok (.iaload, 1) by decide +kernel) q2 (by decide) q3 ?_
  obtain ⟨ht, hf⟩ := h
  refine go_icmpge (tgt := 162) (show decode cX10_bound 56 = .ok (.if_icmp .ge 106, 3) by decide +kernel) (by decide) (fun hc => ?_) (fun hc => ?_)
  · have h := ht hc
    refine go_lload (show decode cX10_bound 162 = .ok (.lload 7, 2) by decide +kernel) (by rfl) ?_
    exact go_lret (show decode cX10_bound 164 = .ok (.lreturn, 1) by decide +kernel) rfl h
  · have h := hf hc
    refine go_iconst (show decode cX10_bound 59 = .ok (.iconst 0, 1) by decide +kernel) (by decide) ?_
    refine go_istore (show decode cX10_bound 60 = .ok (.istore 10, 2) by decide +kernel) (by decide) ?_
    show Go d MX10_bound 62 [some (vR a0), some (vI a1), some (vI a2), some (vI a3), some (vI a4), some (vI a5), some (vI a6), some (vJ a7), none, some (vI a9), some (vI 0), none, none] [] S F G Q
    exact h
def V_X10_bound_0 (d : Nat) (S : AS) (F : AF) (G : AG) (Q : AQ) (a0 : Nat) (a1 : Int) (a2 : Int) (a3 : Int) (a4 : Int) (a5 : Int) (a6 : Int) : Prop :=
  (sK S a0 = 10) ∧
  ∀ F2 : AF, F2 = fu F a0 0 0 →
  (1 ≤ d) ∧
  Ok (d - 1) MX10_isGoodOrAll [vI a1] S F2 G (fun w4 S5 F6 G7 =>
  ∃ z8 : Int, w4 = some (vI z8) ∧
  ((z8 = 0) →
    Q (some (vJ (-2))) S5 F6 G7) ∧
  ((¬ z8 = 0) →
    (sK S5 a0 = 10) ∧
    Ok (d - 1) MX10_isRectangle [vR a0, vI a2, vI a3, vI a4, vI a5] S5 F6 G7 (fun w9 S10 F11 G12 =>
    ∃ z14 : Int, w9 = some (vI z14) ∧
    ((z14 = 0) →
      Q (some (vJ (-2))) S10 F11 G12) ∧
    ((¬ z14 = 0) →
      Ok (d - 1) MX10_isIn [vJ a6, vJ 0, vJ 1] S10 F11 G12 (fun w15 S16 F17 G18 =>
      ∃ z19 : Int, w15 = some (vI z19) ∧
      ((¬ z19 = 0) →
        Go d MX10_bound 48 [some (vR a0), some (vI a1), some (vI a2), some (vI a3), some (vI a4), some (vI a5), some (vI a6), some (vJ (-1)), none, some (vI 0), none, none, none] [] S16 F17 G18 Q) ∧
      ((z19 = 0) →
        Q (some (vJ (-2))) S16 F17 G18))))))
theorem R_X10_bound_0 {d : Nat} {S : AS} {F : AF} {G : AG} {Q : AQ} {a0 : Nat} {a1 : Int} {a2 : Int} {a3 : Int} {a4 : Int} {a5 : Int} {a6 : Int} (h : V_X10_bound_0 d S F G Q a0 a1 a2 a3 a4 a5 a6) : Go d MX10_bound 0 [some (vR a0), some (vI a1), some (vI a2), some (vI a3), some (vI a4), some (vI a5), some (vI a6), none, none, none, none, none, none] [] S F G Q := by
  unfold V_X10_bound_0 at h
  refine go_aload_n (show decode cX10_bound 0 = .ok (.aload_n 0, 1) by decide +kernel) (by rfl) ?_
  refine go_iconst (show decode cX10_bound 1 = .ok (.iconst 0, 1) by decide +kernel) (by decide) ?_
  obtain ⟨q1, h⟩ := h
  refine go_putI (show decode cX10_bound 2 = .ok (.putfield 1, 3) by decide +kernel) fl_X10_1 rfl (Or.inl rfl) q1 ?_
  obtain ⟨F2, F2e⟩ : ∃ F2 : AF, F2 = fu F a0 0 0 := ⟨_, rfl⟩
  have h := h F2 F2e
  rw [← F2e]
  refine go_iload_n (show decode cX10_bound 5 = .ok (.iload_n 1, 1) by decide +kernel) (by rfl) ?_
  obtain ⟨q3, h⟩ := h
  refine go_callS (d2 := d - 1) (M2 := MX10_isGoodOrAll) (n := 1) (av := [vI a1]) (st := []) (show decode cX10_bound 6 = .ok (.invokestatic 403, 3) by decide +kernel) ml_X10_403 mt_X10_isGoodOrAll mst_X10_isGoodOrAll rfl (Nat.le_of_ble_eq_true rfl) (by omega) (ok_mono h (fun w4 S5 F6 G7 h => ?_))
  obtain ⟨z8, e9, h⟩ := h
  subst e9
  show Go d MX10_bound 9 [some (vR a0), some (vI a1), some (vI a2), some (vI a3), some (vI a4), some (vI a5), some (vI a6), none, none, none, none, none, none] [vI z8] S5 F6 G7 Q
  obtain ⟨ht, hf⟩ := h
  refine go_ifeq (tgt := 36) (show decode cX10_bound 9 = .ok (.ifCond .eq 27, 3) by decide +kernel) (by decide) (fun hc => ?_) (fun hc => ?_)
  · have h := ht hc
    refine go_ldc2 (show decode cX10_bound 36 = .ok (.ldc2_w 174, 3) by decide +kernel) lc_X10_174 (by decide) ?_
    exact go_lret (show decode cX10_bound 39 = .ok (.lreturn, 1) by decide +kernel) rfl h
  · have h := hf hc
    refine go_aload_n (show decode cX10_bound 12 = .ok (.aload_n 0, 1) by decide +kernel) (by rfl) ?_
    refine go_iload_n (show decode cX10_bound 13 = .ok (.iload_n 2, 1) by decide +kernel) (by rfl) ?_
    refine go_iload_n (show decode cX10_bound 14 = .ok (.iload_n 3, 1) by decide +kernel) (by rfl) ?_
    refine go_iload (show decode cX10_bound 15 = .ok (.iload 4, 2) by decide +kernel) (by rfl) ?_
    refine go_iload (show decode cX10_bound 17 = .ok (.iload 5, 2) by decide +kernel) (by rfl) ?_
    obtain ⟨q13, h⟩ := h
    refine go_callV (d2 := d - 1) (M2 := MX10_isRectangle) (n := 4) (ci := 10) (av := [vI a2, vI a3, vI a4, vI a5]) (st := []) (show decode cX10_bound 19 = .ok (.invokevirtual 170, 3) by decide +kernel) ml_X10_170 mt_X10_isRectangle min_X10_isRectangle mse_X10_isRectangle (by decide) q13 rfl (Nat.le_of_ble_eq_true rfl) (by omega) (ok_mono h (fun w9 S10 F11 G12 h => ?_))
    obtain ⟨z14, e9, h⟩ := h
    subst e9
    show Go d MX10_bound 22 [some (vR a0), some (vI a1), some (vI a2), some (vI a3), some (vI a4), some (vI a5), some (vI a6), none, none, none, none, none, none] [vI z14] S10 F11 G12 Q
    obtain ⟨ht, hf⟩ := h
    refine go_ifeq (tgt := 36) (show decode cX10_bound 22 = .ok (.ifCond .eq 14, 3) by decide +kernel) (by decide) (fun hc => ?_) (fun hc => ?_)
    · have h := ht hc
      refine go_ldc2 (show decode cX10_bound 36 = .ok (.ldc2_w 174, 3) by decide +kernel) lc_X10_174 (by decide) ?_
      exact go_lret (show decode cX10_bound 39 = .ok (.lreturn, 1) by decide +kernel) rfl h
    · have h := hf hc
      refine go_iload (show decode cX10_bound 25 = .ok (.iload 6, 2) by decide +kernel) (by rfl) ?_
      refine go_i2l (show decode cX10_bound 27 = .ok (.i2l, 1) by decide +kernel) ?_
      refine go_lconst (n := 0) (show decode cX10_bound 28 = .ok (.lconst 0, 1) by decide +kernel) ?_
      show Go d MX10_bound 29 [some (vR a0), some (vI a1), some (vI a2), some (vI a3), some (vI a4), some (vI a5), some (vI a6), none, none, none, none, none, none] [vJ 0, vJ a6] S10 F11 G12 Q
      refine go_lconst (n := 1) (show decode cX10_bound 29 = .ok (.lconst 1, 1) by decide +kernel) ?_
      show Go d MX10_bound 30 [some (vR a0), some (vI a1), some (vI a2), some (vI a3), some (vI a4), some (vI a5), some (vI a6), none, none, none, none, none, none] [vJ 1, vJ 0, vJ a6] S10 F11 G12 Q
      refine go_callS (d2 := d - 1) (M2 := MX10_isIn) (n := 3) (av := [vJ a6, vJ 0, vJ 1]) (st := []) (show decode cX10_bound 30 = .ok (.invokestatic 116, 3) by decide +kernel) ml_X10_116 mt_X10_isIn mst_X10_isIn rfl (Nat.le_of_ble_eq_true rfl) (by omega) (ok_mono h (fun w15 S16 F17 G18 h => ?_))
      obtain ⟨z19, e9, h⟩ := h
      subst e9
      show Go d MX10_bound 33 [some (vR a0), some (vI a1), some (vI a2), some (vI a3), some (vI a4), some (vI a5), some (vI a6), none, none, none, none, none, none] [vI z19] S16 F17 G18 Q
      obtain ⟨ht, hf⟩ := h
      refine go_ifne (tgt := 40) (show decode cX10_bound 33 = .ok (.ifCond .ne 7, 3) by decide +kernel) (by decide) (fun hc => ?_) (fun hc => ?_)
      · have h := ht hc
        refine go_ldc2 (show decode cX10_bound 40 = .ok (.ldc2_w 311, 3) by decide +kernel) lc_X10_311 (by decide) ?_
        refine go_lstore (show decode cX10_bound 43 = .ok (.lstore 7, 2) by decide +kernel) (by decide) ?_
        show Go d MX10_bound 45 [some (vR a0), some (vI a1), some (vI a2), some (vI a3), some (vI a4), some (vI a5), some (vI a6), some (vJ (-1)), none, none, none, none, none] [] S16 F17 G18 Q
        refine go_iconst (show decode cX10_bound 45 = .ok (.iconst 0, 1) by decide +kernel) (by decide) ?_
        refine go_istore (show decode cX10_bound 46 = .ok (.istore 9, 2) by decide +kernel) (by decide) ?_
        show Go d MX10_bound 48 [some (vR a0), some (vI a1), some (vI a2), some (vI a3), some (vI a4), some (vI a5), some (vI a6), some (vJ (-1)), none, some (vI 0), none, none, none] [] S16 F17 G18 Q
        exact h
      · have h := hf hc
        refine go_ldc2 (show decode cX10_bound 36 = .ok (.ldc2_w 174, 3) by decide +kernel) lc_X10_174 (by decide) ?_
        exact go_lret (show decode cX10_bound 39 = .ok (.lreturn, 1) by decide +kernel) rfl h
def V_X10_empty_94 (d : Nat) (S : AS) (F : AF) (G : AG) (Q : AQ) (a0 : Nat) (a1 : Int) (a2 : Int) (a3 : Int) (a4 : Int) (a5 : Int) (a7 : Int) (a8 : Int) (s0 : Int) (s1 : Int) : Prop :=
  (r64 (s1 + s0)) ∧
  ∀ x2 : Int, x2 = s1 + s0 →
  (r32 (a8 + 1)) ∧
  Go d MX10_empty 41 [some (vR a0), some (vI a1), some (vI a2), some (vI a3), some (vI a4), some (vJ x2), none, some (vI a7), some (vI (a8 + 1))] [] S F G Q
theorem R_X10_empty_94 {d : Nat} {S : AS} {F : AF} {G : AG} {Q : AQ} {a0 : Nat} {a1 : Int} {a2 : Int} {a3 : Int} {a4 : Int} {a5 : Int} {a7 : Int} {a8 : Int} {s0 : Int} {s1 : Int} (h : V_X10_empty_94 d S F G Q a0 a1 a2 a3 a4 a5 a7 a8 s0 s1) : Go d MX10_empty 94 [some (vR a0), some (vI a1), some (vI a2), some (vI a3), some (vI a4), some (vJ a5), none, some (vI a7), some (vI a8)] [vJ s0, vJ s1] S F G Q := by
  unfold V_X10_empty_94 at h
  obtain ⟨q1, h⟩ := h
  refine go_ladd (show decode cX10_empty 94 = .ok (.ladd, 1) by decide +kernel) q1 ?_
  obtain ⟨x2, x2e⟩ : ∃ x2 : Int, x2 = s1 + s0 := ⟨_, rfl⟩
  have h := h x2 x2e
  rw [← x2e]
  refine go_lstore (show decode cX10_empty 95 = .ok (.lstore 5, 2) by decide +kernel) (by decide) ?_
  show Go d MX10_empty 97 [some (vR a0), some (vI a1), some (vI a2), some (vI a3), some (vI a4), some (vJ x2), none, some (vI a7), some (vI a8)] [] S F G Q
  obtain ⟨q3, h⟩ := h
  refine go_iinc (show decode cX10_empty 97 = .ok (.iinc 8 1, 3) by decide +kernel) (by rfl) q3 (by decide) ?_
  show Go d MX10_empty 100 [some (vR a0), some (vI a1), some (vI a2), some (vI a3), some (vI a4), some (vJ x2), none, some (vI a7), some (vI (a8 + 1))] [] S F G Q
  refine go_goto (tgt := 41) (show decode cX10_empty 100 = .ok (.goto (-59), 3) by decide +kernel) (by decide) ?_
  exact h
def V_X10_empty_41 (d : Nat) (S : AS) (F : AF) (G : AG) (Q : AQ) (a0 : Nat) (a1 : Int) (a2 : Int) (a3 : Int) (a4 : Int) (a5 : Int) (a7 : Int) (a8 : Int) : Prop :=
  (sK S a0 = 10) ∧
  (sK S (sR S a0 5) = 20) ∧
  ((1 : Int) < (sN S (sR S a0 5) : Int)) ∧
  ((G (sR S a0 5) 1 ≤ a8) →
    (r32 (a7 + 1)) ∧
    Go d MX10_empty 27 [some (vR a0), some (vI a1), some (vI a2), some (vI a3), some (vI a4), some (vJ a5), none, some (vI (a7 + 1)), none] [] S F G Q) ∧
  ((¬ G (sR S a0 5) 1 ≤ a8) →
    (1 ≤ d) ∧
    Ok (d - 1) MX10_in [vR a0, vI (-1), vI a7, vI a8] S F G (fun w6 S7 F8 G9 =>
    ∃ z10 : Int, w6 = some (vJ z10) ∧
    ((¬ z10 = 0) →
      V_X10_empty_94 d S7 F8 G9 Q a0 a1 a2 a3 a4 a5 a7 a8 0 a5) ∧
    ((z10 = 0) →
      (sK S7 a0 = 10) ∧
      Ok (d - 1) MX10_part [vR a0, vI 0, vI a7, vI a1, vI a3] S7 F8 G9 (fun w11 S12 F13 G14 =>
      ∃ z16 : Int, w11 = some (vI z16) ∧
      (sK S12 a0 = 10) ∧
      Ok (d - 1) MX10_part [vR a0, vI 1, vI a8, vI a2, vI a4] S12 F13 G14 (fun w17 S18 F19 G20 =>
      ∃ z22 : Int, w17 = some (vI z22) ∧
      (r64 (z16 * z22)) ∧
      V_X10_empty_94 d S18 F19 G20 Q a0 a1 a2 a3 a4 a5 a7 a8 (z16 * z22) a5)))))
theorem R_X10_empty_41 {d : Nat} {S : AS} {F : AF} {G : AG} {Q : AQ} {a0 : Nat} {a1 : Int} {a2 : Int} {a3 : Int} {a4 : Int} {a5 : Int} {a7 : Int} {a8 : Int} (h : V_X10_empty_41 d S F G Q a0 a1 a2 a3 a4 a5 a7 a8) : Go d MX10_empty 41 [some (vR a0), some (vI a1), some (vI a2), some (vI a3), some (vI a4), some (vJ a5), none, some (vI a7), some (vI a8)] [] S F G Q := by
  unfold V_X10_empty_41 at h
  refine go_iload (show decode cX10_empty 41 = .ok (.iload 8, 2) by decide +kernel) (by rfl) ?_
  refine go_aload_n (show decode cX10_empty 43 = .ok (.aload_n 0, 1) by decide +kernel) (by rfl) ?_
  obtain ⟨q1, h⟩ := h
  refine go_getR (show decode cX10_empty 44 = .ok (.getfield 29, 3) by decide +kernel) fl_X10_29 rfl q1 ?_
  refine go_iconst (show decode cX10_empty 47 = .ok (.iconst 1, 1) by decide +kernel) (by decide) ?_
  obtain ⟨q2, h⟩ := h
  obtain ⟨q3, h⟩ := h
  refine go_iaload (show decode cX10_empty 48 = .ok (.iaload, 1) by decide +kernel) q2 (by decide) q3 ?_
  obtain ⟨ht, hf⟩ := h
  refine go_icmpge (tgt := 103) (show decode cX10_empty 49 = .ok (.if_icmp .ge 54, 3) by decide +kernel) (by decide) (fun hc => ?_) (fun hc => ?_)
  · have h := ht hc
    obtain ⟨q4, h⟩ := h
    refine go_iinc (show decode cX10_empty 103 = .ok (.iinc 7 1, 3) by decide +kernel) (by rfl) q4 (by decide) ?_
    show Go d MX10_empty 106 [some (vR a0), some (vI a1), some (vI a2), some (vI a3), some (vI a4), some (vJ a5), none, some (vI (a7 + 1)), some (vI a8)] [] S F G Q
    refine go_goto (tgt := 27) (show decode cX10_empty 106 = .ok (.goto (-79), 3) by decide +kernel) (by decide) ?_
    refine go_clr 8 ?_
    exact h
  · have h := hf hc
    refine go_lload (show decode cX10_empty 52 = .ok (.lload 5, 2) by decide +kernel) (by rfl) ?_
    refine go_aload_n (show decode cX10_empty 54 = .ok (.aload_n 0, 1) by decide +kernel) (by rfl) ?_
    refine go_iconst (show decode cX10_empty 55 = .ok (.iconst (-1), 1) by decide +kernel) (by decide) ?_
    refine go_iload (show decode cX10_empty 56 = .ok (.iload 7, 2) by decide +kernel) (by rfl) ?_
    refine go_iload (show decode cX10_empty 58 = .ok (.iload 8, 2) by decide +kernel) (by rfl) ?_
    obtain ⟨q5, h⟩ := h
    refine go_callV (d2 := d - 1) (M2 := MX10_in) (n := 3) (ci := 10) (av := [vI (-1), vI a7, vI a8]) (st := [vJ a5]) (show decode cX10_empty 60 = .ok (.invokevirtual 163, 3) by decide +kernel) ml_X10_163 mt_X10_in min_X10_in mse_X10_in (by decide) q1 rfl (Nat.le_of_ble_eq_true rfl) (by omega) (ok_mono h (fun w6 S7 F8 G9 h => ?_))
    obtain ⟨z10, e9, h⟩ := h
    subst e9
    show Go d MX10_empty 63 [some (vR a0), some (vI a1), some (vI a2), some (vI a3), some (vI a4), some (vJ a5), none, some (vI a7), some (vI a8)] [vJ z10, vJ a5] S7 F8 G9 Q
    refine go_lconst (n := 0) (show decode cX10_empty 63 = .ok (.lconst 0, 1) by decide +kernel) ?_
    show Go d MX10_empty 64 [some (vR a0), some (vI a1), some (vI a2), some (vI a3), some (vI a4), some (vJ a5), none, some (vI a7), some (vI a8)] [vJ 0, vJ z10, vJ a5] S7 F8 G9 Q
    obtain ⟨ht, hf⟩ := h
    refine go_jne (tgt := 93) (show decode cX10_empty 64 = .ok (.lcmp, 1) by decide +kernel) (show decode cX10_empty 65 = .ok (.ifCond .ne 28, 3) by decide +kernel) (by decide) (fun hc => ?_) (fun hc => ?_)
    · have h := ht hc
      refine go_lconst (n := 0) (show decode cX10_empty 93 = .ok (.lconst 0, 1) by decide +kernel) ?_
      show Go d MX10_empty 94 [some (vR a0), some (vI a1), some (vI a2), some (vI a3), some (vI a4), some (vJ a5), none, some (vI a7), some (vI a8)] [vJ 0, vJ a5] S7 F8 G9 Q
      exact R_X10_empty_94 h
    · have h := hf hc
      refine go_aload_n (show decode cX10_empty 68 = .ok (.aload_n 0, 1) by decide +kernel) (by rfl) ?_
      refine go_iconst (show decode cX10_empty 69 = .ok (.iconst 0, 1) by decide +kernel) (by decide) ?_
      refine go_iload (show decode cX10_empty 70 = .ok (.iload 7, 2) by decide +kernel) (by rfl) ?_
      refine go_iload_n (show decode cX10_empty 72 = .ok (.iload_n 1, 1) by decide +kernel) (by rfl) ?_
      refine go_iload_n (show decode cX10_empty 73 = .ok (.iload_n 3, 1) by decide +kernel) (by rfl) ?_
      obtain ⟨q15, h⟩ := h
      refine go_callV (d2 := d - 1) (M2 := MX10_part) (n := 4) (ci := 10) (av := [vI 0, vI a7, vI a1, vI a3]) (st := [vJ a5]) (show decode cX10_empty 74 = .ok (.invokevirtual 159, 3) by decide +kernel) ml_X10_159 mt_X10_part min_X10_part mse_X10_part (by decide) q15 rfl (Nat.le_of_ble_eq_true rfl) (by omega) (ok_mono h (fun w11 S12 F13 G14 h => ?_))
      obtain ⟨z16, e9, h⟩ := h
      subst e9
      show Go d MX10_empty 77 [some (vR a0), some (vI a1), some (vI a2), some (vI a3), some (vI a4), some (vJ a5), none, some (vI a7), some (vI a8)] [vI z16, vJ a5] S12 F13 G14 Q
      refine go_i2l (show decode cX10_empty 77 = .ok (.i2l, 1) by decide +kernel) ?_
      refine go_aload_n (show decode cX10_empty 78 = .ok (.aload_n 0, 1) by decide +kernel) (by rfl) ?_
      refine go_iconst (show decode cX10_empty 79 = .ok (.iconst 1, 1) by decide +kernel) (by decide) ?_
      refine go_iload (show decode cX10_empty 80 = .ok (.iload 8, 2) by decide +kernel) (by rfl) ?_
      refine go_iload_n (show decode cX10_empty 82 = .ok (.iload_n 2, 1) by decide +kernel) (by rfl) ?_
      refine go_iload (show decode cX10_empty 83 = .ok (.iload 4, 2) by decide +kernel) (by rfl) ?_
      obtain ⟨q21, h⟩ := h
      refine go_callV (d2 := d - 1) (M2 := MX10_part) (n := 4) (ci := 10) (av := [vI 1, vI a8, vI a2, vI a4]) (st := [vJ z16, vJ a5]) (show decode cX10_empty 85 = .ok (.invokevirtual 159, 3) by decide +kernel) ml_X10_159 mt_X10_part min_X10_part mse_X10_part (by decide) q21 rfl (Nat.le_of_ble_eq_true rfl) (by omega) (ok_mono h (fun w17 S18 F19 G20 h => ?_))
      obtain ⟨z22, e9, h⟩ := h
      subst e9
      show Go d MX10_empty 88 [some (vR a0), some (vI a1), some (vI a2), some (vI a3), some (vI a4), some (vJ a5), none, some (vI a7), some (vI a8)] [vI z22, vJ z16, vJ a5] S18 F19 G20 Q
      refine go_i2l (show decode cX10_empty 88 = .ok (.i2l, 1) by decide +kernel) ?_
      obtain ⟨q23, h⟩ := h
      refine go_lmul (show decode cX10_empty 89 = .ok (.lmul, 1) by decide +kernel) q23 ?_
      refine go_goto (tgt := 94) (show decode cX10_empty 90 = .ok (.goto 4, 3) by decide +kernel) (by decide) ?_
      exact R_X10_empty_94 h
def V_X10_empty_27 (d : Nat) (S : AS) (F : AF) (G : AG) (Q : AQ) (a0 : Nat) (a1 : Int) (a2 : Int) (a3 : Int) (a4 : Int) (a5 : Int) (a7 : Int) : Prop :=
  (sK S a0 = 10) ∧
  (sK S (sR S a0 5) = 20) ∧
  ((0 : Int) < (sN S (sR S a0 5) : Int)) ∧
  ((G (sR S a0 5) 0 ≤ a7) →
    Q (some (vJ a5)) S F G) ∧
  ((¬ G (sR S a0 5) 0 ≤ a7) →
    Go d MX10_empty 41 [some (vR a0), some (vI a1), some (vI a2), some (vI a3), some (vI a4), some (vJ a5), none, some (vI a7), some (vI 0)] [] S F G Q)
theorem R_X10_empty_27 {d : Nat} {S : AS} {F : AF} {G : AG} {Q : AQ} {a0 : Nat} {a1 : Int} {a2 : Int} {a3 : Int} {a4 : Int} {a5 : Int} {a7 : Int} (h : V_X10_empty_27 d S F G Q a0 a1 a2 a3 a4 a5 a7) : Go d MX10_empty 27 [some (vR a0), some (vI a1), some (vI a2), some (vI a3), some (vI a4), some (vJ a5), none, some (vI a7), none] [] S F G Q := by
  unfold V_X10_empty_27 at h
  refine go_iload (show decode cX10_empty 27 = .ok (.iload 7, 2) by decide +kernel) (by rfl) ?_
  refine go_aload_n (show decode cX10_empty 29 = .ok (.aload_n 0, 1) by decide +kernel) (by rfl) ?_
  obtain ⟨q1, h⟩ := h
  refine go_getR (show decode cX10_empty 30 = .ok (.getfield 29, 3) by decide +kernel) fl_X10_29 rfl q1 ?_
  refine go_iconst (show decode cX10_empty 33 = .ok (.iconst 0, 1) by decide +kernel) (by decide) ?_
  obtain ⟨q2, h⟩ := h
  obtain ⟨q3, h⟩ := h
  refine go_iaload (show decode cX10_empty 34 = .ok (.iaload, 1) by decide +kernel) q2 (by decide) q3 ?_
  obtain ⟨ht, hf⟩ := h
  refine go_icmpge (tgt := 109) (show decode cX10_empty 35 = .ok (.if_icmp .ge 74, 3) by decide +kernel) (by decide) (fun hc => ?_) (fun hc => ?_)
  · have h := ht hc
    refine go_lload (show decode cX10_empty 109 = .ok (.lload 5, 2) by decide +kernel) (by rfl) ?_
    exact go_lret (show decode cX10_empty 111 = .ok (.lreturn, 1) by decide +kernel) rfl h
  · have h := hf hc
    refine go_iconst (show decode cX10_empty 38 = .ok (.iconst 0, 1) by decide +kernel) (by decide) ?_
    refine go_istore (show decode cX10_empty 39 = .ok (.istore 8, 2) by decide +kernel) (by decide) ?_
    show Go d MX10_empty 41 [some (vR a0), some (vI a1), some (vI a2), some (vI a3), some (vI a4), some (vJ a5), none, some (vI a7), some (vI 0)] [] S F G Q
    exact h
def V_X10_empty_0 (d : Nat) (S : AS) (F : AF) (G : AG) (Q : AQ) (a0 : Nat) (a1 : Int) (a2 : Int) (a3 : Int) (a4 : Int) : Prop :=
  (sK S a0 = 10) ∧
  ∀ F2 : AF, F2 = fu F a0 0 0 →
  (1 ≤ d) ∧
  Ok (d - 1) MX10_isRectangle [vR a0, vI a1, vI a2, vI a3, vI a4] S F2 G (fun w4 S5 F6 G7 =>
  ∃ z8 : Int, w4 = some (vI z8) ∧
  ((¬ z8 = 0) →
    Go d MX10_empty 27 [some (vR a0), some (vI a1), some (vI a2), some (vI a3), some (vI a4), some (vJ 0), none, some (vI 0), none] [] S5 F6 G7 Q) ∧
  ((z8 = 0) →
    Q (some (vJ (-2))) S5 F6 G7))
theorem R_X10_empty_0 {d : Nat} {S : AS} {F : AF} {G : AG} {Q : AQ} {a0 : Nat} {a1 : Int} {a2 : Int} {a3 : Int} {a4 : Int} (h : V_X10_empty_0 d S F G Q a0 a1 a2 a3 a4) : Go d MX10_empty 0 [some (vR a0), some (vI a1), some (vI a2), some (vI a3), some (vI a4), none, none, none, none] [] S F G Q := by
  unfold V_X10_empty_0 at h
  refine go_aload_n (show decode cX10_empty 0 = .ok (.aload_n 0, 1) by decide +kernel) (by rfl) ?_
  refine go_iconst (show decode cX10_empty 1 = .ok (.iconst 0, 1) by decide +kernel) (by decide) ?_
  obtain ⟨q1, h⟩ := h
  refine go_putI (show decode cX10_empty 2 = .ok (.putfield 1, 3) by decide +kernel) fl_X10_1 rfl (Or.inl rfl) q1 ?_
  obtain ⟨F2, F2e⟩ : ∃ F2 : AF, F2 = fu F a0 0 0 := ⟨_, rfl⟩
  have h := h F2 F2e
  rw [← F2e]
  refine go_aload_n (show decode cX10_empty 5 = .ok (.aload_n 0, 1) by decide +kernel) (by rfl) ?_
  refine go_iload_n (show decode cX10_empty 6 = .ok (.iload_n 1, 1) by decide +kernel) (by rfl) ?_
  refine go_iload_n (show decode cX10_empty 7 = .ok (.iload_n 2, 1) by decide +kernel) (by rfl) ?_
  refine go_iload_n (show decode cX10_empty 8 = .ok (.iload_n 3, 1) by decide +kernel) (by rfl) ?_
  refine go_iload (show decode cX10_empty 9 = .ok (.iload 4, 2) by decide +kernel) (by rfl) ?_
  obtain ⟨q3, h⟩ := h
  refine go_callV (d2 := d - 1) (M2 := MX10_isRectangle) (n := 4) (ci := 10) (av := [vI a1, vI a2, vI a3, vI a4]) (st := []) (show decode cX10_empty 11 = .ok (.invokevirtual 170, 3) by decide +kernel) ml_X10_170 mt_X10_isRectangle min_X10_isRectangle mse_X10_isRectangle (by decide) q1 rfl (Nat.le_of_ble_eq_true rfl) (by omega) (ok_mono h (fun w4 S5 F6 G7 h => ?_))
  obtain ⟨z8, e9, h⟩ := h
  subst e9
  show Go d MX10_empty 14 [some (vR a0), some (vI a1), some (vI a2), some (vI a3), some (vI a4), none, none, none, none] [vI z8] S5 F6 G7 Q
  obtain ⟨ht, hf⟩ := h
  refine go_ifne (tgt := 21) (show decode cX10_empty 14 = .ok (.ifCond .ne 7, 3) by decide +kernel) (by decide) (fun hc => ?_) (fun hc => ?_)
  · have h := ht hc
    refine go_lconst (n := 0) (show decode cX10_empty 21 = .ok (.lconst 0, 1) by decide +kernel) ?_
    show Go d MX10_empty 22 [some (vR a0), some (vI a1), some (vI a2), some (vI a3), some (vI a4), none, none, none, none] [vJ 0] S5 F6 G7 Q
    refine go_lstore (show decode cX10_empty 22 = .ok (.lstore 5, 2) by decide +kernel) (by decide) ?_
    show Go d MX10_empty 24 [some (vR a0), some (vI a1), some (vI a2), some (vI a3), some (vI a4), some (vJ 0), none, none, none] [] S5 F6 G7 Q
    refine go_iconst (show decode cX10_empty 24 = .ok (.iconst 0, 1) by decide +kernel) (by decide) ?_
    refine go_istore (show decode cX10_empty 25 = .ok (.istore 7, 2) by decide +kernel) (by decide) ?_
    show Go d MX10_empty 27 [some (vR a0), some (vI a1), some (vI a2), some (vI a3), some (vI a4), some (vJ 0), none, some (vI 0), none] [] S5 F6 G7 Q
    exact h
  · have h := hf hc
    refine go_ldc2 (show decode cX10_empty 17 = .ok (.ldc2_w 174, 3) by decide +kernel) lc_X10_174 (by decide) ?_
    exact go_lret (show decode cX10_empty 20 = .ok (.lreturn, 1) by decide +kernel) rfl h
def V_X10_share_0 (d : Nat) (S : AS) (F : AF) (G : AG) (Q : AQ) (a0 : Nat) (a1 : Int) (a2 : Int) (a3 : Int) (a4 : Int) (a5 : Int) (a6 : Int) : Prop :=
  (sK S a0 = 10) ∧
  ∀ F2 : AF, F2 = fu F a0 0 0 →
  (1 ≤ d) ∧
  Ok (d - 1) MX10_isGood [vI a1] S F2 G (fun w4 S5 F6 G7 =>
  ∃ z8 : Int, w4 = some (vI z8) ∧
  ((z8 = 0) →
    Q (some (vJ (-2))) S5 F6 G7) ∧
  ((¬ z8 = 0) →
    (sK S5 a0 = 10) ∧
    Ok (d - 1) MX10_isRectangle [vR a0, vI a2, vI a3, vI a4, vI a5] S5 F6 G7 (fun w9 S10 F11 G12 =>
    ∃ z14 : Int, w9 = some (vI z14) ∧
    ((z14 = 0) →
      Q (some (vJ (-2))) S10 F11 G12) ∧
    ((¬ z14 = 0) →
      Ok (d - 1) MX10_isIn [vJ a6, vJ 0, vJ 1] S10 F11 G12 (fun w15 S16 F17 G18 =>
      ∃ z19 : Int, w15 = some (vI z19) ∧
      ((¬ z19 = 0) →
        (sK S16 a0 = 10) ∧
        Ok (d - 1) MX10_sumOf [vR a0, vI a1, vI a2, vI a3, vI a4, vI a5] S16 F17 G18 (fun w20 S21 F22 G23 =>
        ∃ z25 : Int, w20 = some (vJ z25) ∧
        (sK S21 a0 = 10) ∧
        (sK S21 (sR S21 a0 9) = 21) ∧
        ((0 : Int) ≤ a1) ∧
        ((a1 : Int) < (sN S21 (sR S21 a0 9) : Int)) ∧
        ((¬ G23 (sR S21 a0 9) a1 = 0) →
          Ok (d - 1) MX10_common [vJ (G23 (sR S21 a0 9) a1), vJ z25] S21 F22 G23 (fun w30 S31 F32 G33 =>
          ∃ z34 : Int, w30 = some (vJ z34) ∧
          ((¬ a6 = 0) →
            (sK S31 a0 = 10) ∧
            (sK S31 (sR S31 a0 9) = 21) ∧
            ((0 : Int) ≤ a1) ∧
            ((a1 : Int) < (sN S31 (sR S31 a0 9) : Int)) ∧
            (¬ z34 = 0) ∧
            (r64 (Int.tdiv (G33 (sR S31 a0 9) a1) z34)) ∧
            Q (some (vJ (Int.tdiv (G33 (sR S31 a0 9) a1) z34))) S31 F32 G33) ∧
          ((a6 = 0) →
            (¬ z34 = 0) ∧
            (r64 (Int.tdiv z25 z34)) ∧
            Q (some (vJ (Int.tdiv z25 z34))) S31 F32 G33))) ∧
        ((G23 (sR S21 a0 9) a1 = 0) →
          Q (some (vJ a6)) S21 F22 G23))) ∧
      ((z19 = 0) →
        Q (some (vJ (-2))) S16 F17 G18))))))
theorem R_X10_share_0 {d : Nat} {S : AS} {F : AF} {G : AG} {Q : AQ} {a0 : Nat} {a1 : Int} {a2 : Int} {a3 : Int} {a4 : Int} {a5 : Int} {a6 : Int} (h : V_X10_share_0 d S F G Q a0 a1 a2 a3 a4 a5 a6) : Go d MX10_share 0 [some (vR a0), some (vI a1), some (vI a2), some (vI a3), some (vI a4), some (vI a5), some (vI a6), none, none, none, none] [] S F G Q := by
  unfold V_X10_share_0 at h
  refine go_aload_n (show decode cX10_share 0 = .ok (.aload_n 0, 1) by decide +kernel) (by rfl) ?_
  refine go_iconst (show decode cX10_share 1 = .ok (.iconst 0, 1) by decide +kernel) (by decide) ?_
  obtain ⟨q1, h⟩ := h
  refine go_putI (show decode cX10_share 2 = .ok (.putfield 1, 3) by decide +kernel) fl_X10_1 rfl (Or.inl rfl) q1 ?_
  obtain ⟨F2, F2e⟩ : ∃ F2 : AF, F2 = fu F a0 0 0 := ⟨_, rfl⟩
  have h := h F2 F2e
  rw [← F2e]
  refine go_iload_n (show decode cX10_share 5 = .ok (.iload_n 1, 1) by decide +kernel) (by rfl) ?_
  obtain ⟨q3, h⟩ := h
  refine go_callS (d2 := d - 1) (M2 := MX10_isGood) (n := 1) (av := [vI a1]) (st := []) (show decode cX10_share 6 = .ok (.invokestatic 167, 3) by decide +kernel) ml_X10_167 mt_X10_isGood mst_X10_isGood rfl (Nat.le_of_ble_eq_true rfl) (by omega) (ok_mono h (fun w4 S5 F6 G7 h => ?_))
  obtain ⟨z8, e9, h⟩ := h
  subst e9
  show Go d MX10_share 9 [some (vR a0), some (vI a1), some (vI a2), some (vI a3), some (vI a4), some (vI a5), some (vI a6), none, none, none, none] [vI z8] S5 F6 G7 Q
  obtain ⟨ht, hf⟩ := h
  refine go_ifeq (tgt := 36) (show decode cX10_share 9 = .ok (.ifCond .eq 27, 3) by decide +kernel) (by decide) (fun hc => ?_) (fun hc => ?_)
  · have h := ht hc
    refine go_ldc2 (show decode cX10_share 36 = .ok (.ldc2_w 174, 3) by decide +kernel) lc_X10_174 (by decide) ?_
    exact go_lret (show decode cX10_share 39 = .ok (.lreturn, 1) by decide +kernel) rfl h
  · have h := hf hc
    refine go_aload_n (show decode cX10_share 12 = .ok (.aload_n 0, 1) by decide +kernel) (by rfl) ?_
    refine go_iload_n (show decode cX10_share 13 = .ok (.iload_n 2, 1) by decide +kernel) (by rfl) ?_
    refine go_iload_n (show decode cX10_share 14 = .ok (.iload_n 3, 1) by decide +kernel) (by rfl) ?_
    refine go_iload (show decode cX10_share 15 = .ok (.iload 4, 2) by decide +kernel) (by rfl) ?_
    refine go_iload (show decode cX10_share 17 = .ok (.iload 5, 2) by decide +kernel) (by rfl) ?_
    obtain ⟨q13, h⟩ := h
    refine go_callV (d2 := d - 1) (M2 := MX10_isRectangle) (n := 4) (ci := 10) (av := [vI a2, vI a3, vI a4, vI a5]) (st := []) (show decode cX10_share 19 = .ok (.invokevirtual 170, 3) by decide +kernel) ml_X10_170 mt_X10_isRectangle min_X10_isRectangle mse_X10_isRectangle (by decide) q13 rfl (Nat.le_of_ble_eq_true rfl) (by omega) (ok_mono h (fun w9 S10 F11 G12 h => ?_))
    obtain ⟨z14, e9, h⟩ := h
    subst e9
    show Go d MX10_share 22 [some (vR a0), some (vI a1), some (vI a2), some (vI a3), some (vI a4), some (vI a5), some (vI a6), none, none, none, none] [vI z14] S10 F11 G12 Q
    obtain ⟨ht, hf⟩ := h
    refine go_ifeq (tgt := 36) (show decode cX10_share 22 = .ok (.ifCond .eq 14, 3) by decide +kernel) (by decide) (fun hc => ?_) (fun hc => ?_)
    · have h := ht hc
      refine go_ldc2 (show decode cX10_share 36 = .ok (.ldc2_w 174, 3) by decide +kernel) lc_X10_174 (by decide) ?_
      exact go_lret (show decode cX10_share 39 = .ok (.lreturn, 1) by decide +kernel) rfl h
    · have h := hf hc
      refine go_iload (show decode cX10_share 25 = .ok (.iload 6, 2) by decide +kernel) (by rfl) ?_
      refine go_i2l (show decode cX10_share 27 = .ok (.i2l, 1) by decide +kernel) ?_
      refine go_lconst (n := 0) (show decode cX10_share 28 = .ok (.lconst 0, 1) by decide +kernel) ?_
      show Go d MX10_share 29 [some (vR a0), some (vI a1), some (vI a2), some (vI a3), some (vI a4), some (vI a5), some (vI a6), none, none, none, none] [vJ 0, vJ a6] S10 F11 G12 Q
      refine go_lconst (n := 1) (show decode cX10_share 29 = .ok (.lconst 1, 1) by decide +kernel) ?_
      show Go d MX10_share 30 [some (vR a0), some (vI a1), some (vI a2), some (vI a3), some (vI a4), some (vI a5), some (vI a6), none, none, none, none] [vJ 1, vJ 0, vJ a6] S10 F11 G12 Q
      refine go_callS (d2 := d - 1) (M2 := MX10_isIn) (n := 3) (av := [vJ a6, vJ 0, vJ 1]) (st := []) (show decode cX10_share 30 = .ok (.invokestatic 116, 3) by decide +kernel) ml_X10_116 mt_X10_isIn mst_X10_isIn rfl (Nat.le_of_ble_eq_true rfl) (by omega) (ok_mono h (fun w15 S16 F17 G18 h => ?_))
      obtain ⟨z19, e9, h⟩ := h
      subst e9
      show Go d MX10_share 33 [some (vR a0), some (vI a1), some (vI a2), some (vI a3), some (vI a4), some (vI a5), some (vI a6), none, none, none, none] [vI z19] S16 F17 G18 Q
      obtain ⟨ht, hf⟩ := h
      refine go_ifne (tgt := 40) (show decode cX10_share 33 = .ok (.ifCond .ne 7, 3) by decide +kernel) (by decide) (fun hc => ?_) (fun hc => ?_)
      · have h := ht hc
        refine go_aload_n (show decode cX10_share 40 = .ok (.aload_n 0, 1) by decide +kernel) (by rfl) ?_
        refine go_iload_n (show decode cX10_share 41 = .ok (.iload_n 1, 1) by decide +kernel) (by rfl) ?_
        refine go_iload_n (show decode cX10_share 42 = .ok (.iload_n 2, 1) by decide +kernel) (by rfl) ?_
        refine go_iload_n (show decode cX10_share 43 = .ok (.iload_n 3, 1) by decide +kernel) (by rfl) ?_
        refine go_iload (show decode cX10_share 44 = .ok (.iload 4, 2) by decide +kernel) (by rfl) ?_
        refine go_iload (show decode cX10_share 46 = .ok (.iload 5, 2) by decide +kernel) (by rfl) ?_
        obtain ⟨q24, h⟩ := h
        refine go_callV (d2 := d - 1) (M2 := MX10_sumOf) (n := 5) (ci := 10) (av := [vI a1, vI a2, vI a3, vI a4, vI a5]) (st := []) (show decode cX10_share 48 = .ok (.invokevirtual 251, 3) by decide +kernel) ml_X10_251 mt_X10_sumOf min_X10_sumOf mse_X10_sumOf (by decide) q24 rfl (Nat.le_of_ble_eq_true rfl) (by omega) (ok_mono h (fun w20 S21 F22 G23 h => ?_))
        obtain ⟨z25, e9, h⟩ := h
        subst e9
        show Go d MX10_share 51 [some (vR a0), some (vI a1), some (vI a2), some (vI a3), some (vI a4), some (vI a5), some (vI a6), none, none, none, none] [vJ z25] S21 F22 G23 Q
        refine go_lstore (show decode cX10_share 51 = .ok (.lstore 7, 2) by decide +kernel) (by decide) ?_
        show Go d MX10_share 53 [some (vR a0), some (vI a1), some (vI a2), some (vI a3), some (vI a4), some (vI a5), some (vI a6), some (vJ z25), none, none, none] [] S21 F22 G23 Q
        refine go_aload_n (show decode cX10_share 53 = .ok (.aload_n 0, 1) by decide +kernel) (by rfl) ?_
        obtain ⟨q26, h⟩ := h
        refine go_getR (show decode cX10_share 54 = .ok (.getfield 43, 3) by decide +kernel) fl_X10_43 rfl q26 ?_
        refine go_iload_n (show decode cX10_share 57 = .ok (.iload_n 1, 1) by decide +kernel) (by rfl) ?_
        obtain ⟨q27, h⟩ := h
        obtain ⟨q28, h⟩ := h
        obtain ⟨q29, h⟩ := h
        refine go_laload (show decode cX10_share 58 = .ok (.laload, 1) by decide +kernel) q27 q28 q29 ?_
        refine go_lconst (n := 0) (show decode cX10_share 59 = .ok (.lconst 0, 1) by decide +kernel) ?_
        show Go d MX10_share 60 [some (vR a0), some (vI a1), some (vI a2), some (vI a3), some (vI a4), some (vI a5), some (vI a6), some (vJ z25), none, none, none] [vJ 0, vJ (G23 (sR S21 a0 9) a1)] S21 F22 G23 Q
        obtain ⟨ht, hf⟩ := h
        refine go_jne (tgt := 68) (show decode cX10_share 60 = .ok (.lcmp, 1) by decide +kernel) (show decode cX10_share 61 = .ok (.ifCond .ne 7, 3) by decide +kernel) (by decide) (fun hc => ?_) (fun hc => ?_)
        · have h := ht hc
          refine go_aload_n (show decode cX10_share 68 = .ok (.aload_n 0, 1) by decide +kernel) (by rfl) ?_
          refine go_getR (show decode cX10_share 69 = .ok (.getfield 43, 3) by decide +kernel) fl_X10_43 rfl q26 ?_
          refine go_iload_n (show decode cX10_share 72 = .ok (.iload_n 1, 1) by decide +kernel) (by rfl) ?_
          refine go_laload (show decode cX10_share 73 = .ok (.laload, 1) by decide +kernel) q27 q28 q29 ?_
          refine go_lload (show decode cX10_share 74 = .ok (.lload 7, 2) by decide +kernel) (by rfl) ?_
          refine go_callS (d2 := d - 1) (M2 := MX10_common) (n := 2) (av := [vJ (G23 (sR S21 a0 9) a1), vJ z25]) (st := []) (show decode cX10_share 76 = .ok (.invokestatic 409, 3) by decide +kernel) ml_X10_409 mt_X10_common mst_X10_common rfl (Nat.le_of_ble_eq_true rfl) (by omega) (ok_mono h (fun w30 S31 F32 G33 h => ?_))
          obtain ⟨z34, e9, h⟩ := h
          subst e9
          show Go d MX10_share 79 [some (vR a0), some (vI a1), some (vI a2), some (vI a3), some (vI a4), some (vI a5), some (vI a6), some (vJ z25), none, none, none] [vJ z34] S31 F32 G33 Q
          refine go_lstore (show decode cX10_share 79 = .ok (.lstore 9, 2) by decide +kernel) (by decide) ?_
          show Go d MX10_share 81 [some (vR a0), some (vI a1), some (vI a2), some (vI a3), some (vI a4), some (vI a5), some (vI a6), some (vJ z25), none, some (vJ z34), none] [] S31 F32 G33 Q
          refine go_iload (show decode cX10_share 81 = .ok (.iload 6, 2) by decide +kernel) (by rfl) ?_
          obtain ⟨ht, hf⟩ := h
          refine go_ifne (tgt := 91) (show decode cX10_share 83 = .ok (.ifCond .ne 8, 3) by decide +kernel) (by decide) (fun hc => ?_) (fun hc => ?_)
          · have h := ht hc
            refine go_aload_n (show decode cX10_share 91 = .ok (.aload_n 0, 1) by decide +kernel) (by rfl) ?_
            obtain ⟨q35, h⟩ := h
            refine go_getR (show decode cX10_share 92 = .ok (.getfield 43, 3) by decide +kernel) fl_X10_43 rfl q35 ?_
            refine go_iload_n (show decode cX10_share 95 = .ok (.iload_n 1, 1) by decide +kernel) (by rfl) ?_
            obtain ⟨q36, h⟩ := h
            obtain ⟨q37, h⟩ := h
            obtain ⟨q38, h⟩ := h
            refine go_laload (show decode cX10_share 96 = .ok (.laload, 1) by decide +kernel) q36 q37 q38 ?_
            refine go_lload (show decode cX10_share 97 = .ok (.lload 9, 2) by decide +kernel) (by rfl) ?_
            obtain ⟨q39, h⟩ := h
            obtain ⟨q40, h⟩ := h
            refine go_ldiv (show decode cX10_share 99 = .ok (.ldiv, 1) by decide +kernel) q39 q40 ?_
            exact go_lret (show decode cX10_share 100 = .ok (.lreturn, 1) by decide +kernel) rfl h
          · have h := hf hc
            refine go_lload (show decode cX10_share 86 = .ok (.lload 7, 2) by decide +kernel) (by rfl) ?_
            refine go_goto (tgt := 97) (show decode cX10_share 88 = .ok (.goto 9, 3) by decide +kernel) (by decide) ?_
            refine go_lload (show decode cX10_share 97 = .ok (.lload 9, 2) by decide +kernel) (by rfl) ?_
            obtain ⟨q41, h⟩ := h
            obtain ⟨q42, h⟩ := h
            refine go_ldiv (show decode cX10_share 99 = .ok (.ldiv, 1) by decide +kernel) q41 q42 ?_
            exact go_lret (show decode cX10_share 100 = .ok (.lreturn, 1) by decide +kernel) rfl h
        · have h := hf hc
          refine go_iload (show decode cX10_share 64 = .ok (.iload 6, 2) by decide +kernel) (by rfl) ?_
          refine go_i2l (show decode cX10_share 66 = .ok (.i2l, 1) by decide +kernel) ?_
          exact go_lret (show decode cX10_share 67 = .ok (.lreturn, 1) by decide +kernel) rfl h
      · have h := hf hc
        refine go_ldc2 (show decode cX10_share 36 = .ok (.ldc2_w 174, 3) by decide +kernel) lc_X10_174 (by decide) ?_
        exact go_lret (show decode cX10_share 39 = .ok (.lreturn, 1) by decide +kernel) rfl h
def V_X10_common_0 (d : Nat) (S : AS) (F : AF) (G : AG) (Q : AQ) (a0 : Int) (a2 : Int) : Prop :=
  ((¬ a2 = 0) →
    (¬ a2 = 0) ∧
    (r64 (Int.tdiv a0 a2)) ∧
    (r64 (Int.tmod a0 a2)) ∧
    (1 ≤ d) ∧
    Ok (d - 1) MX10_common [vJ a2, vJ (Int.tmod a0 a2)] S F G (fun w5 S6 F7 G8 =>
    ∃ z9 : Int, w5 = some (vJ z9) ∧
    Q (some (vJ z9)) S6 F7 G8)) ∧
  ((a2 = 0) →
    Q (some (vJ a0)) S F G)
theorem R_X10_common_0 {d : Nat} {S : AS} {F : AF} {G : AG} {Q : AQ} {a0 : Int} {a2 : Int} (h : V_X10_common_0 d S F G Q a0 a2) : Go d MX10_common 0 [some (vJ a0), none, some (vJ a2), none] [] S F G Q := by
  unfold V_X10_common_0 at h
  refine go_lload_n (show decode cX10_common 0 = .ok (.lload_n 2, 1) by decide +kernel) (by rfl) ?_
  refine go_lconst (n := 0) (show decode cX10_common 1 = .ok (.lconst 0, 1) by decide +kernel) ?_
  show Go d MX10_common 2 [some (vJ a0), none, some (vJ a2), none] [vJ 0, vJ a2] S F G Q
  obtain ⟨ht, hf⟩ := h
  refine go_jne (tgt := 10) (show decode cX10_common 2 = .ok (.lcmp, 1) by decide +kernel) (show decode cX10_common 3 = .ok (.ifCond .ne 7, 3) by decide +kernel) (by decide) (fun hc => ?_) (fun hc => ?_)
  · have h := ht hc
    refine go_lload_n (show decode cX10_common 10 = .ok (.lload_n 2, 1) by decide +kernel) (by rfl) ?_
    refine go_lload_n (show decode cX10_common 11 = .ok (.lload_n 0, 1) by decide +kernel) (by rfl) ?_
    refine go_lload_n (show decode cX10_common 12 = .ok (.lload_n 2, 1) by decide +kernel) (by rfl) ?_
    obtain ⟨q1, h⟩ := h
    obtain ⟨q2, h⟩ := h
    obtain ⟨q3, h⟩ := h
    refine go_lrem (show decode cX10_common 13 = .ok (.lrem, 1) by decide +kernel) q1 q2 q3 ?_
    obtain ⟨q4, h⟩ := h
    refine go_callS (d2 := d - 1) (M2 := MX10_common) (n := 2) (av := [vJ a2, vJ (Int.tmod a0 a2)]) (st := []) (show decode cX10_common 14 = .ok (.invokestatic 409, 3) by decide +kernel) ml_X10_409 mt_X10_common mst_X10_common rfl (Nat.le_of_ble_eq_true rfl) (by omega) (ok_mono h (fun w5 S6 F7 G8 h => ?_))
    obtain ⟨z9, e9, h⟩ := h
    subst e9
    show Go d MX10_common 17 [some (vJ a0), none, some (vJ a2), none] [vJ z9] S6 F7 G8 Q
    exact go_lret (show decode cX10_common 17 = .ok (.lreturn, 1) by decide +kernel) rfl h
  · have h := hf hc
    refine go_lload_n (show decode cX10_common 6 = .ok (.lload_n 0, 1) by decide +kernel) (by rfl) ?_
    refine go_goto (tgt := 17) (show decode cX10_common 7 = .ok (.goto 10, 3) by decide +kernel) (by decide) ?_
    exact go_lret (show decode cX10_common 17 = .ok (.lreturn, 1) by decide +kernel) rfl h
def V_X10_atLeast_0 (d : Nat) (S : AS) (F : AF) (G : AG) (Q : AQ) (a0 : Nat) (a1 : Int) (a2 : Int) (a3 : Int) (a4 : Int) (a5 : Int) (a6 : Int) : Prop :=
  (sK S a0 = 10) ∧
  ∀ F2 : AF, F2 = fu F a0 0 0 →
  (1 ≤ d) ∧
  Ok (d - 1) MX10_isGoodOrAll [vI a1] S F2 G (fun w4 S5 F6 G7 =>
  ∃ z8 : Int, w4 = some (vI z8) ∧
  ((z8 = 0) →
    Q (some (vJ (-2))) S5 F6 G7) ∧
  ((¬ z8 = 0) →
    (sK S5 a0 = 10) ∧
    Ok (d - 1) MX10_isRectangle [vR a0, vI a2, vI a3, vI a4, vI a5] S5 F6 G7 (fun w9 S10 F11 G12 =>
    ∃ z14 : Int, w9 = some (vI z14) ∧
    ((¬ z14 = 0) →
      ((0 ≤ a6) →
        (sK S10 a0 = 10) ∧
        Ok (d - 1) MX10_cellsFrom [vR a0, vI a1, vI a2, vI a3, vI a4, vI a5, vJ a6] S10 F11 G12 (fun w15 S16 F17 G18 =>
        ∃ z20 : Int, w15 = some (vJ z20) ∧
        Q (some (vJ z20)) S16 F17 G18)) ∧
      ((¬ 0 ≤ a6) →
        Q (some (vJ (-3))) S10 F11 G12)) ∧
    ((z14 = 0) →
      Q (some (vJ (-2))) S10 F11 G12))))
theorem R_X10_atLeast_0 {d : Nat} {S : AS} {F : AF} {G : AG} {Q : AQ} {a0 : Nat} {a1 : Int} {a2 : Int} {a3 : Int} {a4 : Int} {a5 : Int} {a6 : Int} (h : V_X10_atLeast_0 d S F G Q a0 a1 a2 a3 a4 a5 a6) : Go d MX10_atLeast 0 [some (vR a0), some (vI a1), some (vI a2), some (vI a3), some (vI a4), some (vI a5), some (vJ a6), none] [] S F G Q := by
  unfold V_X10_atLeast_0 at h
  refine go_aload_n (show decode cX10_atLeast 0 = .ok (.aload_n 0, 1) by decide +kernel) (by rfl) ?_
  refine go_iconst (show decode cX10_atLeast 1 = .ok (.iconst 0, 1) by decide +kernel) (by decide) ?_
  obtain ⟨q1, h⟩ := h
  refine go_putI (show decode cX10_atLeast 2 = .ok (.putfield 1, 3) by decide +kernel) fl_X10_1 rfl (Or.inl rfl) q1 ?_
  obtain ⟨F2, F2e⟩ : ∃ F2 : AF, F2 = fu F a0 0 0 := ⟨_, rfl⟩
  have h := h F2 F2e
  rw [← F2e]
  refine go_iload_n (show decode cX10_atLeast 5 = .ok (.iload_n 1, 1) by decide +kernel) (by rfl) ?_
  obtain ⟨q3, h⟩ := h
  refine go_callS (d2 := d - 1) (M2 := MX10_isGoodOrAll) (n := 1) (av := [vI a1]) (st := []) (show decode cX10_atLeast 6 = .ok (.invokestatic 403, 3) by decide +kernel) ml_X10_403 mt_X10_isGoodOrAll mst_X10_isGoodOrAll rfl (Nat.le_of_ble_eq_true rfl) (by omega) (ok_mono h (fun w4 S5 F6 G7 h => ?_))
  obtain ⟨z8, e9, h⟩ := h
  subst e9
  show Go d MX10_atLeast 9 [some (vR a0), some (vI a1), some (vI a2), some (vI a3), some (vI a4), some (vI a5), some (vJ a6), none] [vI z8] S5 F6 G7 Q
  obtain ⟨ht, hf⟩ := h
  refine go_ifeq (tgt := 25) (show decode cX10_atLeast 9 = .ok (.ifCond .eq 16, 3) by decide +kernel) (by decide) (fun hc => ?_) (fun hc => ?_)
  · have h := ht hc
    refine go_ldc2 (show decode cX10_atLeast 25 = .ok (.ldc2_w 174, 3) by decide +kernel) lc_X10_174 (by decide) ?_
    exact go_lret (show decode cX10_atLeast 28 = .ok (.lreturn, 1) by decide +kernel) rfl h
  · have h := hf hc
    refine go_aload_n (show decode cX10_atLeast 12 = .ok (.aload_n 0, 1) by decide +kernel) (by rfl) ?_
    refine go_iload_n (show decode cX10_atLeast 13 = .ok (.iload_n 2, 1) by decide +kernel) (by rfl) ?_
    refine go_iload_n (show decode cX10_atLeast 14 = .ok (.iload_n 3, 1) by decide +kernel) (by rfl) ?_
    refine go_iload (show decode cX10_atLeast 15 = .ok (.iload 4, 2) by decide +kernel) (by rfl) ?_
    refine go_iload (show decode cX10_atLeast 17 = .ok (.iload 5, 2) by decide +kernel) (by rfl) ?_
    obtain ⟨q13, h⟩ := h
    refine go_callV (d2 := d - 1) (M2 := MX10_isRectangle) (n := 4) (ci := 10) (av := [vI a2, vI a3, vI a4, vI a5]) (st := []) (show decode cX10_atLeast 19 = .ok (.invokevirtual 170, 3) by decide +kernel) ml_X10_170 mt_X10_isRectangle min_X10_isRectangle mse_X10_isRectangle (by decide) q13 rfl (Nat.le_of_ble_eq_true rfl) (by omega) (ok_mono h (fun w9 S10 F11 G12 h => ?_))
    obtain ⟨z14, e9, h⟩ := h
    subst e9
    show Go d MX10_atLeast 22 [some (vR a0), some (vI a1), some (vI a2), some (vI a3), some (vI a4), some (vI a5), some (vJ a6), none] [vI z14] S10 F11 G12 Q
    obtain ⟨ht, hf⟩ := h
    refine go_ifne (tgt := 29) (show decode cX10_atLeast 22 = .ok (.ifCond .ne 7, 3) by decide +kernel) (by decide) (fun hc => ?_) (fun hc => ?_)
    · have h := ht hc
      refine go_lload (show decode cX10_atLeast 29 = .ok (.lload 6, 2) by decide +kernel) (by rfl) ?_
      refine go_lconst (n := 0) (show decode cX10_atLeast 31 = .ok (.lconst 0, 1) by decide +kernel) ?_
      show Go d MX10_atLeast 32 [some (vR a0), some (vI a1), some (vI a2), some (vI a3), some (vI a4), some (vI a5), some (vJ a6), none] [vJ 0, vJ a6] S10 F11 G12 Q
      obtain ⟨ht, hf⟩ := h
      refine go_jge (tgt := 42) (show decode cX10_atLeast 32 = .ok (.lcmp, 1) by decide +kernel) (show decode cX10_atLeast 33 = .ok (.ifCond .ge 9, 3) by decide +kernel) (by decide) (fun hc => ?_) (fun hc => ?_)
      · have h := ht hc
        refine go_aload_n (show decode cX10_atLeast 42 = .ok (.aload_n 0, 1) by decide +kernel) (by rfl) ?_
        refine go_iload_n (show decode cX10_atLeast 43 = .ok (.iload_n 1, 1) by decide +kernel) (by rfl) ?_
        refine go_iload_n (show decode cX10_atLeast 44 = .ok (.iload_n 2, 1) by decide +kernel) (by rfl) ?_
        refine go_iload_n (show decode cX10_atLeast 45 = .ok (.iload_n 3, 1) by decide +kernel) (by rfl) ?_
        refine go_iload (show decode cX10_atLeast 46 = .ok (.iload 4, 2) by decide +kernel) (by rfl) ?_
        refine go_iload (show decode cX10_atLeast 48 = .ok (.iload 5, 2) by decide +kernel) (by rfl) ?_
        refine go_lload (show decode cX10_atLeast 50 = .ok (.lload 6, 2) by decide +kernel) (by rfl) ?_
        obtain ⟨q19, h⟩ := h
        refine go_callV (d2 := d - 1) (M2 := MX10_cellsFrom) (n := 6) (ci := 10) (av := [vI a1, vI a2, vI a3, vI a4, vI a5, vJ a6]) (st := []) (show decode cX10_atLeast 52 = .ok (.invokevirtual 412, 3) by decide +kernel) ml_X10_412 mt_X10_cellsFrom min_X10_cellsFrom mse_X10_cellsFrom (by decide) q19 rfl (Nat.le_of_ble_eq_true rfl) (by omega) (ok_mono h (fun w15 S16 F17 G18 h => ?_))
        obtain ⟨z20, e9, h⟩ := h
        subst e9
        show Go d MX10_atLeast 55 [some (vR a0), some (vI a1), some (vI a2), some (vI a3), some (vI a4), some (vI a5), some (vJ a6), none] [vJ z20] S16 F17 G18 Q
        exact go_lret (show decode cX10_atLeast 55 = .ok (.lreturn, 1) by decide +kernel) rfl h
      · have h := hf hc
        refine go_ldc2 (show decode cX10_atLeast 36 = .ok (.ldc2_w 120, 3) by decide +kernel) lc_X10_120 (by decide) ?_
        refine go_goto (tgt := 55) (show decode cX10_atLeast 39 = .ok (.goto 16, 3) by decide +kernel) (by decide) ?_
        exact go_lret (show decode cX10_atLeast 55 = .ok (.lreturn, 1) by decide +kernel) rfl h
    · have h := hf hc
      refine go_ldc2 (show decode cX10_atLeast 25 = .ok (.ldc2_w 174, 3) by decide +kernel) lc_X10_174 (by decide) ?_
      exact go_lret (show decode cX10_atLeast 28 = .ok (.lreturn, 1) by decide +kernel) rfl h
def V_X10_cellsFrom_75 (d : Nat) (S : AS) (F : AF) (G : AG) (Q : AQ) (a0 : Nat) (a1 : Int) (a2 : Int) (a3 : Int) (a4 : Int) (a5 : Int) (a6 : Int) (a8 : Int) (a10 : Int) (a11 : Int) (s0 : Int) (s1 : Int) : Prop :=
  (r64 (s1 + s0)) ∧
  ∀ x2 : Int, x2 = s1 + s0 →
  (r32 (a11 + 1)) ∧
  Go d MX10_cellsFrom 20 [some (vR a0), some (vI a1), some (vI a2), some (vI a3), some (vI a4), some (vI a5), some (vJ a6), none, some (vJ x2), none, some (vI a10), some (vI (a11 + 1))] [] S F G Q
theorem R_X10_cellsFrom_75 {d : Nat} {S : AS} {F : AF} {G : AG} {Q : AQ} {a0 : Nat} {a1 : Int} {a2 : Int} {a3 : Int} {a4 : Int} {a5 : Int} {a6 : Int} {a8 : Int} {a10 : Int} {a11 : Int} {s0 : Int} {s1 : Int} (h : V_X10_cellsFrom_75 d S F G Q a0 a1 a2 a3 a4 a5 a6 a8 a10 a11 s0 s1) : Go d MX10_cellsFrom 75 [some (vR a0), some (vI a1), some (vI a2), some (vI a3), some (vI a4), some (vI a5), some (vJ a6), none, some (vJ a8), none, some (vI a10), some (vI a11)] [vJ s0, vJ s1] S F G Q := by
  unfold V_X10_cellsFrom_75 at h
  obtain ⟨q1, h⟩ := h
  refine go_ladd (show decode cX10_cellsFrom 75 = .ok (.ladd, 1) by decide +kernel) q1 ?_
  obtain ⟨x2, x2e⟩ : ∃ x2 : Int, x2 = s1 + s0 := ⟨_, rfl⟩
  have h := h x2 x2e
  rw [← x2e]
  refine go_lstore (show decode cX10_cellsFrom 76 = .ok (.lstore 8, 2) by decide +kernel) (by decide) ?_
  show Go d MX10_cellsFrom 78 [some (vR a0), some (vI a1), some (vI a2), some (vI a3), some (vI a4), some (vI a5), some (vJ a6), none, some (vJ x2), none, some (vI a10), some (vI a11)] [] S F G Q
  obtain ⟨q3, h⟩ := h
  refine go_iinc (show decode cX10_cellsFrom 78 = .ok (.iinc 11 1, 3) by decide +kernel) (by rfl) q3 (by decide) ?_
  show Go d MX10_cellsFrom 81 [some (vR a0), some (vI a1), some (vI a2), some (vI a3), some (vI a4), some (vI a5), some (vJ a6), none, some (vJ x2), none, some (vI a10), some (vI (a11 + 1))] [] S F G Q
  refine go_goto (tgt := 20) (show decode cX10_cellsFrom 81 = .ok (.goto (-61), 3) by decide +kernel) (by decide) ?_
  exact h
def V_X10_cellsFrom_20 (d : Nat) (S : AS) (F : AF) (G : AG) (Q : AQ) (a0 : Nat) (a1 : Int) (a2 : Int) (a3 : Int) (a4 : Int) (a5 : Int) (a6 : Int) (a8 : Int) (a10 : Int) (a11 : Int) : Prop :=
  (sK S a0 = 10) ∧
  (sK S (sR S a0 5) = 20) ∧
  ((1 : Int) < (sN S (sR S a0 5) : Int)) ∧
  ((G (sR S a0 5) 1 ≤ a11) →
    (r32 (a10 + 1)) ∧
    Go d MX10_cellsFrom 6 [some (vR a0), some (vI a1), some (vI a2), some (vI a3), some (vI a4), some (vI a5), some (vJ a6), none, some (vJ a8), none, some (vI (a10 + 1)), none] [] S F G Q) ∧
  ((¬ G (sR S a0 5) 1 ≤ a11) →
    (1 ≤ d) ∧
    Ok (d - 1) MX10_in [vR a0, vI a1, vI a10, vI a11] S F G (fun w6 S7 F8 G9 =>
    ∃ z10 : Int, w6 = some (vJ z10) ∧
    ((z10 < a6) →
      V_X10_cellsFrom_75 d S7 F8 G9 Q a0 a1 a2 a3 a4 a5 a6 a8 a10 a11 0 a8) ∧
    ((¬ z10 < a6) →
      (sK S7 a0 = 10) ∧
      Ok (d - 1) MX10_part [vR a0, vI 0, vI a10, vI a2, vI a4] S7 F8 G9 (fun w11 S12 F13 G14 =>
      ∃ z16 : Int, w11 = some (vI z16) ∧
      (sK S12 a0 = 10) ∧
      Ok (d - 1) MX10_part [vR a0, vI 1, vI a11, vI a3, vI a5] S12 F13 G14 (fun w17 S18 F19 G20 =>
      ∃ z22 : Int, w17 = some (vI z22) ∧
      (r64 (z16 * z22)) ∧
      V_X10_cellsFrom_75 d S18 F19 G20 Q a0 a1 a2 a3 a4 a5 a6 a8 a10 a11 (z16 * z22) a8)))))
theorem R_X10_cellsFrom_20 {d : Nat} {S : AS} {F : AF} {G : AG} {Q : AQ} {a0 : Nat} {a1 : Int} {a2 : Int} {a3 : Int} {a4 : Int} {a5 : Int} {a6 : Int} {a8 : Int} {a10 : Int} {a11 : Int} (h : V_X10_cellsFrom_20 d S F G Q a0 a1 a2 a3 a4 a5 a6 a8 a10 a11) : Go d MX10_cellsFrom 20 [some (vR a0), some (vI a1), some (vI a2), some (vI a3), some (vI a4), some (vI a5), some (vJ a6), none, some (vJ a8), none, some (vI a10), some (vI a11)] [] S F G Q := by
  unfold V_X10_cellsFrom_20 at h
  refine go_iload (show decode cX10_cellsFrom 20 = .ok (.iload 11, 2) by decide +kernel) (by rfl) ?_
  refine go_aload_n (show decode cX10_cellsFrom 22 = .ok (.aload_n 0, 1) by decide +kernel) (by rfl) ?_
  obtain ⟨q1, h⟩ := h
  refine go_getR (show decode cX10_cellsFrom 23 = .ok (.getfield 29, 3) by decide +kernel) fl_X10_29 rfl q1 ?_
  refine go_iconst (show decode cX10_cellsFrom 26 = .ok (.iconst 1, 1) by decide +kernel) (by decide) ?_
  obtain ⟨q2, h⟩ := h
  obtain ⟨q3, h⟩ := h
  refine go_iaload (show decode cX10_cellsFrom 27 = .ok (.iaload, 1) by decide +kernel) q2 (by decide) q3 ?_
  obtain ⟨ht, hf⟩ := h
  refine go_icmpge (tgt := 84) (show decode cX10_cellsFrom 28 = .ok (.if_icmp .ge 56, 3) by decide +kernel) (by decide) (fun hc => ?_) (fun hc => ?_)
  · have h := ht hc
    obtain ⟨q4, h⟩ := h
    refine go_iinc (show decode cX10_cellsFrom 84 = .ok (.iinc 10 1, 3) by decide +kernel) (by rfl) q4 (by decide) ?_
    show Go d MX10_cellsFrom 87 [some (vR a0), some (vI a1), some (vI a2), some (vI a3), some (vI a4), some (vI a5), some (vJ a6), none, some (vJ a8), none, some (vI (a10 + 1)), some (vI a11)] [] S F G Q
    refine go_goto (tgt := 6) (show decode cX10_cellsFrom 87 = .ok (.goto (-81), 3) by decide +kernel) (by decide) ?_
    refine go_clr 11 ?_
    exact h
  · have h := hf hc
    refine go_lload (show decode cX10_cellsFrom 31 = .ok (.lload 8, 2) by decide +kernel) (by rfl) ?_
    refine go_aload_n (show decode cX10_cellsFrom 33 = .ok (.aload_n 0, 1) by decide +kernel) (by rfl) ?_
    refine go_iload_n (show decode cX10_cellsFrom 34 = .ok (.iload_n 1, 1) by decide +kernel) (by rfl) ?_
    refine go_iload (show decode cX10_cellsFrom 35 = .ok (.iload 10, 2) by decide +kernel) (by rfl) ?_
    refine go_iload (show decode cX10_cellsFrom 37 = .ok (.iload 11, 2) by decide +kernel) (by rfl) ?_
    obtain ⟨q5, h⟩ := h
    refine go_callV (d2 := d - 1) (M2 := MX10_in) (n := 3) (ci := 10) (av := [vI a1, vI a10, vI a11]) (st := [vJ a8]) (show decode cX10_cellsFrom 39 = .ok (.invokevirtual 163, 3) by decide +kernel) ml_X10_163 mt_X10_in min_X10_in mse_X10_in (by decide) q1 rfl (Nat.le_of_ble_eq_true rfl) (by omega) (ok_mono h (fun w6 S7 F8 G9 h => ?_))
    obtain ⟨z10, e9, h⟩ := h
    subst e9
    show Go d MX10_cellsFrom 42 [some (vR a0), some (vI a1), some (vI a2), some (vI a3), some (vI a4), some (vI a5), some (vJ a6), none, some (vJ a8), none, some (vI a10), some (vI a11)] [vJ z10, vJ a8] S7 F8 G9 Q
    refine go_lload (show decode cX10_cellsFrom 42 = .ok (.lload 6, 2) by decide +kernel) (by rfl) ?_
    obtain ⟨ht, hf⟩ := h
    refine go_jlt (tgt := 74) (show decode cX10_cellsFrom 44 = .ok (.lcmp, 1) by decide +kernel) (show decode cX10_cellsFrom 45 = .ok (.ifCond .lt 29, 3) by decide +kernel) (by decide) (fun hc => ?_) (fun hc => ?_)
    · have h := ht hc
      refine go_lconst (n := 0) (show decode cX10_cellsFrom 74 = .ok (.lconst 0, 1) by decide +kernel) ?_
      show Go d MX10_cellsFrom 75 [some (vR a0), some (vI a1), some (vI a2), some (vI a3), some (vI a4), some (vI a5), some (vJ a6), none, some (vJ a8), none, some (vI a10), some (vI a11)] [vJ 0, vJ a8] S7 F8 G9 Q
      exact R_X10_cellsFrom_75 h
    · have h := hf hc
      refine go_aload_n (show decode cX10_cellsFrom 48 = .ok (.aload_n 0, 1) by decide +kernel) (by rfl) ?_
      refine go_iconst (show decode cX10_cellsFrom 49 = .ok (.iconst 0, 1) by decide +kernel) (by decide) ?_
      refine go_iload (show decode cX10_cellsFrom 50 = .ok (.iload 10, 2) by decide +kernel) (by rfl) ?_
      refine go_iload_n (show decode cX10_cellsFrom 52 = .ok (.iload_n 2, 1) by decide +kernel) (by rfl) ?_
      refine go_iload (show decode cX10_cellsFrom 53 = .ok (.iload 4, 2) by decide +kernel) (by rfl) ?_
      obtain ⟨q15, h⟩ := h
      refine go_callV (d2 := d - 1) (M2 := MX10_part) (n := 4) (ci := 10) (av := [vI 0, vI a10, vI a2, vI a4]) (st := [vJ a8]) (show decode cX10_cellsFrom 55 = .ok (.invokevirtual 159, 3) by decide +kernel) ml_X10_159 mt_X10_part min_X10_part mse_X10_part (by decide) q15 rfl (Nat.le_of_ble_eq_true rfl) (by omega) (ok_mono h (fun w11 S12 F13 G14 h => ?_))
      obtain ⟨z16, e9, h⟩ := h
      subst e9
      show Go d MX10_cellsFrom 58 [some (vR a0), some (vI a1), some (vI a2), some (vI a3), some (vI a4), some (vI a5), some (vJ a6), none, some (vJ a8), none, some (vI a10), some (vI a11)] [vI z16, vJ a8] S12 F13 G14 Q
      refine go_i2l (show decode cX10_cellsFrom 58 = .ok (.i2l, 1) by decide +kernel) ?_
      refine go_aload_n (show decode cX10_cellsFrom 59 = .ok (.aload_n 0, 1) by decide +kernel) (by rfl) ?_
      refine go_iconst (show decode cX10_cellsFrom 60 = .ok (.iconst 1, 1) by decide +kernel) (by decide) ?_
      refine go_iload (show decode cX10_cellsFrom 61 = .ok (.iload 11, 2) by decide +kernel) (by rfl) ?_
      refine go_iload_n (show decode cX10_cellsFrom 63 = .ok (.iload_n 3, 1) by decide +kernel) (by rfl) ?_
      refine go_iload (show decode cX10_cellsFrom 64 = .ok (.iload 5, 2) by decide +kernel) (by rfl) ?_
      obtain ⟨q21, h⟩ := h
      refine go_callV (d2 := d - 1) (M2 := MX10_part) (n := 4) (ci := 10) (av := [vI 1, vI a11, vI a3, vI a5]) (st := [vJ z16, vJ a8]) (show decode cX10_cellsFrom 66 = .ok (.invokevirtual 159, 3) by decide +kernel) ml_X10_159 mt_X10_part min_X10_part mse_X10_part (by decide) q21 rfl (Nat.le_of_ble_eq_true rfl) (by omega) (ok_mono h (fun w17 S18 F19 G20 h => ?_))
      obtain ⟨z22, e9, h⟩ := h
      subst e9
      show Go d MX10_cellsFrom 69 [some (vR a0), some (vI a1), some (vI a2), some (vI a3), some (vI a4), some (vI a5), some (vJ a6), none, some (vJ a8), none, some (vI a10), some (vI a11)] [vI z22, vJ z16, vJ a8] S18 F19 G20 Q
      refine go_i2l (show decode cX10_cellsFrom 69 = .ok (.i2l, 1) by decide +kernel) ?_
      obtain ⟨q23, h⟩ := h
      refine go_lmul (show decode cX10_cellsFrom 70 = .ok (.lmul, 1) by decide +kernel) q23 ?_
      refine go_goto (tgt := 75) (show decode cX10_cellsFrom 71 = .ok (.goto 4, 3) by decide +kernel) (by decide) ?_
      exact R_X10_cellsFrom_75 h
def V_X10_cellsFrom_6 (d : Nat) (S : AS) (F : AF) (G : AG) (Q : AQ) (a0 : Nat) (a1 : Int) (a2 : Int) (a3 : Int) (a4 : Int) (a5 : Int) (a6 : Int) (a8 : Int) (a10 : Int) : Prop :=
  (sK S a0 = 10) ∧
  (sK S (sR S a0 5) = 20) ∧
  ((0 : Int) < (sN S (sR S a0 5) : Int)) ∧
  ((G (sR S a0 5) 0 ≤ a10) →
    Q (some (vJ a8)) S F G) ∧
  ((¬ G (sR S a0 5) 0 ≤ a10) →
    Go d MX10_cellsFrom 20 [some (vR a0), some (vI a1), some (vI a2), some (vI a3), some (vI a4), some (vI a5), some (vJ a6), none, some (vJ a8), none, some (vI a10), some (vI 0)] [] S F G Q)
theorem R_X10_cellsFrom_6 {d : Nat} {S : AS} {F : AF} {G : AG} {Q : AQ} {a0 : Nat} {a1 : Int} {a2 : Int} {a3 : Int} {a4 : Int} {a5 : Int} {a6 : Int} {a8 : Int} {a10 : Int} (h : V_X10_cellsFrom_6 d S F G Q a0 a1 a2 a3 a4 a5 a6 a8 a10) : Go d MX10_cellsFrom 6 [some (vR a0), some (vI a1), some (vI a2), some (vI a3), some (vI a4), some (vI a5), some (vJ a6), none, some (vJ a8), none, some (vI a10), none] [] S F G Q := by
  unfold V_X10_cellsFrom_6 at h
  refine go_iload (show decode cX10_cellsFrom 6 = .ok (.iload 10, 2) by decide +kernel) (by rfl) ?_
  refine go_aload_n (show decode cX10_cellsFrom 8 = .ok (.aload_n 0, 1) by decide +kernel) (by rfl) ?_
  obtain ⟨q1, h⟩ := h
  refine go_getR (show decode cX10_cellsFrom 9 = .ok (.getfield 29, 3) by decide +kernel) fl_X10_29 rfl q1 ?_
  refine go_iconst (show decode cX10_cellsFrom 12 = .ok (.iconst 0, 1) by decide +kernel) (by decide) ?_
  obtain ⟨q2, h⟩ := h
  obtain ⟨q3, h⟩ := h
  refine go_iaload (show decode cX10_cellsFrom 13 = .ok (.iaload, 1) by decide +kernel) q2 (by decide) q3 ?_
  obtain ⟨ht, hf⟩ := h
  refine go_icmpge (tgt := 90) (show decode cX10_cellsFrom 14 = .ok (.if_icmp .ge 76, 3) by decide +kernel) (by decide) (fun hc => ?_) (fun hc => ?_)
  · have h := ht hc
    refine go_lload (show decode cX10_cellsFrom 90 = .ok (.lload 8, 2) by decide +kernel) (by rfl) ?_
    exact go_lret (show decode cX10_cellsFrom 92 = .ok (.lreturn, 1) by decide +kernel) rfl h
  · have h := hf hc
    refine go_iconst (show decode cX10_cellsFrom 17 = .ok (.iconst 0, 1) by decide +kernel) (by decide) ?_
    refine go_istore (show decode cX10_cellsFrom 18 = .ok (.istore 11, 2) by decide +kernel) (by decide) ?_
    show Go d MX10_cellsFrom 20 [some (vR a0), some (vI a1), some (vI a2), some (vI a3), some (vI a4), some (vI a5), some (vJ a6), none, some (vJ a8), none, some (vI a10), some (vI 0)] [] S F G Q
    exact h
def V_X10_cellsFrom_0 (d : Nat) (S : AS) (F : AF) (G : AG) (Q : AQ) (a0 : Nat) (a1 : Int) (a2 : Int) (a3 : Int) (a4 : Int) (a5 : Int) (a6 : Int) : Prop :=
  Go d MX10_cellsFrom 6 [some (vR a0), some (vI a1), some (vI a2), some (vI a3), some (vI a4), some (vI a5), some (vJ a6), none, some (vJ 0), none, some (vI 0), none] [] S F G Q
theorem R_X10_cellsFrom_0 {d : Nat} {S : AS} {F : AF} {G : AG} {Q : AQ} {a0 : Nat} {a1 : Int} {a2 : Int} {a3 : Int} {a4 : Int} {a5 : Int} {a6 : Int} (h : V_X10_cellsFrom_0 d S F G Q a0 a1 a2 a3 a4 a5 a6) : Go d MX10_cellsFrom 0 [some (vR a0), some (vI a1), some (vI a2), some (vI a3), some (vI a4), some (vI a5), some (vJ a6), none, none, none, none, none] [] S F G Q := by
  unfold V_X10_cellsFrom_0 at h
  refine go_lconst (n := 0) (show decode cX10_cellsFrom 0 = .ok (.lconst 0, 1) by decide +kernel) ?_
  show Go d MX10_cellsFrom 1 [some (vR a0), some (vI a1), some (vI a2), some (vI a3), some (vI a4), some (vI a5), some (vJ a6), none, none, none, none, none] [vJ 0] S F G Q
  refine go_lstore (show decode cX10_cellsFrom 1 = .ok (.lstore 8, 2) by decide +kernel) (by decide) ?_
  show Go d MX10_cellsFrom 3 [some (vR a0), some (vI a1), some (vI a2), some (vI a3), some (vI a4), some (vI a5), some (vJ a6), none, some (vJ 0), none, none, none] [] S F G Q
  refine go_iconst (show decode cX10_cellsFrom 3 = .ok (.iconst 0, 1) by decide +kernel) (by decide) ?_
  refine go_istore (show decode cX10_cellsFrom 4 = .ok (.istore 10, 2) by decide +kernel) (by decide) ?_
  show Go d MX10_cellsFrom 6 [some (vR a0), some (vI a1), some (vI a2), some (vI a3), some (vI a4), some (vI a5), some (vJ a6), none, some (vJ 0), none, some (vI 0), none] [] S F G Q
  exact h
def V_X10_value_135 (d : Nat) (S : AS) (F : AF) (G : AG) (Q : AQ) (a0 : Nat) (a1 : Int) (a2 : Int) (a3 : Int) (a4 : Int) (a5 : Int) (a6 : Int) (a8 : Int) (a10 : Int) (a12 : Int) (a14 : Int) : Prop :=
  Go d MX10_value 77 [some (vR a0), some (vI a1), some (vI a2), some (vI a3), some (vI a4), some (vI a5), some (vJ a6), none, some (vJ a8), none, some (vJ a10), none, some (vJ a12), none, none, none] [] S F G Q
theorem R_X10_value_135 {d : Nat} {S : AS} {F : AF} {G : AG} {Q : AQ} {a0 : Nat} {a1 : Int} {a2 : Int} {a3 : Int} {a4 : Int} {a5 : Int} {a6 : Int} {a8 : Int} {a10 : Int} {a12 : Int} {a14 : Int} (h : V_X10_value_135 d S F G Q a0 a1 a2 a3 a4 a5 a6 a8 a10 a12 a14) : Go d MX10_value 135 [some (vR a0), some (vI a1), some (vI a2), some (vI a3), some (vI a4), some (vI a5), some (vJ a6), none, some (vJ a8), none, some (vJ a10), none, some (vJ a12), none, some (vJ a14), none] [] S F G Q := by
  unfold V_X10_value_135 at h
  refine go_goto (tgt := 77) (show decode cX10_value 135 = .ok (.goto (-58), 3) by decide +kernel) (by decide) ?_
  refine go_clr 14 ?_
  exact h
def V_X10_value_77 (d : Nat) (S : AS) (F : AF) (G : AG) (Q : AQ) (a0 : Nat) (a1 : Int) (a2 : Int) (a3 : Int) (a4 : Int) (a5 : Int) (a6 : Int) (a8 : Int) (a10 : Int) (a12 : Int) : Prop :=
  ((a12 ≤ a10) →
    Q (some (vJ a10)) S F G) ∧
  ((¬ a12 ≤ a10) →
    (r64 (a10 + a12)) ∧
    (r64 ((a10 + a12) + 1)) ∧
    (r64 (Int.tdiv ((a10 + a12) + 1) 2)) ∧
    ∀ x4 : Int, x4 = Int.tdiv ((a10 + a12) + 1) 2 →
    (1 ≤ d) ∧
    (sK S a0 = 10) ∧
    Ok (d - 1) MX10_cellsFrom [vR a0, vI a1, vI a2, vI a3, vI a4, vI a5, vJ x4] S F G (fun w6 S7 F8 G9 =>
    ∃ z11 : Int, w6 = some (vJ z11) ∧
    (r64 (a8 - a6)) ∧
    (r64 ((a8 - a6) + 1)) ∧
    ((z11 < (a8 - a6) + 1) →
      (r64 (x4 - 1)) ∧
      ∀ x15 : Int, x15 = x4 - 1 →
      V_X10_value_135 d S7 F8 G9 Q a0 a1 a2 a3 a4 a5 a6 a8 a10 x15 x4) ∧
    ((¬ z11 < (a8 - a6) + 1) →
      V_X10_value_135 d S7 F8 G9 Q a0 a1 a2 a3 a4 a5 a6 a8 x4 a12 x4)))
theorem R_X10_value_77 {d : Nat} {S : AS} {F : AF} {G : AG} {Q : AQ} {a0 : Nat} {a1 : Int} {a2 : Int} {a3 : Int} {a4 : Int} {a5 : Int} {a6 : Int} {a8 : Int} {a10 : Int} {a12 : Int} (h : V_X10_value_77 d S F G Q a0 a1 a2 a3 a4 a5 a6 a8 a10 a12) : Go d MX10_value 77 [some (vR a0), some (vI a1), some (vI a2), some (vI a3), some (vI a4), some (vI a5), some (vJ a6), none, some (vJ a8), none, some (vJ a10), none, some (vJ a12), none, none, none] [] S F G Q := by
  unfold V_X10_value_77 at h
  refine go_lload (show decode cX10_value 77 = .ok (.lload 10, 2) by decide +kernel) (by rfl) ?_
  refine go_lload (show decode cX10_value 79 = .ok (.lload 12, 2) by decide +kernel) (by rfl) ?_
  obtain ⟨ht, hf⟩ := h
  refine go_jge (tgt := 138) (show decode cX10_value 81 = .ok (.lcmp, 1) by decide +kernel) (show decode cX10_value 82 = .ok (.ifCond .ge 56, 3) by decide +kernel) (by decide) (fun hc => ?_) (fun hc => ?_)
  · have h := ht hc
    refine go_lload (show decode cX10_value 138 = .ok (.lload 10, 2) by decide +kernel) (by rfl) ?_
    exact go_lret (show decode cX10_value 140 = .ok (.lreturn, 1) by decide +kernel) rfl h
  · have h := hf hc
    refine go_lload (show decode cX10_value 85 = .ok (.lload 10, 2) by decide +kernel) (by rfl) ?_
    refine go_lload (show decode cX10_value 87 = .ok (.lload 12, 2) by decide +kernel) (by rfl) ?_
    obtain ⟨q1, h⟩ := h
    refine go_ladd (show decode cX10_value 89 = .ok (.ladd, 1) by decide +kernel) q1 ?_
    refine go_lconst (n := 1) (show decode cX10_value 90 = .ok (.lconst 1, 1) by decide +kernel) ?_
    show Go d MX10_value 91 [some (vR a0), some (vI a1), some (vI a2), some (vI a3), some (vI a4), some (vI a5), some (vJ a6), none, some (vJ a8), none, some (vJ a10), none, some (vJ a12), none, none, none] [vJ 1, vJ (a10 + a12)] S F G Q
    obtain ⟨q2, h⟩ := h
    refine go_ladd (show decode cX10_value 91 = .ok (.ladd, 1) by decide +kernel) q2 ?_
    refine go_ldc2 (show decode cX10_value 92 = .ok (.ldc2_w 157, 3) by decide +kernel) lc_X10_157 (by decide) ?_
    obtain ⟨q3, h⟩ := h
    refine go_ldiv (show decode cX10_value 95 = .ok (.ldiv, 1) by decide +kernel) (by decide) q3 ?_
    obtain ⟨x4, x4e⟩ : ∃ x4 : Int, x4 = Int.tdiv ((a10 + a12) + 1) 2 := ⟨_, rfl⟩
    have h := h x4 x4e
    rw [← x4e]
    refine go_lstore (show decode cX10_value 96 = .ok (.lstore 14, 2) by decide +kernel) (by decide) ?_
    show Go d MX10_value 98 [some (vR a0), some (vI a1), some (vI a2), some (vI a3), some (vI a4), some (vI a5), some (vJ a6), none, some (vJ a8), none, some (vJ a10), none, some (vJ a12), none, some (vJ x4), none] [] S F G Q
    refine go_aload_n (show decode cX10_value 98 = .ok (.aload_n 0, 1) by decide +kernel) (by rfl) ?_
    refine go_iload_n (show decode cX10_value 99 = .ok (.iload_n 1, 1) by decide +kernel) (by rfl) ?_
    refine go_iload_n (show decode cX10_value 100 = .ok (.iload_n 2, 1) by decide +kernel) (by rfl) ?_
    refine go_iload_n (show decode cX10_value 101 = .ok (.iload_n 3, 1) by decide +kernel) (by rfl) ?_
    refine go_iload (show decode cX10_value 102 = .ok (.iload 4, 2) by decide +kernel) (by rfl) ?_
    refine go_iload (show decode cX10_value 104 = .ok (.iload 5, 2) by decide +kernel) (by rfl) ?_
    refine go_lload (show decode cX10_value 106 = .ok (.lload 14, 2) by decide +kernel) (by rfl) ?_
    obtain ⟨q5, h⟩ := h
    obtain ⟨q10, h⟩ := h
    refine go_callV (d2 := d - 1) (M2 := MX10_cellsFrom) (n := 6) (ci := 10) (av := [vI a1, vI a2, vI a3, vI a4, vI a5, vJ x4]) (st := []) (show decode cX10_value 108 = .ok (.invokevirtual 412, 3) by decide +kernel) ml_X10_412 mt_X10_cellsFrom min_X10_cellsFrom mse_X10_cellsFrom (by decide) q10 rfl (Nat.le_of_ble_eq_true rfl) (by omega) (ok_mono h (fun w6 S7 F8 G9 h => ?_))
    obtain ⟨z11, e9, h⟩ := h
    subst e9
    show Go d MX10_value 111 [some (vR a0), some (vI a1), some (vI a2), some (vI a3), some (vI a4), some (vI a5), some (vJ a6), none, some (vJ a8), none, some (vJ a10), none, some (vJ a12), none, some (vJ x4), none] [vJ z11] S7 F8 G9 Q
    refine go_lload (show decode cX10_value 111 = .ok (.lload 8, 2) by decide +kernel) (by rfl) ?_
    refine go_lload (show decode cX10_value 113 = .ok (.lload 6, 2) by decide +kernel) (by rfl) ?_
    obtain ⟨q12, h⟩ := h
    refine go_lsub (show decode cX10_value 115 = .ok (.lsub, 1) by decide +kernel) q12 ?_
    refine go_lconst (n := 1) (show decode cX10_value 116 = .ok (.lconst 1, 1) by decide +kernel) ?_
    show Go d MX10_value 117 [some (vR a0), some (vI a1), some (vI a2), some (vI a3), some (vI a4), some (vI a5), some (vJ a6), none, some (vJ a8), none, some (vJ a10), none, some (vJ a12), none, some (vJ x4), none] [vJ 1, vJ (a8 - a6), vJ z11] S7 F8 G9 Q
    obtain ⟨q13, h⟩ := h
    refine go_ladd (show decode cX10_value 117 = .ok (.ladd, 1) by decide +kernel) q13 ?_
    obtain ⟨ht, hf⟩ := h
    refine go_jlt (tgt := 129) (show decode cX10_value 118 = .ok (.lcmp, 1) by decide +kernel) (show decode cX10_value 119 = .ok (.ifCond .lt 10, 3) by decide +kernel) (by decide) (fun hc => ?_) (fun hc => ?_)
    · have h := ht hc
      refine go_lload (show decode cX10_value 129 = .ok (.lload 14, 2) by decide +kernel) (by rfl) ?_
      refine go_lconst (n := 1) (show decode cX10_value 131 = .ok (.lconst 1, 1) by decide +kernel) ?_
      show Go d MX10_value 132 [some (vR a0), some (vI a1), some (vI a2), some (vI a3), some (vI a4), some (vI a5), some (vJ a6), none, some (vJ a8), none, some (vJ a10), none, some (vJ a12), none, some (vJ x4), none] [vJ 1, vJ x4] S7 F8 G9 Q
      obtain ⟨q14, h⟩ := h
      refine go_lsub (show decode cX10_value 132 = .ok (.lsub, 1) by decide +kernel) q14 ?_
      obtain ⟨x15, x15e⟩ : ∃ x15 : Int, x15 = x4 - 1 := ⟨_, rfl⟩
      have h := h x15 x15e
      rw [← x15e]
      refine go_lstore (show decode cX10_value 133 = .ok (.lstore 12, 2) by decide +kernel) (by decide) ?_
      show Go d MX10_value 135 [some (vR a0), some (vI a1), some (vI a2), some (vI a3), some (vI a4), some (vI a5), some (vJ a6), none, some (vJ a8), none, some (vJ a10), none, some (vJ x15), none, some (vJ x4), none] [] S7 F8 G9 Q
      exact R_X10_value_135 h
    · have h := hf hc
      refine go_lload (show decode cX10_value 122 = .ok (.lload 14, 2) by decide +kernel) (by rfl) ?_
      refine go_lstore (show decode cX10_value 124 = .ok (.lstore 10, 2) by decide +kernel) (by decide) ?_
      show Go d MX10_value 126 [some (vR a0), some (vI a1), some (vI a2), some (vI a3), some (vI a4), some (vI a5), some (vJ a6), none, some (vJ a8), none, some (vJ x4), none, some (vJ a12), none, some (vJ x4), none] [] S7 F8 G9 Q
      refine go_goto (tgt := 135) (show decode cX10_value 126 = .ok (.goto 9, 3) by decide +kernel) (by decide) ?_
      exact R_X10_value_135 h
def V_X10_value_0 (d : Nat) (S : AS) (F : AF) (G : AG) (Q : AQ) (a0 : Nat) (a1 : Int) (a2 : Int) (a3 : Int) (a4 : Int) (a5 : Int) (a6 : Int) : Prop :=
  (sK S a0 = 10) ∧
  ∀ F2 : AF, F2 = fu F a0 0 0 →
  (1 ≤ d) ∧
  Ok (d - 1) MX10_isGoodOrAll [vI a1] S F2 G (fun w4 S5 F6 G7 =>
  ∃ z8 : Int, w4 = some (vI z8) ∧
  ((z8 = 0) →
    Q (some (vJ (-2))) S5 F6 G7) ∧
  ((¬ z8 = 0) →
    (sK S5 a0 = 10) ∧
    Ok (d - 1) MX10_isRectangle [vR a0, vI a2, vI a3, vI a4, vI a5] S5 F6 G7 (fun w9 S10 F11 G12 =>
    ∃ z14 : Int, w9 = some (vI z14) ∧
    ((¬ z14 = 0) →
      ((1 ≤ a6) →
        (r32 (a4 - a2)) ∧
        (r64 ((a4 - a2) + 1)) ∧
        (r32 (a5 - a3)) ∧
        (r64 ((a5 - a3) + 1)) ∧
        (r64 (((a4 - a2) + 1) * ((a5 - a3) + 1))) ∧
        ∀ x20 : Int, x20 = ((a4 - a2) + 1) * ((a5 - a3) + 1) →
        ((a6 ≤ x20) →
          Go d MX10_value 77 [some (vR a0), some (vI a1), some (vI a2), some (vI a3), some (vI a4), some (vI a5), some (vJ a6), none, some (vJ x20), none, some (vJ 0), none, some (vJ 3000000000000), none, none, none] [] S10 F11 G12 Q) ∧
        ((¬ a6 ≤ x20) →
          Q (some (vJ (-1))) S10 F11 G12)) ∧
      ((¬ 1 ≤ a6) →
        Q (some (vJ (-3))) S10 F11 G12)) ∧
    ((z14 = 0) →
      Q (some (vJ (-2))) S10 F11 G12))))
theorem R_X10_value_0 {d : Nat} {S : AS} {F : AF} {G : AG} {Q : AQ} {a0 : Nat} {a1 : Int} {a2 : Int} {a3 : Int} {a4 : Int} {a5 : Int} {a6 : Int} (h : V_X10_value_0 d S F G Q a0 a1 a2 a3 a4 a5 a6) : Go d MX10_value 0 [some (vR a0), some (vI a1), some (vI a2), some (vI a3), some (vI a4), some (vI a5), some (vJ a6), none, none, none, none, none, none, none, none, none] [] S F G Q := by
  unfold V_X10_value_0 at h
  refine go_aload_n (show decode cX10_value 0 = .ok (.aload_n 0, 1) by decide +kernel) (by rfl) ?_
  refine go_iconst (show decode cX10_value 1 = .ok (.iconst 0, 1) by decide +kernel) (by decide) ?_
  obtain ⟨q1, h⟩ := h
  refine go_putI (show decode cX10_value 2 = .ok (.putfield 1, 3) by decide +kernel) fl_X10_1 rfl (Or.inl rfl) q1 ?_
  obtain ⟨F2, F2e⟩ : ∃ F2 : AF, F2 = fu F a0 0 0 := ⟨_, rfl⟩
  have h := h F2 F2e
  rw [← F2e]
  refine go_iload_n (show decode cX10_value 5 = .ok (.iload_n 1, 1) by decide +kernel) (by rfl) ?_
  obtain ⟨q3, h⟩ := h
  refine go_callS (d2 := d - 1) (M2 := MX10_isGoodOrAll) (n := 1) (av := [vI a1]) (st := []) (show decode cX10_value 6 = .ok (.invokestatic 403, 3) by decide +kernel) ml_X10_403 mt_X10_isGoodOrAll mst_X10_isGoodOrAll rfl (Nat.le_of_ble_eq_true rfl) (by omega) (ok_mono h (fun w4 S5 F6 G7 h => ?_))
  obtain ⟨z8, e9, h⟩ := h
  subst e9
  show Go d MX10_value 9 [some (vR a0), some (vI a1), some (vI a2), some (vI a3), some (vI a4), some (vI a5), some (vJ a6), none, none, none, none, none, none, none, none, none] [vI z8] S5 F6 G7 Q
  obtain ⟨ht, hf⟩ := h
  refine go_ifeq (tgt := 25) (show decode cX10_value 9 = .ok (.ifCond .eq 16, 3) by decide +kernel) (by decide) (fun hc => ?_) (fun hc => ?_)
  · have h := ht hc
    refine go_ldc2 (show decode cX10_value 25 = .ok (.ldc2_w 174, 3) by decide +kernel) lc_X10_174 (by decide) ?_
    exact go_lret (show decode cX10_value 28 = .ok (.lreturn, 1) by decide +kernel) rfl h
  · have h := hf hc
    refine go_aload_n (show decode cX10_value 12 = .ok (.aload_n 0, 1) by decide +kernel) (by rfl) ?_
    refine go_iload_n (show decode cX10_value 13 = .ok (.iload_n 2, 1) by decide +kernel) (by rfl) ?_
    refine go_iload_n (show decode cX10_value 14 = .ok (.iload_n 3, 1) by decide +kernel) (by rfl) ?_
    refine go_iload (show decode cX10_value 15 = .ok (.iload 4, 2) by decide +kernel) (by rfl) ?_
    refine go_iload (show decode cX10_value 17 = .ok (.iload 5, 2) by decide +kernel) (by rfl) ?_
    obtain ⟨q13, h⟩ := h
    refine go_callV (d2 := d - 1) (M2 := MX10_isRectangle) (n := 4) (ci := 10) (av := [vI a2, vI a3, vI a4, vI a5]) (st := []) (show decode cX10_value 19 = .ok (.invokevirtual 170, 3) by decide +kernel) ml_X10_170 mt_X10_isRectangle min_X10_isRectangle mse_X10_isRectangle (by decide) q13 rfl (Nat.le_of_ble_eq_true rfl) (by omega) (ok_mono h (fun w9 S10 F11 G12 h => ?_))
    obtain ⟨z14, e9, h⟩ := h
    subst e9
    show Go d MX10_value 22 [some (vR a0), some (vI a1), some (vI a2), some (vI a3), some (vI a4), some (vI a5), some (vJ a6), none, none, none, none, none, none, none, none, none] [vI z14] S10 F11 G12 Q
    obtain ⟨ht, hf⟩ := h
    refine go_ifne (tgt := 29) (show decode cX10_value 22 = .ok (.ifCond .ne 7, 3) by decide +kernel) (by decide) (fun hc => ?_) (fun hc => ?_)
    · have h := ht hc
      refine go_lload (show decode cX10_value 29 = .ok (.lload 6, 2) by decide +kernel) (by rfl) ?_
      refine go_lconst (n := 1) (show decode cX10_value 31 = .ok (.lconst 1, 1) by decide +kernel) ?_
      show Go d MX10_value 32 [some (vR a0), some (vI a1), some (vI a2), some (vI a3), some (vI a4), some (vI a5), some (vJ a6), none, none, none, none, none, none, none, none, none] [vJ 1, vJ a6] S10 F11 G12 Q
      obtain ⟨ht, hf⟩ := h
      refine go_jge (tgt := 40) (show decode cX10_value 32 = .ok (.lcmp, 1) by decide +kernel) (show decode cX10_value 33 = .ok (.ifCond .ge 7, 3) by decide +kernel) (by decide) (fun hc => ?_) (fun hc => ?_)
      · have h := ht hc
        refine go_iload (show decode cX10_value 40 = .ok (.iload 4, 2) by decide +kernel) (by rfl) ?_
        refine go_iload_n (show decode cX10_value 42 = .ok (.iload_n 2, 1) by decide +kernel) (by rfl) ?_
        obtain ⟨q15, h⟩ := h
        refine go_isub (show decode cX10_value 43 = .ok (.isub, 1) by decide +kernel) q15 ?_
        refine go_i2l (show decode cX10_value 44 = .ok (.i2l, 1) by decide +kernel) ?_
        refine go_lconst (n := 1) (show decode cX10_value 45 = .ok (.lconst 1, 1) by decide +kernel) ?_
        show Go d MX10_value 46 [some (vR a0), some (vI a1), some (vI a2), some (vI a3), some (vI a4), some (vI a5), some (vJ a6), none, none, none, none, none, none, none, none, none] [vJ 1, vJ (a4 - a2)] S10 F11 G12 Q
        obtain ⟨q16, h⟩ := h
        refine go_ladd (show decode cX10_value 46 = .ok (.ladd, 1) by decide +kernel) q16 ?_
        refine go_iload (show decode cX10_value 47 = .ok (.iload 5, 2) by decide +kernel) (by rfl) ?_
        refine go_iload_n (show decode cX10_value 49 = .ok (.iload_n 3, 1) by decide +kernel) (by rfl) ?_
        obtain ⟨q17, h⟩ := h
        refine go_isub (show decode cX10_value 50 = .ok (.isub, 1) by decide +kernel) q17 ?_
        refine go_i2l (show decode cX10_value 51 = .ok (.i2l, 1) by decide +kernel) ?_
        refine go_lconst (n := 1) (show decode cX10_value 52 = .ok (.lconst 1, 1) by decide +kernel) ?_
        show Go d MX10_value 53 [some (vR a0), some (vI a1), some (vI a2), some (vI a3), some (vI a4), some (vI a5), some (vJ a6), none, none, none, none, none, none, none, none, none] [vJ 1, vJ (a5 - a3), vJ ((a4 - a2) + 1)] S10 F11 G12 Q
        obtain ⟨q18, h⟩ := h
        refine go_ladd (show decode cX10_value 53 = .ok (.ladd, 1) by decide +kernel) q18 ?_
        obtain ⟨q19, h⟩ := h
        refine go_lmul (show decode cX10_value 54 = .ok (.lmul, 1) by decide +kernel) q19 ?_
        obtain ⟨x20, x20e⟩ : ∃ x20 : Int, x20 = ((a4 - a2) + 1) * ((a5 - a3) + 1) := ⟨_, rfl⟩
        have h := h x20 x20e
        rw [← x20e]
        refine go_lstore (show decode cX10_value 55 = .ok (.lstore 8, 2) by decide +kernel) (by decide) ?_
        show Go d MX10_value 57 [some (vR a0), some (vI a1), some (vI a2), some (vI a3), some (vI a4), some (vI a5), some (vJ a6), none, some (vJ x20), none, none, none, none, none, none, none] [] S10 F11 G12 Q
        refine go_lload (show decode cX10_value 57 = .ok (.lload 6, 2) by decide +kernel) (by rfl) ?_
        refine go_lload (show decode cX10_value 59 = .ok (.lload 8, 2) by decide +kernel) (by rfl) ?_
        obtain ⟨ht, hf⟩ := h
        refine go_jle (tgt := 69) (show decode cX10_value 61 = .ok (.lcmp, 1) by decide +kernel) (show decode cX10_value 62 = .ok (.ifCond .le 7, 3) by decide +kernel) (by decide) (fun hc => ?_) (fun hc => ?_)
        · have h := ht hc
          refine go_lconst (n := 0) (show decode cX10_value 69 = .ok (.lconst 0, 1) by decide +kernel) ?_
          show Go d MX10_value 70 [some (vR a0), some (vI a1), some (vI a2), some (vI a3), some (vI a4), some (vI a5), some (vJ a6), none, some (vJ x20), none, none, none, none, none, none, none] [vJ 0] S10 F11 G12 Q
          refine go_lstore (show decode cX10_value 70 = .ok (.lstore 10, 2) by decide +kernel) (by decide) ?_
          show Go d MX10_value 72 [some (vR a0), some (vI a1), some (vI a2), some (vI a3), some (vI a4), some (vI a5), some (vJ a6), none, some (vJ x20), none, some (vJ 0), none, none, none, none, none] [] S10 F11 G12 Q
          refine go_ldc2 (show decode cX10_value 72 = .ok (.ldc2_w 415, 3) by decide +kernel) lc_X10_415 (by decide) ?_
          refine go_lstore (show decode cX10_value 75 = .ok (.lstore 12, 2) by decide +kernel) (by decide) ?_
          show Go d MX10_value 77 [some (vR a0), some (vI a1), some (vI a2), some (vI a3), some (vI a4), some (vI a5), some (vJ a6), none, some (vJ x20), none, some (vJ 0), none, some (vJ 3000000000000), none, none, none] [] S10 F11 G12 Q
          exact h
        · have h := hf hc
          refine go_ldc2 (show decode cX10_value 65 = .ok (.ldc2_w 311, 3) by decide +kernel) lc_X10_311 (by decide) ?_
          exact go_lret (show decode cX10_value 68 = .ok (.lreturn, 1) by decide +kernel) rfl h
      · have h := hf hc
        refine go_ldc2 (show decode cX10_value 36 = .ok (.ldc2_w 120, 3) by decide +kernel) lc_X10_120 (by decide) ?_
        exact go_lret (show decode cX10_value 39 = .ok (.lreturn, 1) by decide +kernel) rfl h
    · have h := hf hc
      refine go_ldc2 (show decode cX10_value 25 = .ok (.ldc2_w 174, 3) by decide +kernel) lc_X10_174 (by decide) ?_
      exact go_lret (show decode cX10_value 28 = .ok (.lreturn, 1) by decide +kernel) rfl h
def V_X10_hole_176 (d : Nat) (S : AS) (F : AF) (G : AG) (Q : AQ) (a0 : Nat) (a1 : Int) (a2 : Int) (a3 : Int) (a4 : Int) (a5 : Int) : Prop :=
  (r32 (a5 + 1)) ∧
  Go d MX10_hole 136 [some (vR a0), some (vI a1), some (vI a2), some (vI a3), some (vI a4), some (vI (a5 + 1))] [] S F G Q
theorem R_X10_hole_176 {d : Nat} {S : AS} {F : AF} {G : AG} {Q : AQ} {a0 : Nat} {a1 : Int} {a2 : Int} {a3 : Int} {a4 : Int} {a5 : Int} (h : V_X10_hole_176 d S F G Q a0 a1 a2 a3 a4 a5) : Go d MX10_hole 176 [some (vR a0), some (vI a1), some (vI a2), some (vI a3), some (vI a4), some (vI a5)] [] S F G Q := by
  unfold V_X10_hole_176 at h
  obtain ⟨q1, h⟩ := h
  refine go_iinc (show decode cX10_hole 176 = .ok (.iinc 5 1, 3) by decide +kernel) (by rfl) q1 (by decide) ?_
  show Go d MX10_hole 179 [some (vR a0), some (vI a1), some (vI a2), some (vI a3), some (vI a4), some (vI (a5 + 1))] [] S F G Q
  refine go_goto (tgt := 136) (show decode cX10_hole 179 = .ok (.goto (-43), 3) by decide +kernel) (by decide) ?_
  exact h
def V_X10_hole_136 (d : Nat) (S : AS) (F : AF) (G : AG) (Q : AQ) (a0 : Nat) (a1 : Int) (a2 : Int) (a3 : Int) (a4 : Int) (a5 : Int) : Prop :=
  (sK S a0 = 10) ∧
  (sK S (sR S a0 5) = 20) ∧
  ((0 : Int) < (sN S (sR S a0 5) : Int)) ∧
  ((G (sR S a0 5) 0 ≤ a5) →
    (r32 (a3 + 1)) ∧
    Go d MX10_hole 65 [some (vR a0), some (vI a1), some (vI a2), some (vI (a3 + 1)), none, none] [] S F G Q) ∧
  ((¬ G (sR S a0 5) 0 ≤ a5) →
    (sK S (sR S a0 47) = 23) ∧
    ((0 : Int) ≤ a5) ∧
    ((a5 : Int) < (sN S (sR S a0 47) : Int)) ∧
    ((¬ G (sR S a0 47) a5 = 0) →
      (1 ≤ d) ∧
      Ok (d - 1) MX10_tries [vR a0, vI a4, vI a2, vI a5, vI a3] S F G (fun w9 S10 F11 G12 =>
      w9 = none ∧
      V_X10_hole_176 d S10 F11 G12 Q a0 a1 a2 a3 a4 a5)) ∧
    ((G (sR S a0 47) a5 = 0) →
      (r32 (a5 + 1)) ∧
      ∀ x14 : Int, x14 = a5 + 1 →
      V_X10_hole_176 d S F G Q a0 a1 a2 a3 x14 a5))
theorem R_X10_hole_136 {d : Nat} {S : AS} {F : AF} {G : AG} {Q : AQ} {a0 : Nat} {a1 : Int} {a2 : Int} {a3 : Int} {a4 : Int} {a5 : Int} (h : V_X10_hole_136 d S F G Q a0 a1 a2 a3 a4 a5) : Go d MX10_hole 136 [some (vR a0), some (vI a1), some (vI a2), some (vI a3), some (vI a4), some (vI a5)] [] S F G Q := by
  unfold V_X10_hole_136 at h
  refine go_iload (show decode cX10_hole 136 = .ok (.iload 5, 2) by decide +kernel) (by rfl) ?_
  refine go_aload_n (show decode cX10_hole 138 = .ok (.aload_n 0, 1) by decide +kernel) (by rfl) ?_
  obtain ⟨q1, h⟩ := h
  refine go_getR (show decode cX10_hole 139 = .ok (.getfield 29, 3) by decide +kernel) fl_X10_29 rfl q1 ?_
  refine go_iconst (show decode cX10_hole 142 = .ok (.iconst 0, 1) by decide +kernel) (by decide) ?_
  obtain ⟨q2, h⟩ := h
  obtain ⟨q3, h⟩ := h
  refine go_iaload (show decode cX10_hole 143 = .ok (.iaload, 1) by decide +kernel) q2 (by decide) q3 ?_
  obtain ⟨ht, hf⟩ := h
  refine go_icmpge (tgt := 182) (show decode cX10_hole 144 = .ok (.if_icmp .ge 38, 3) by decide +kernel) (by decide) (fun hc => ?_) (fun hc => ?_)
  · have h := ht hc
    obtain ⟨q4, h⟩ := h
    refine go_iinc (show decode cX10_hole 182 = .ok (.iinc 3 1, 3) by decide +kernel) (by rfl) q4 (by decide) ?_
    show Go d MX10_hole 185 [some (vR a0), some (vI a1), some (vI a2), some (vI (a3 + 1)), some (vI a4), some (vI a5)] [] S F G Q
    refine go_goto (tgt := 65) (show decode cX10_hole 185 = .ok (.goto (-120), 3) by decide +kernel) (by decide) ?_
    refine go_clr 4 ?_
    refine go_clr 5 ?_
    exact h
  · have h := hf hc
    refine go_aload_n (show decode cX10_hole 147 = .ok (.aload_n 0, 1) by decide +kernel) (by rfl) ?_
    refine go_getR (show decode cX10_hole 148 = .ok (.getfield 93, 3) by decide +kernel) fl_X10_93 rfl q1 ?_
    refine go_iload (show decode cX10_hole 151 = .ok (.iload 5, 2) by decide +kernel) (by rfl) ?_
    obtain ⟨q5, h⟩ := h
    obtain ⟨q6, h⟩ := h
    obtain ⟨q7, h⟩ := h
    refine go_zaload (show decode cX10_hole 153 = .ok (.baload, 1) by decide +kernel) q5 q6 q7 ?_
    obtain ⟨ht, hf⟩ := h
    refine go_ifne (tgt := 166) (show decode cX10_hole 154 = .ok (.ifCond .ne 12, 3) by decide +kernel) (by decide) (fun hc => ?_) (fun hc => ?_)
    · have h := ht hc
      refine go_aload_n (show decode cX10_hole 166 = .ok (.aload_n 0, 1) by decide +kernel) (by rfl) ?_
      refine go_iload (show decode cX10_hole 167 = .ok (.iload 4, 2) by decide +kernel) (by rfl) ?_
      refine go_iload_n (show decode cX10_hole 169 = .ok (.iload_n 2, 1) by decide +kernel) (by rfl) ?_
      refine go_iload (show decode cX10_hole 170 = .ok (.iload 5, 2) by decide +kernel) (by rfl) ?_
      refine go_iload_n (show decode cX10_hole 172 = .ok (.iload_n 3, 1) by decide +kernel) (by rfl) ?_
      obtain ⟨q8, h⟩ := h
      refine go_callV (d2 := d - 1) (M2 := MX10_tries) (n := 4) (ci := 10) (av := [vI a4, vI a2, vI a5, vI a3]) (st := []) (show decode cX10_hole 173 = .ok (.invokevirtual 434, 3) by decide +kernel) ml_X10_434 mt_X10_tries min_X10_tries mse_X10_tries (by decide) q1 rfl (Nat.le_of_ble_eq_true rfl) (by omega) (ok_mono h (fun w9 S10 F11 G12 h => ?_))
      obtain ⟨e9, h⟩ := h
      subst e9
      show Go d MX10_hole 176 [some (vR a0), some (vI a1), some (vI a2), some (vI a3), some (vI a4), some (vI a5)] [] S10 F11 G12 Q
      exact R_X10_hole_176 h
    · have h := hf hc
      refine go_iload (show decode cX10_hole 157 = .ok (.iload 5, 2) by decide +kernel) (by rfl) ?_
      refine go_iconst (show decode cX10_hole 159 = .ok (.iconst 1, 1) by decide +kernel) (by decide) ?_
      obtain ⟨q13, h⟩ := h
      refine go_iadd (show decode cX10_hole 160 = .ok (.iadd, 1) by decide +kernel) q13 ?_
      obtain ⟨x14, x14e⟩ : ∃ x14 : Int, x14 = a5 + 1 := ⟨_, rfl⟩
      have h := h x14 x14e
      rw [← x14e]
      refine go_istore (show decode cX10_hole 161 = .ok (.istore 4, 2) by decide +kernel) (by decide) ?_
      show Go d MX10_hole 163 [some (vR a0), some (vI a1), some (vI a2), some (vI a3), some (vI x14), some (vI a5)] [] S F G Q
      refine go_goto (tgt := 176) (show decode cX10_hole 163 = .ok (.goto 13, 3) by decide +kernel) (by decide) ?_
      exact R_X10_hole_176 h
def V_X10_hole_123 (d : Nat) (S : AS) (F : AF) (G : AG) (Q : AQ) (a0 : Nat) (a1 : Int) (a2 : Int) (a3 : Int) (a4 : Int) (s0 : Int) (s1 : Int) (s2 : Nat) : Prop :=
  (sK S s2 = 23) ∧
  ((0 : Int) ≤ s1) ∧
  ((s1 : Int) < (sN S s2 : Int)) ∧
  (s0 = 0 ∨ s0 = 1) ∧
  ∀ G5 : AG, G5 = gu G s2 s1 s0 →
  (r32 (a4 + 1)) ∧
  Go d MX10_hole 78 [some (vR a0), some (vI a1), some (vI a2), some (vI a3), some (vI (a4 + 1)), none] [] S F G5 Q
theorem R_X10_hole_123 {d : Nat} {S : AS} {F : AF} {G : AG} {Q : AQ} {a0 : Nat} {a1 : Int} {a2 : Int} {a3 : Int} {a4 : Int} {s0 : Int} {s1 : Int} {s2 : Nat} (h : V_X10_hole_123 d S F G Q a0 a1 a2 a3 a4 s0 s1 s2) : Go d MX10_hole 123 [some (vR a0), some (vI a1), some (vI a2), some (vI a3), some (vI a4), none] [vI s0, vI s1, vR s2] S F G Q := by
  unfold V_X10_hole_123 at h
  obtain ⟨q1, h⟩ := h
  obtain ⟨q2, h⟩ := h
  obtain ⟨q3, h⟩ := h
  obtain ⟨q4, h⟩ := h
  refine go_zastore (show decode cX10_hole 123 = .ok (.bastore, 1) by decide +kernel) q1 q2 q3 q4 ?_
  obtain ⟨G5, G5e⟩ : ∃ G5 : AG, G5 = gu G s2 s1 s0 := ⟨_, rfl⟩
  have h := h G5 G5e
  rw [← G5e]
  obtain ⟨q6, h⟩ := h
  refine go_iinc (show decode cX10_hole 124 = .ok (.iinc 4 1, 3) by decide +kernel) (by rfl) q6 (by decide) ?_
  show Go d MX10_hole 127 [some (vR a0), some (vI a1), some (vI a2), some (vI a3), some (vI (a4 + 1)), none] [] S F G5 Q
  refine go_goto (tgt := 78) (show decode cX10_hole 127 = .ok (.goto (-49), 3) by decide +kernel) (by decide) ?_
  exact h
def V_X10_hole_122 (d : Nat) (S : AS) (F : AF) (G : AG) (Q : AQ) (a0 : Nat) (a1 : Int) (a2 : Int) (a3 : Int) (a4 : Int) (s0 : Int) (s1 : Nat) : Prop :=
  V_X10_hole_123 d S F G Q a0 a1 a2 a3 a4 0 s0 s1
theorem R_X10_hole_122 {d : Nat} {S : AS} {F : AF} {G : AG} {Q : AQ} {a0 : Nat} {a1 : Int} {a2 : Int} {a3 : Int} {a4 : Int} {s0 : Int} {s1 : Nat} (h : V_X10_hole_122 d S F G Q a0 a1 a2 a3 a4 s0 s1) : Go d MX10_hole 122 [some (vR a0), some (vI a1), some (vI a2), some (vI a3), some (vI a4), none] [vI s0, vR s1] S F G Q := by
  unfold V_X10_hole_122 at h
  refine go_iconst (show decode cX10_hole 122 = .ok (.iconst 0, 1) by decide +kernel) (by decide) ?_
  exact R_X10_hole_123 h
def V_X10_hole_78 (d : Nat) (S : AS) (F : AF) (G : AG) (Q : AQ) (a0 : Nat) (a1 : Int) (a2 : Int) (a3 : Int) (a4 : Int) : Prop :=
  (sK S a0 = 10) ∧
  (sK S (sR S a0 5) = 20) ∧
  ((0 : Int) < (sN S (sR S a0 5) : Int)) ∧
  ((G (sR S a0 5) 0 ≤ a4) →
    Go d MX10_hole 136 [some (vR a0), some (vI a1), some (vI a2), some (vI a3), some (vI 0), some (vI 0)] [] S F G Q) ∧
  ((¬ G (sR S a0 5) 0 ≤ a4) →
    (sK S (sR S a0 47) = 23) ∧
    ((0 : Int) ≤ a4) ∧
    ((a4 : Int) < (sN S (sR S a0 47) : Int)) ∧
    ((G (sR S a0 47) a4 = 0) →
      V_X10_hole_122 d S F G Q a0 a1 a2 a3 a4 a4 (sR S a0 47)) ∧
    ((¬ G (sR S a0 47) a4 = 0) →
      (1 ≤ d) ∧
      Ok (d - 1) MX10_in [vR a0, vI (-1), vI a4, vI a3] S F G (fun w8 S9 F10 G11 =>
      ∃ z12 : Int, w8 = some (vJ z12) ∧
      ((¬ z12 = 0) →
        V_X10_hole_122 d S9 F10 G11 Q a0 a1 a2 a3 a4 a4 (sR S a0 47)) ∧
      ((z12 = 0) →
        V_X10_hole_123 d S9 F10 G11 Q a0 a1 a2 a3 a4 1 a4 (sR S a0 47)))))
theorem R_X10_hole_78 {d : Nat} {S : AS} {F : AF} {G : AG} {Q : AQ} {a0 : Nat} {a1 : Int} {a2 : Int} {a3 : Int} {a4 : Int} (h : V_X10_hole_78 d S F G Q a0 a1 a2 a3 a4) : Go d MX10_hole 78 [some (vR a0), some (vI a1), some (vI a2), some (vI a3), some (vI a4), none] [] S F G Q := by
  unfold V_X10_hole_78 at h
  refine go_iload (show decode cX10_hole 78 = .ok (.iload 4, 2) by decide +kernel) (by rfl) ?_
  refine go_aload_n (show decode cX10_hole 80 = .ok (.aload_n 0, 1) by decide +kernel) (by rfl) ?_
  obtain ⟨q1, h⟩ := h
  refine go_getR (show decode cX10_hole 81 = .ok (.getfield 29, 3) by decide +kernel) fl_X10_29 rfl q1 ?_
  refine go_iconst (show decode cX10_hole 84 = .ok (.iconst 0, 1) by decide +kernel) (by decide) ?_
  obtain ⟨q2, h⟩ := h
  obtain ⟨q3, h⟩ := h
  refine go_iaload (show decode cX10_hole 85 = .ok (.iaload, 1) by decide +kernel) q2 (by decide) q3 ?_
  obtain ⟨ht, hf⟩ := h
  refine go_icmpge (tgt := 130) (show decode cX10_hole 86 = .ok (.if_icmp .ge 44, 3) by decide +kernel) (by decide) (fun hc => ?_) (fun hc => ?_)
  · have h := ht hc
    refine go_iconst (show decode cX10_hole 130 = .ok (.iconst 0, 1) by decide +kernel) (by decide) ?_
    refine go_istore (show decode cX10_hole 131 = .ok (.istore 4, 2) by decide +kernel) (by decide) ?_
    show Go d MX10_hole 133 [some (vR a0), some (vI a1), some (vI a2), some (vI a3), some (vI 0), none] [] S F G Q
    refine go_iconst (show decode cX10_hole 133 = .ok (.iconst 0, 1) by decide +kernel) (by decide) ?_
    refine go_istore (show decode cX10_hole 134 = .ok (.istore 5, 2) by decide +kernel) (by decide) ?_
    show Go d MX10_hole 136 [some (vR a0), some (vI a1), some (vI a2), some (vI a3), some (vI 0), some (vI 0)] [] S F G Q
    exact h
  · have h := hf hc
    refine go_aload_n (show decode cX10_hole 89 = .ok (.aload_n 0, 1) by decide +kernel) (by rfl) ?_
    refine go_getR (show decode cX10_hole 90 = .ok (.getfield 93, 3) by decide +kernel) fl_X10_93 rfl q1 ?_
    refine go_iload (show decode cX10_hole 93 = .ok (.iload 4, 2) by decide +kernel) (by rfl) ?_
    refine go_aload_n (show decode cX10_hole 95 = .ok (.aload_n 0, 1) by decide +kernel) (by rfl) ?_
    refine go_getR (show decode cX10_hole 96 = .ok (.getfield 93, 3) by decide +kernel) fl_X10_93 rfl q1 ?_
    refine go_iload (show decode cX10_hole 99 = .ok (.iload 4, 2) by decide +kernel) (by rfl) ?_
    obtain ⟨q4, h⟩ := h
    obtain ⟨q5, h⟩ := h
    obtain ⟨q6, h⟩ := h
    refine go_zaload (show decode cX10_hole 101 = .ok (.baload, 1) by decide +kernel) q4 q5 q6 ?_
    obtain ⟨ht, hf⟩ := h
    refine go_ifeq (tgt := 122) (show decode cX10_hole 102 = .ok (.ifCond .eq 20, 3) by decide +kernel) (by decide) (fun hc => ?_) (fun hc => ?_)
    · have h := ht hc
      exact R_X10_hole_122 h
    · have h := hf hc
      refine go_aload_n (show decode cX10_hole 105 = .ok (.aload_n 0, 1) by decide +kernel) (by rfl) ?_
      refine go_iconst (show decode cX10_hole 106 = .ok (.iconst (-1), 1) by decide +kernel) (by decide) ?_
      refine go_iload (show decode cX10_hole 107 = .ok (.iload 4, 2) by decide +kernel) (by rfl) ?_
      refine go_iload_n (show decode cX10_hole 109 = .ok (.iload_n 3, 1) by decide +kernel) (by rfl) ?_
      obtain ⟨q7, h⟩ := h
      refine go_callV (d2 := d - 1) (M2 := MX10_in) (n := 3) (ci := 10) (av := [vI (-1), vI a4, vI a3]) (st := [vI a4, vR (sR S a0 47)]) (show decode cX10_hole 110 = .ok (.invokevirtual 163, 3) by decide +kernel) ml_X10_163 mt_X10_in min_X10_in mse_X10_in (by decide) q1 rfl (Nat.le_of_ble_eq_true rfl) (by omega) (ok_mono h (fun w8 S9 F10 G11 h => ?_))
      obtain ⟨z12, e9, h⟩ := h
      subst e9
      show Go d MX10_hole 113 [some (vR a0), some (vI a1), some (vI a2), some (vI a3), some (vI a4), none] [vJ z12, vI a4, vR (sR S a0 47)] S9 F10 G11 Q
      refine go_lconst (n := 0) (show decode cX10_hole 113 = .ok (.lconst 0, 1) by decide +kernel) ?_
      show Go d MX10_hole 114 [some (vR a0), some (vI a1), some (vI a2), some (vI a3), some (vI a4), none] [vJ 0, vJ z12, vI a4, vR (sR S a0 47)] S9 F10 G11 Q
      obtain ⟨ht, hf⟩ := h
      refine go_jne (tgt := 122) (show decode cX10_hole 114 = .ok (.lcmp, 1) by decide +kernel) (show decode cX10_hole 115 = .ok (.ifCond .ne 7, 3) by decide +kernel) (by decide) (fun hc => ?_) (fun hc => ?_)
      · have h := ht hc
        exact R_X10_hole_122 h
      · have h := hf hc
        refine go_iconst (show decode cX10_hole 118 = .ok (.iconst 1, 1) by decide +kernel) (by decide) ?_
        refine go_goto (tgt := 123) (show decode cX10_hole 119 = .ok (.goto 4, 3) by decide +kernel) (by decide) ?_
        exact R_X10_hole_123 h
def V_X10_hole_65 (d : Nat) (S : AS) (F : AF) (G : AG) (Q : AQ) (a0 : Nat) (a1 : Int) (a2 : Int) (a3 : Int) : Prop :=
  (sK S a0 = 10) ∧
  (sK S (sR S a0 5) = 20) ∧
  ((1 : Int) < (sN S (sR S a0 5) : Int)) ∧
  ((G (sR S a0 5) 1 ≤ a3) →
    (r32 (a2 + 1)) ∧
    Go d MX10_hole 28 [some (vR a0), some (vI a1), some (vI (a2 + 1)), none, none, none] [] S F G Q) ∧
  ((¬ G (sR S a0 5) 1 ≤ a3) →
    Go d MX10_hole 78 [some (vR a0), some (vI a1), some (vI a2), some (vI a3), some (vI 0), none] [] S F G Q)
theorem R_X10_hole_65 {d : Nat} {S : AS} {F : AF} {G : AG} {Q : AQ} {a0 : Nat} {a1 : Int} {a2 : Int} {a3 : Int} (h : V_X10_hole_65 d S F G Q a0 a1 a2 a3) : Go d MX10_hole 65 [some (vR a0), some (vI a1), some (vI a2), some (vI a3), none, none] [] S F G Q := by
  unfold V_X10_hole_65 at h
  refine go_iload_n (show decode cX10_hole 65 = .ok (.iload_n 3, 1) by decide +kernel) (by rfl) ?_
  refine go_aload_n (show decode cX10_hole 66 = .ok (.aload_n 0, 1) by decide +kernel) (by rfl) ?_
  obtain ⟨q1, h⟩ := h
  refine go_getR (show decode cX10_hole 67 = .ok (.getfield 29, 3) by decide +kernel) fl_X10_29 rfl q1 ?_
  refine go_iconst (show decode cX10_hole 70 = .ok (.iconst 1, 1) by decide +kernel) (by decide) ?_
  obtain ⟨q2, h⟩ := h
  obtain ⟨q3, h⟩ := h
  refine go_iaload (show decode cX10_hole 71 = .ok (.iaload, 1) by decide +kernel) q2 (by decide) q3 ?_
  obtain ⟨ht, hf⟩ := h
  refine go_icmpge (tgt := 188) (show decode cX10_hole 72 = .ok (.if_icmp .ge 116, 3) by decide +kernel) (by decide) (fun hc => ?_) (fun hc => ?_)
  · have h := ht hc
    obtain ⟨q4, h⟩ := h
    refine go_iinc (show decode cX10_hole 188 = .ok (.iinc 2 1, 3) by decide +kernel) (by rfl) q4 (by decide) ?_
    show Go d MX10_hole 191 [some (vR a0), some (vI a1), some (vI (a2 + 1)), some (vI a3), none, none] [] S F G Q
    refine go_goto (tgt := 28) (show decode cX10_hole 191 = .ok (.goto (-163), 3) by decide +kernel) (by decide) ?_
    refine go_clr 3 ?_
    exact h
  · have h := hf hc
    refine go_iconst (show decode cX10_hole 75 = .ok (.iconst 0, 1) by decide +kernel) (by decide) ?_
    refine go_istore (show decode cX10_hole 76 = .ok (.istore 4, 2) by decide +kernel) (by decide) ?_
    show Go d MX10_hole 78 [some (vR a0), some (vI a1), some (vI a2), some (vI a3), some (vI 0), none] [] S F G Q
    exact h
def V_X10_hole_40 (d : Nat) (S : AS) (F : AF) (G : AG) (Q : AQ) (a0 : Nat) (a1 : Int) (a2 : Int) (a3 : Int) : Prop :=
  (sK S a0 = 10) ∧
  (sK S (sR S a0 5) = 20) ∧
  ((0 : Int) < (sN S (sR S a0 5) : Int)) ∧
  ((G (sR S a0 5) 0 ≤ a3) →
    Go d MX10_hole 65 [some (vR a0), some (vI a1), some (vI a2), some (vI a2), none, none] [] S F G Q) ∧
  ((¬ G (sR S a0 5) 0 ≤ a3) →
    (sK S (sR S a0 47) = 23) ∧
    ((0 : Int) ≤ a3) ∧
    ((a3 : Int) < (sN S (sR S a0 47) : Int)) ∧
    ∀ G7 : AG, G7 = gu G (sR S a0 47) a3 1 →
    (r32 (a3 + 1)) ∧
    Go d MX10_hole 40 [some (vR a0), some (vI a1), some (vI a2), some (vI (a3 + 1)), none, none] [] S F G7 Q)
theorem R_X10_hole_40 {d : Nat} {S : AS} {F : AF} {G : AG} {Q : AQ} {a0 : Nat} {a1 : Int} {a2 : Int} {a3 : Int} (h : V_X10_hole_40 d S F G Q a0 a1 a2 a3) : Go d MX10_hole 40 [some (vR a0), some (vI a1), some (vI a2), some (vI a3), none, none] [] S F G Q := by
  unfold V_X10_hole_40 at h
  refine go_iload_n (show decode cX10_hole 40 = .ok (.iload_n 3, 1) by decide +kernel) (by rfl) ?_
  refine go_aload_n (show decode cX10_hole 41 = .ok (.aload_n 0, 1) by decide +kernel) (by rfl) ?_
  obtain ⟨q1, h⟩ := h
  refine go_getR (show decode cX10_hole 42 = .ok (.getfield 29, 3) by decide +kernel) fl_X10_29 rfl q1 ?_
  refine go_iconst (show decode cX10_hole 45 = .ok (.iconst 0, 1) by decide +kernel) (by decide) ?_
  obtain ⟨q2, h⟩ := h
  obtain ⟨q3, h⟩ := h
  refine go_iaload (show decode cX10_hole 46 = .ok (.iaload, 1) by decide +kernel) q2 (by decide) q3 ?_
  obtain ⟨ht, hf⟩ := h
  refine go_icmpge (tgt := 63) (show decode cX10_hole 47 = .ok (.if_icmp .ge 16, 3) by decide +kernel) (by decide) (fun hc => ?_) (fun hc => ?_)
  · have h := ht hc
    refine go_iload_n (show decode cX10_hole 63 = .ok (.iload_n 2, 1) by decide +kernel) (by rfl) ?_
    refine go_istore_n (show decode cX10_hole 64 = .ok (.istore_n 3, 1) by decide +kernel) (by decide) ?_
    show Go d MX10_hole 65 [some (vR a0), some (vI a1), some (vI a2), some (vI a2), none, none] [] S F G Q
    exact h
  · have h := hf hc
    refine go_aload_n (show decode cX10_hole 50 = .ok (.aload_n 0, 1) by decide +kernel) (by rfl) ?_
    refine go_getR (show decode cX10_hole 51 = .ok (.getfield 93, 3) by decide +kernel) fl_X10_93 rfl q1 ?_
    refine go_iload_n (show decode cX10_hole 54 = .ok (.iload_n 3, 1) by decide +kernel) (by rfl) ?_
    refine go_iconst (show decode cX10_hole 55 = .ok (.iconst 1, 1) by decide +kernel) (by decide) ?_
    obtain ⟨q4, h⟩ := h
    obtain ⟨q5, h⟩ := h
    obtain ⟨q6, h⟩ := h
    refine go_zastore (show decode cX10_hole 56 = .ok (.bastore, 1) by decide +kernel) q4 q5 q6 (by decide) ?_
    obtain ⟨G7, G7e⟩ : ∃ G7 : AG, G7 = gu G (sR S a0 47) a3 1 := ⟨_, rfl⟩
    have h := h G7 G7e
    rw [← G7e]
    obtain ⟨q8, h⟩ := h
    refine go_iinc (show decode cX10_hole 57 = .ok (.iinc 3 1, 3) by decide +kernel) (by rfl) q8 (by decide) ?_
    show Go d MX10_hole 60 [some (vR a0), some (vI a1), some (vI a2), some (vI (a3 + 1)), none, none] [] S F G7 Q
    refine go_goto (tgt := 40) (show decode cX10_hole 60 = .ok (.goto (-20), 3) by decide +kernel) (by decide) ?_
    exact h
def V_X10_hole_28 (d : Nat) (S : AS) (F : AF) (G : AG) (Q : AQ) (a0 : Nat) (a1 : Int) (a2 : Int) : Prop :=
  (sK S a0 = 10) ∧
  (sK S (sR S a0 5) = 20) ∧
  ((1 : Int) < (sN S (sR S a0 5) : Int)) ∧
  ((G (sR S a0 5) 1 ≤ a2) →
    ((¬ F a0 46 = 0) →
      ((¬ a1 = 0) →
        ((¬ a1 = 1) →
          ((¬ a1 = 2) →
            ((¬ a1 = 3) →
              Q (some (vJ (F a0 46))) S F G) ∧
            ((a1 = 3) →
              (r32 ((F a0 45) + 1)) ∧
              (1 ≤ d) ∧
              Ok (d - 1) MX10_edgeAt [vR a0, vI 1, vI ((F a0 45) + 1)] S F G (fun w6 S7 F8 G9 =>
              ∃ z10 : Int, w6 = some (vI z10) ∧
              (r32 (z10 - 1)) ∧
              Q (some (vJ (z10 - 1))) S7 F8 G9))) ∧
          ((a1 = 2) →
            (r32 ((F a0 44) + 1)) ∧
            (1 ≤ d) ∧
            Ok (d - 1) MX10_edgeAt [vR a0, vI 0, vI ((F a0 44) + 1)] S F G (fun w14 S15 F16 G17 =>
            ∃ z18 : Int, w14 = some (vI z18) ∧
            (r32 (z18 - 1)) ∧
            Q (some (vJ (z18 - 1))) S15 F16 G17))) ∧
        ((a1 = 1) →
          (1 ≤ d) ∧
          Ok (d - 1) MX10_edgeAt [vR a0, vI 1, vI (F a0 43)] S F G (fun w21 S22 F23 G24 =>
          ∃ z25 : Int, w21 = some (vI z25) ∧
          Q (some (vJ z25)) S22 F23 G24))) ∧
      ((a1 = 0) →
        (1 ≤ d) ∧
        Ok (d - 1) MX10_edgeAt [vR a0, vI 0, vI (F a0 42)] S F G (fun w27 S28 F29 G30 =>
        ∃ z31 : Int, w27 = some (vI z31) ∧
        Q (some (vJ z31)) S28 F29 G30))) ∧
    ((F a0 46 = 0) →
      Q (some (vJ (-1))) S F G)) ∧
  ((¬ G (sR S a0 5) 1 ≤ a2) →
    Go d MX10_hole 40 [some (vR a0), some (vI a1), some (vI a2), some (vI 0), none, none] [] S F G Q)
theorem R_X10_hole_28 {d : Nat} {S : AS} {F : AF} {G : AG} {Q : AQ} {a0 : Nat} {a1 : Int} {a2 : Int} (h : V_X10_hole_28 d S F G Q a0 a1 a2) : Go d MX10_hole 28 [some (vR a0), some (vI a1), some (vI a2), none, none, none] [] S F G Q := by
  unfold V_X10_hole_28 at h
  refine go_iload_n (show decode cX10_hole 28 = .ok (.iload_n 2, 1) by decide +kernel) (by rfl) ?_
  refine go_aload_n (show decode cX10_hole 29 = .ok (.aload_n 0, 1) by decide +kernel) (by rfl) ?_
  obtain ⟨q1, h⟩ := h
  refine go_getR (show decode cX10_hole 30 = .ok (.getfield 29, 3) by decide +kernel) fl_X10_29 rfl q1 ?_
  refine go_iconst (show decode cX10_hole 33 = .ok (.iconst 1, 1) by decide +kernel) (by decide) ?_
  obtain ⟨q2, h⟩ := h
  obtain ⟨q3, h⟩ := h
  refine go_iaload (show decode cX10_hole 34 = .ok (.iaload, 1) by decide +kernel) q2 (by decide) q3 ?_
  obtain ⟨ht, hf⟩ := h
  refine go_icmpge (tgt := 194) (show decode cX10_hole 35 = .ok (.if_icmp .ge 159, 3) by decide +kernel) (by decide) (fun hc => ?_) (fun hc => ?_)
  · have h := ht hc
    refine go_aload_n (show decode cX10_hole 194 = .ok (.aload_n 0, 1) by decide +kernel) (by rfl) ?_
    refine go_getJ (show decode cX10_hole 195 = .ok (.getfield 426, 3) by decide +kernel) fl_X10_426 rfl q1 ?_
    refine go_lconst (n := 0) (show decode cX10_hole 198 = .ok (.lconst 0, 1) by decide +kernel) ?_
    show Go d MX10_hole 199 [some (vR a0), some (vI a1), some (vI a2), none, none, none] [vJ 0, vJ (F a0 46)] S F G Q
    obtain ⟨ht, hf⟩ := h
    refine go_jne (tgt := 207) (show decode cX10_hole 199 = .ok (.lcmp, 1) by decide +kernel) (show decode cX10_hole 200 = .ok (.ifCond .ne 7, 3) by decide +kernel) (by decide) (fun hc => ?_) (fun hc => ?_)
    · have h := ht hc
      refine go_iload_n (show decode cX10_hole 207 = .ok (.iload_n 1, 1) by decide +kernel) (by rfl) ?_
      obtain ⟨ht, hf⟩ := h
      refine go_ifne (tgt := 224) (show decode cX10_hole 208 = .ok (.ifCond .ne 16, 3) by decide +kernel) (by decide) (fun hc => ?_) (fun hc => ?_)
      · have h := ht hc
        refine go_iload_n (show decode cX10_hole 224 = .ok (.iload_n 1, 1) by decide +kernel) (by rfl) ?_
        refine go_iconst (show decode cX10_hole 225 = .ok (.iconst 1, 1) by decide +kernel) (by decide) ?_
        obtain ⟨ht, hf⟩ := h
        refine go_icmpne (tgt := 242) (show decode cX10_hole 226 = .ok (.if_icmp .ne 16, 3) by decide +kernel) (by decide) (fun hc => ?_) (fun hc => ?_)
        · have h := ht hc
          refine go_iload_n (show decode cX10_hole 242 = .ok (.iload_n 1, 1) by decide +kernel) (by rfl) ?_
          refine go_iconst (show decode cX10_hole 243 = .ok (.iconst 2, 1) by decide +kernel) (by decide) ?_
          obtain ⟨ht, hf⟩ := h
          refine go_icmpne (tgt := 264) (show decode cX10_hole 244 = .ok (.if_icmp .ne 20, 3) by decide +kernel) (by decide) (fun hc => ?_) (fun hc => ?_)
          · have h := ht hc
            refine go_iload_n (show decode cX10_hole 264 = .ok (.iload_n 1, 1) by decide +kernel) (by rfl) ?_
            refine go_iconst (show decode cX10_hole 265 = .ok (.iconst 3, 1) by decide +kernel) (by decide) ?_
            obtain ⟨ht, hf⟩ := h
            refine go_icmpne (tgt := 286) (show decode cX10_hole 266 = .ok (.if_icmp .ne 20, 3) by decide +kernel) (by decide) (fun hc => ?_) (fun hc => ?_)
            · have h := ht hc
              refine go_aload_n (show decode cX10_hole 286 = .ok (.aload_n 0, 1) by decide +kernel) (by rfl) ?_
              refine go_getJ (show decode cX10_hole 287 = .ok (.getfield 426, 3) by decide +kernel) fl_X10_426 rfl q1 ?_
              exact go_lret (show decode cX10_hole 290 = .ok (.lreturn, 1) by decide +kernel) rfl h
            · have h := hf hc
              refine go_aload_n (show decode cX10_hole 269 = .ok (.aload_n 0, 1) by decide +kernel) (by rfl) ?_
              refine go_iconst (show decode cX10_hole 270 = .ok (.iconst 1, 1) by decide +kernel) (by decide) ?_
              refine go_aload_n (show decode cX10_hole 271 = .ok (.aload_n 0, 1) by decide +kernel) (by rfl) ?_
              refine go_getI (show decode cX10_hole 272 = .ok (.getfield 423, 3) by decide +kernel) fl_X10_423 (Or.inl rfl) q1 ?_
              refine go_iconst (show decode cX10_hole 275 = .ok (.iconst 1, 1) by decide +kernel) (by decide) ?_
              obtain ⟨q4, h⟩ := h
              refine go_iadd (show decode cX10_hole 276 = .ok (.iadd, 1) by decide +kernel) q4 ?_
              obtain ⟨q5, h⟩ := h
              refine go_callV (d2 := d - 1) (M2 := MX10_edgeAt) (n := 2) (ci := 10) (av := [vI 1, vI ((F a0 45) + 1)]) (st := []) (show decode cX10_hole 277 = .ok (.invokevirtual 126, 3) by decide +kernel) ml_X10_126 mt_X10_edgeAt min_X10_edgeAt mse_X10_edgeAt (by decide) q1 rfl (Nat.le_of_ble_eq_true rfl) (by omega) (ok_mono h (fun w6 S7 F8 G9 h => ?_))
              obtain ⟨z10, e9, h⟩ := h
              subst e9
              show Go d MX10_hole 280 [some (vR a0), some (vI a1), some (vI a2), none, none, none] [vI z10] S7 F8 G9 Q
              refine go_iconst (show decode cX10_hole 280 = .ok (.iconst 1, 1) by decide +kernel) (by decide) ?_
              obtain ⟨q11, h⟩ := h
              refine go_isub (show decode cX10_hole 281 = .ok (.isub, 1) by decide +kernel) q11 ?_
              refine go_i2l (show decode cX10_hole 282 = .ok (.i2l, 1) by decide +kernel) ?_
              refine go_goto (tgt := 290) (show decode cX10_hole 283 = .ok (.goto 7, 3) by decide +kernel) (by decide) ?_
              exact go_lret (show decode cX10_hole 290 = .ok (.lreturn, 1) by decide +kernel) rfl h
          · have h := hf hc
            refine go_aload_n (show decode cX10_hole 247 = .ok (.aload_n 0, 1) by decide +kernel) (by rfl) ?_
            refine go_iconst (show decode cX10_hole 248 = .ok (.iconst 0, 1) by decide +kernel) (by decide) ?_
            refine go_aload_n (show decode cX10_hole 249 = .ok (.aload_n 0, 1) by decide +kernel) (by rfl) ?_
            refine go_getI (show decode cX10_hole 250 = .ok (.getfield 429, 3) by decide +kernel) fl_X10_429 (Or.inl rfl) q1 ?_
            refine go_iconst (show decode cX10_hole 253 = .ok (.iconst 1, 1) by decide +kernel) (by decide) ?_
            obtain ⟨q12, h⟩ := h
            refine go_iadd (show decode cX10_hole 254 = .ok (.iadd, 1) by decide +kernel) q12 ?_
            obtain ⟨q13, h⟩ := h
            refine go_callV (d2 := d - 1) (M2 := MX10_edgeAt) (n := 2) (ci := 10) (av := [vI 0, vI ((F a0 44) + 1)]) (st := []) (show decode cX10_hole 255 = .ok (.invokevirtual 126, 3) by decide +kernel) ml_X10_126 mt_X10_edgeAt min_X10_edgeAt mse_X10_edgeAt (by decide) q1 rfl (Nat.le_of_ble_eq_true rfl) (by omega) (ok_mono h (fun w14 S15 F16 G17 h => ?_))
            obtain ⟨z18, e9, h⟩ := h
            subst e9
            show Go d MX10_hole 258 [some (vR a0), some (vI a1), some (vI a2), none, none, none] [vI z18] S15 F16 G17 Q
            refine go_iconst (show decode cX10_hole 258 = .ok (.iconst 1, 1) by decide +kernel) (by decide) ?_
            obtain ⟨q19, h⟩ := h
            refine go_isub (show decode cX10_hole 259 = .ok (.isub, 1) by decide +kernel) q19 ?_
            refine go_i2l (show decode cX10_hole 260 = .ok (.i2l, 1) by decide +kernel) ?_
            refine go_goto (tgt := 290) (show decode cX10_hole 261 = .ok (.goto 29, 3) by decide +kernel) (by decide) ?_
            exact go_lret (show decode cX10_hole 290 = .ok (.lreturn, 1) by decide +kernel) rfl h
        · have h := hf hc
          refine go_aload_n (show decode cX10_hole 229 = .ok (.aload_n 0, 1) by decide +kernel) (by rfl) ?_
          refine go_iconst (show decode cX10_hole 230 = .ok (.iconst 1, 1) by decide +kernel) (by decide) ?_
          refine go_aload_n (show decode cX10_hole 231 = .ok (.aload_n 0, 1) by decide +kernel) (by rfl) ?_
          refine go_getI (show decode cX10_hole 232 = .ok (.getfield 417, 3) by decide +kernel) fl_X10_417 (Or.inl rfl) q1 ?_
          obtain ⟨q20, h⟩ := h
          refine go_callV (d2 := d - 1) (M2 := MX10_edgeAt) (n := 2) (ci := 10) (av := [vI 1, vI (F a0 43)]) (st := []) (show decode cX10_hole 235 = .ok (.invokevirtual 126, 3) by decide +kernel) ml_X10_126 mt_X10_edgeAt min_X10_edgeAt mse_X10_edgeAt (by decide) q1 rfl (Nat.le_of_ble_eq_true rfl) (by omega) (ok_mono h (fun w21 S22 F23 G24 h => ?_))
          obtain ⟨z25, e9, h⟩ := h
          subst e9
          show Go d MX10_hole 238 [some (vR a0), some (vI a1), some (vI a2), none, none, none] [vI z25] S22 F23 G24 Q
          refine go_i2l (show decode cX10_hole 238 = .ok (.i2l, 1) by decide +kernel) ?_
          refine go_goto (tgt := 290) (show decode cX10_hole 239 = .ok (.goto 51, 3) by decide +kernel) (by decide) ?_
          exact go_lret (show decode cX10_hole 290 = .ok (.lreturn, 1) by decide +kernel) rfl h
      · have h := hf hc
        refine go_aload_n (show decode cX10_hole 211 = .ok (.aload_n 0, 1) by decide +kernel) (by rfl) ?_
        refine go_iconst (show decode cX10_hole 212 = .ok (.iconst 0, 1) by decide +kernel) (by decide) ?_
        refine go_aload_n (show decode cX10_hole 213 = .ok (.aload_n 0, 1) by decide +kernel) (by rfl) ?_
        refine go_getI (show decode cX10_hole 214 = .ok (.getfield 420, 3) by decide +kernel) fl_X10_420 (Or.inl rfl) q1 ?_
        obtain ⟨q26, h⟩ := h
        refine go_callV (d2 := d - 1) (M2 := MX10_edgeAt) (n := 2) (ci := 10) (av := [vI 0, vI (F a0 42)]) (st := []) (show decode cX10_hole 217 = .ok (.invokevirtual 126, 3) by decide +kernel) ml_X10_126 mt_X10_edgeAt min_X10_edgeAt mse_X10_edgeAt (by decide) q1 rfl (Nat.le_of_ble_eq_true rfl) (by omega) (ok_mono h (fun w27 S28 F29 G30 h => ?_))
        obtain ⟨z31, e9, h⟩ := h
        subst e9
        show Go d MX10_hole 220 [some (vR a0), some (vI a1), some (vI a2), none, none, none] [vI z31] S28 F29 G30 Q
        refine go_i2l (show decode cX10_hole 220 = .ok (.i2l, 1) by decide +kernel) ?_
        refine go_goto (tgt := 290) (show decode cX10_hole 221 = .ok (.goto 69, 3) by decide +kernel) (by decide) ?_
        exact go_lret (show decode cX10_hole 290 = .ok (.lreturn, 1) by decide +kernel) rfl h
    · have h := hf hc
      refine go_ldc2 (show decode cX10_hole 203 = .ok (.ldc2_w 311, 3) by decide +kernel) lc_X10_311 (by decide) ?_
      exact go_lret (show decode cX10_hole 206 = .ok (.lreturn, 1) by decide +kernel) rfl h
  · have h := hf hc
    refine go_iconst (show decode cX10_hole 38 = .ok (.iconst 0, 1) by decide +kernel) (by decide) ?_
    refine go_istore_n (show decode cX10_hole 39 = .ok (.istore_n 3, 1) by decide +kernel) (by decide) ?_
    show Go d MX10_hole 40 [some (vR a0), some (vI a1), some (vI a2), some (vI 0), none, none] [] S F G Q
    exact h
def V_X10_hole_0 (d : Nat) (S : AS) (F : AF) (G : AG) (Q : AQ) (a0 : Nat) (a1 : Int) : Prop :=
  (sK S a0 = 10) ∧
  ∀ F2 : AF, F2 = fu F a0 0 0 →
  (1 ≤ d) ∧
  Ok (d - 1) MX10_isIn [vJ a1, vJ 0, vJ 4] S F2 G (fun w4 S5 F6 G7 =>
  ∃ z8 : Int, w4 = some (vI z8) ∧
  ((¬ z8 = 0) →
    (sK S5 a0 = 10) ∧
    ∀ F10 : AF, F10 = fu F6 a0 46 0 →
    Go d MX10_hole 28 [some (vR a0), some (vI a1), some (vI 0), none, none, none] [] S5 F10 G7 Q) ∧
  ((z8 = 0) →
    Q (some (vJ (-2))) S5 F6 G7))
theorem R_X10_hole_0 {d : Nat} {S : AS} {F : AF} {G : AG} {Q : AQ} {a0 : Nat} {a1 : Int} (h : V_X10_hole_0 d S F G Q a0 a1) : Go d MX10_hole 0 [some (vR a0), some (vI a1), none, none, none, none] [] S F G Q := by
  unfold V_X10_hole_0 at h
  refine go_aload_n (show decode cX10_hole 0 = .ok (.aload_n 0, 1) by decide +kernel) (by rfl) ?_
  refine go_iconst (show decode cX10_hole 1 = .ok (.iconst 0, 1) by decide +kernel) (by decide) ?_
  obtain ⟨q1, h⟩ := h
  refine go_putI (show decode cX10_hole 2 = .ok (.putfield 1, 3) by decide +kernel) fl_X10_1 rfl (Or.inl rfl) q1 ?_
  obtain ⟨F2, F2e⟩ : ∃ F2 : AF, F2 = fu F a0 0 0 := ⟨_, rfl⟩
  have h := h F2 F2e
  rw [← F2e]
  refine go_iload_n (show decode cX10_hole 5 = .ok (.iload_n 1, 1) by decide +kernel) (by rfl) ?_
  refine go_i2l (show decode cX10_hole 6 = .ok (.i2l, 1) by decide +kernel) ?_
  refine go_lconst (n := 0) (show decode cX10_hole 7 = .ok (.lconst 0, 1) by decide +kernel) ?_
  show Go d MX10_hole 8 [some (vR a0), some (vI a1), none, none, none, none] [vJ 0, vJ a1] S F2 G Q
  refine go_ldc2 (show decode cX10_hole 8 = .ok (.ldc2_w 432, 3) by decide +kernel) lc_X10_432 (by decide) ?_
  obtain ⟨q3, h⟩ := h
  refine go_callS (d2 := d - 1) (M2 := MX10_isIn) (n := 3) (av := [vJ a1, vJ 0, vJ 4]) (st := []) (show decode cX10_hole 11 = .ok (.invokestatic 116, 3) by decide +kernel) ml_X10_116 mt_X10_isIn mst_X10_isIn rfl (Nat.le_of_ble_eq_true rfl) (by omega) (ok_mono h (fun w4 S5 F6 G7 h => ?_))
  obtain ⟨z8, e9, h⟩ := h
  subst e9
  show Go d MX10_hole 14 [some (vR a0), some (vI a1), none, none, none, none] [vI z8] S5 F6 G7 Q
  obtain ⟨ht, hf⟩ := h
  refine go_ifne (tgt := 21) (show decode cX10_hole 14 = .ok (.ifCond .ne 7, 3) by decide +kernel) (by decide) (fun hc => ?_) (fun hc => ?_)
  · have h := ht hc
    refine go_aload_n (show decode cX10_hole 21 = .ok (.aload_n 0, 1) by decide +kernel) (by rfl) ?_
    refine go_lconst (n := 0) (show decode cX10_hole 22 = .ok (.lconst 0, 1) by decide +kernel) ?_
    show Go d MX10_hole 23 [some (vR a0), some (vI a1), none, none, none, none] [vJ 0, vR a0] S5 F6 G7 Q
    obtain ⟨q9, h⟩ := h
    refine go_putJ (show decode cX10_hole 23 = .ok (.putfield 426, 3) by decide +kernel) fl_X10_426 rfl (Or.inl rfl) q9 ?_
    obtain ⟨F10, F10e⟩ : ∃ F10 : AF, F10 = fu F6 a0 46 0 := ⟨_, rfl⟩
    have h := h F10 F10e
    rw [← F10e]
    refine go_iconst (show decode cX10_hole 26 = .ok (.iconst 0, 1) by decide +kernel) (by decide) ?_
    refine go_istore_n (show decode cX10_hole 27 = .ok (.istore_n 2, 1) by decide +kernel) (by decide) ?_
    show Go d MX10_hole 28 [some (vR a0), some (vI a1), some (vI 0), none, none, none] [] S5 F10 G7 Q
    exact h
  · have h := hf hc
    refine go_ldc2 (show decode cX10_hole 17 = .ok (.ldc2_w 174, 3) by decide +kernel) lc_X10_174 (by decide) ?_
    exact go_lret (show decode cX10_hole 20 = .ok (.lreturn, 1) by decide +kernel) rfl h
def V_X10_tries_110 (d : Nat) (S : AS) (F : AF) (G : AG) (Q : AQ) (a0 : Nat) (a1 : Int) (a2 : Int) (a3 : Int) (a4 : Int) (a5 : Int) (a7 : Int) : Prop :=
  (sK S a0 = 10) ∧
  ∀ F2 : AF, F2 = fu F a0 42 a1 →
  ∀ F3 : AF, F3 = fu F2 a0 43 a2 →
  ∀ F4 : AF, F4 = fu F3 a0 44 a3 →
  ∀ F5 : AF, F5 = fu F4 a0 45 a4 →
  ∀ F6 : AF, F6 = fu F5 a0 46 a5 →
  Q none S F6 G
theorem R_X10_tries_110 {d : Nat} {S : AS} {F : AF} {G : AG} {Q : AQ} {a0 : Nat} {a1 : Int} {a2 : Int} {a3 : Int} {a4 : Int} {a5 : Int} {a7 : Int} (h : V_X10_tries_110 d S F G Q a0 a1 a2 a3 a4 a5 a7) : Go d MX10_tries 110 [some (vR a0), some (vI a1), some (vI a2), some (vI a3), some (vI a4), some (vJ a5), none, some (vI a7)] [] S F G Q := by
  unfold V_X10_tries_110 at h
  refine go_aload_n (show decode cX10_tries 110 = .ok (.aload_n 0, 1) by decide +kernel) (by rfl) ?_
  refine go_iload_n (show decode cX10_tries 111 = .ok (.iload_n 1, 1) by decide +kernel) (by rfl) ?_
  obtain ⟨q1, h⟩ := h
  refine go_putI (show decode cX10_tries 112 = .ok (.putfield 420, 3) by decide +kernel) fl_X10_420 rfl (Or.inl rfl) q1 ?_
  obtain ⟨F2, F2e⟩ : ∃ F2 : AF, F2 = fu F a0 42 a1 := ⟨_, rfl⟩
  have h := h F2 F2e
  rw [← F2e]
  refine go_aload_n (show decode cX10_tries 115 = .ok (.aload_n 0, 1) by decide +kernel) (by rfl) ?_
  refine go_iload_n (show decode cX10_tries 116 = .ok (.iload_n 2, 1) by decide +kernel) (by rfl) ?_
  refine go_putI (show decode cX10_tries 117 = .ok (.putfield 417, 3) by decide +kernel) fl_X10_417 rfl (Or.inl rfl) q1 ?_
  obtain ⟨F3, F3e⟩ : ∃ F3 : AF, F3 = fu F2 a0 43 a2 := ⟨_, rfl⟩
  have h := h F3 F3e
  rw [← F3e]
  refine go_aload_n (show decode cX10_tries 120 = .ok (.aload_n 0, 1) by decide +kernel) (by rfl) ?_
  refine go_iload_n (show decode cX10_tries 121 = .ok (.iload_n 3, 1) by decide +kernel) (by rfl) ?_
  refine go_putI (show decode cX10_tries 122 = .ok (.putfield 429, 3) by decide +kernel) fl_X10_429 rfl (Or.inl rfl) q1 ?_
  obtain ⟨F4, F4e⟩ : ∃ F4 : AF, F4 = fu F3 a0 44 a3 := ⟨_, rfl⟩
  have h := h F4 F4e
  rw [← F4e]
  refine go_aload_n (show decode cX10_tries 125 = .ok (.aload_n 0, 1) by decide +kernel) (by rfl) ?_
  refine go_iload (show decode cX10_tries 126 = .ok (.iload 4, 2) by decide +kernel) (by rfl) ?_
  refine go_putI (show decode cX10_tries 128 = .ok (.putfield 423, 3) by decide +kernel) fl_X10_423 rfl (Or.inl rfl) q1 ?_
  obtain ⟨F5, F5e⟩ : ∃ F5 : AF, F5 = fu F4 a0 45 a4 := ⟨_, rfl⟩
  have h := h F5 F5e
  rw [← F5e]
  refine go_aload_n (show decode cX10_tries 131 = .ok (.aload_n 0, 1) by decide +kernel) (by rfl) ?_
  refine go_lload (show decode cX10_tries 132 = .ok (.lload 5, 2) by decide +kernel) (by rfl) ?_
  refine go_putJ (show decode cX10_tries 134 = .ok (.putfield 426, 3) by decide +kernel) fl_X10_426 rfl (Or.inl rfl) q1 ?_
  obtain ⟨F6, F6e⟩ : ∃ F6 : AF, F6 = fu F5 a0 46 a5 := ⟨_, rfl⟩
  have h := h F6 F6e
  rw [← F6e]
  exact go_vret (show decode cX10_tries 137 = .ok (.return_, 1) by decide +kernel) rfl h
def V_X10_tries_82 (d : Nat) (S : AS) (F : AF) (G : AG) (Q : AQ) (a0 : Nat) (a1 : Int) (a2 : Int) (a3 : Int) (a4 : Int) (a5 : Int) (s0 : Int) : Prop :=
  (sK S a0 = 10) ∧
  ((a5 < F a0 46) →
    Q none S F G) ∧
  ((¬ a5 < F a0 46) →
    ((¬ a5 = F a0 46) →
      V_X10_tries_110 d S F G Q a0 a1 a2 a3 a4 a5 s0) ∧
    ((a5 = F a0 46) →
      ((¬ s0 = 0) →
        V_X10_tries_110 d S F G Q a0 a1 a2 a3 a4 a5 s0) ∧
      ((s0 = 0) →
        Q none S F G)))
theorem R_X10_tries_82 {d : Nat} {S : AS} {F : AF} {G : AG} {Q : AQ} {a0 : Nat} {a1 : Int} {a2 : Int} {a3 : Int} {a4 : Int} {a5 : Int} {s0 : Int} (h : V_X10_tries_82 d S F G Q a0 a1 a2 a3 a4 a5 s0) : Go d MX10_tries 82 [some (vR a0), some (vI a1), some (vI a2), some (vI a3), some (vI a4), some (vJ a5), none, none] [vI s0] S F G Q := by
  unfold V_X10_tries_82 at h
  refine go_istore (show decode cX10_tries 82 = .ok (.istore 7, 2) by decide +kernel) (by decide) ?_
  show Go d MX10_tries 84 [some (vR a0), some (vI a1), some (vI a2), some (vI a3), some (vI a4), some (vJ a5), none, some (vI s0)] [] S F G Q
  refine go_lload (show decode cX10_tries 84 = .ok (.lload 5, 2) by decide +kernel) (by rfl) ?_
  refine go_aload_n (show decode cX10_tries 86 = .ok (.aload_n 0, 1) by decide +kernel) (by rfl) ?_
  obtain ⟨q1, h⟩ := h
  refine go_getJ (show decode cX10_tries 87 = .ok (.getfield 426, 3) by decide +kernel) fl_X10_426 rfl q1 ?_
  obtain ⟨ht, hf⟩ := h
  refine go_jlt (tgt := 109) (show decode cX10_tries 90 = .ok (.lcmp, 1) by decide +kernel) (show decode cX10_tries 91 = .ok (.ifCond .lt 18, 3) by decide +kernel) (by decide) (fun hc => ?_) (fun hc => ?_)
  · have h := ht hc
    exact go_vret (show decode cX10_tries 109 = .ok (.return_, 1) by decide +kernel) rfl h
  · have h := hf hc
    refine go_lload (show decode cX10_tries 94 = .ok (.lload 5, 2) by decide +kernel) (by rfl) ?_
    refine go_aload_n (show decode cX10_tries 96 = .ok (.aload_n 0, 1) by decide +kernel) (by rfl) ?_
    refine go_getJ (show decode cX10_tries 97 = .ok (.getfield 426, 3) by decide +kernel) fl_X10_426 rfl q1 ?_
    obtain ⟨ht, hf⟩ := h
    refine go_jne (tgt := 110) (show decode cX10_tries 100 = .ok (.lcmp, 1) by decide +kernel) (show decode cX10_tries 101 = .ok (.ifCond .ne 9, 3) by decide +kernel) (by decide) (fun hc => ?_) (fun hc => ?_)
    · have h := ht hc
      exact R_X10_tries_110 h
    · have h := hf hc
      refine go_iload (show decode cX10_tries 104 = .ok (.iload 7, 2) by decide +kernel) (by rfl) ?_
      obtain ⟨ht, hf⟩ := h
      refine go_ifne (tgt := 110) (show decode cX10_tries 106 = .ok (.ifCond .ne 4, 3) by decide +kernel) (by decide) (fun hc => ?_) (fun hc => ?_)
      · have h := ht hc
        exact R_X10_tries_110 h
      · have h := hf hc
        exact go_vret (show decode cX10_tries 109 = .ok (.return_, 1) by decide +kernel) rfl h
def V_X10_tries_81 (d : Nat) (S : AS) (F : AF) (G : AG) (Q : AQ) (a0 : Nat) (a1 : Int) (a2 : Int) (a3 : Int) (a4 : Int) (a5 : Int) : Prop :=
  V_X10_tries_82 d S F G Q a0 a1 a2 a3 a4 a5 0
theorem R_X10_tries_81 {d : Nat} {S : AS} {F : AF} {G : AG} {Q : AQ} {a0 : Nat} {a1 : Int} {a2 : Int} {a3 : Int} {a4 : Int} {a5 : Int} (h : V_X10_tries_81 d S F G Q a0 a1 a2 a3 a4 a5) : Go d MX10_tries 81 [some (vR a0), some (vI a1), some (vI a2), some (vI a3), some (vI a4), some (vJ a5), none, none] [] S F G Q := by
  unfold V_X10_tries_81 at h
  refine go_iconst (show decode cX10_tries 81 = .ok (.iconst 0, 1) by decide +kernel) (by decide) ?_
  exact R_X10_tries_82 h
def V_X10_tries_77 (d : Nat) (S : AS) (F : AF) (G : AG) (Q : AQ) (a0 : Nat) (a1 : Int) (a2 : Int) (a3 : Int) (a4 : Int) (a5 : Int) : Prop :=
  V_X10_tries_82 d S F G Q a0 a1 a2 a3 a4 a5 1
theorem R_X10_tries_77 {d : Nat} {S : AS} {F : AF} {G : AG} {Q : AQ} {a0 : Nat} {a1 : Int} {a2 : Int} {a3 : Int} {a4 : Int} {a5 : Int} (h : V_X10_tries_77 d S F G Q a0 a1 a2 a3 a4 a5) : Go d MX10_tries 77 [some (vR a0), some (vI a1), some (vI a2), some (vI a3), some (vI a4), some (vJ a5), none, none] [] S F G Q := by
  unfold V_X10_tries_77 at h
  refine go_iconst (show decode cX10_tries 77 = .ok (.iconst 1, 1) by decide +kernel) (by decide) ?_
  refine go_goto (tgt := 82) (show decode cX10_tries 78 = .ok (.goto 4, 3) by decide +kernel) (by decide) ?_
  exact R_X10_tries_82 h
def V_X10_tries_0 (d : Nat) (S : AS) (F : AF) (G : AG) (Q : AQ) (a0 : Nat) (a1 : Int) (a2 : Int) (a3 : Int) (a4 : Int) : Prop :=
  (r32 (a3 + 1)) ∧
  (1 ≤ d) ∧
  (sK S a0 = 10) ∧
  Ok (d - 1) MX10_edgeAt [vR a0, vI 0, vI (a3 + 1)] S F G (fun w3 S4 F5 G6 =>
  ∃ z8 : Int, w3 = some (vI z8) ∧
  (sK S4 a0 = 10) ∧
  Ok (d - 1) MX10_edgeAt [vR a0, vI 0, vI a1] S4 F5 G6 (fun w9 S10 F11 G12 =>
  ∃ z14 : Int, w9 = some (vI z14) ∧
  (r32 (z8 - z14)) ∧
  (r32 (a4 + 1)) ∧
  (sK S10 a0 = 10) ∧
  Ok (d - 1) MX10_edgeAt [vR a0, vI 1, vI (a4 + 1)] S10 F11 G12 (fun w17 S18 F19 G20 =>
  ∃ z22 : Int, w17 = some (vI z22) ∧
  (sK S18 a0 = 10) ∧
  Ok (d - 1) MX10_edgeAt [vR a0, vI 1, vI a2] S18 F19 G20 (fun w23 S24 F25 G26 =>
  ∃ z28 : Int, w23 = some (vI z28) ∧
  (r32 (z22 - z28)) ∧
  (r64 ((z8 - z14) * (z22 - z28))) ∧
  ∀ x31 : Int, x31 = (z8 - z14) * (z22 - z28) →
  (sK S24 a0 = 10) ∧
  ((a2 < F25 a0 43) →
    V_X10_tries_77 d S24 F25 G26 Q a0 a1 a2 a3 a4 x31) ∧
  ((¬ a2 < F25 a0 43) →
    ((¬ a2 = F25 a0 43) →
      V_X10_tries_81 d S24 F25 G26 Q a0 a1 a2 a3 a4 x31) ∧
    ((a2 = F25 a0 43) →
      ((a1 < F25 a0 42) →
        V_X10_tries_77 d S24 F25 G26 Q a0 a1 a2 a3 a4 x31) ∧
      ((¬ a1 < F25 a0 42) →
        ((¬ a1 = F25 a0 42) →
          V_X10_tries_81 d S24 F25 G26 Q a0 a1 a2 a3 a4 x31) ∧
        ((a1 = F25 a0 42) →
          ((F25 a0 45 ≤ a4) →
            V_X10_tries_81 d S24 F25 G26 Q a0 a1 a2 a3 a4 x31) ∧
          ((¬ F25 a0 45 ≤ a4) →
            V_X10_tries_77 d S24 F25 G26 Q a0 a1 a2 a3 a4 x31)))))))))
theorem R_X10_tries_0 {d : Nat} {S : AS} {F : AF} {G : AG} {Q : AQ} {a0 : Nat} {a1 : Int} {a2 : Int} {a3 : Int} {a4 : Int} (h : V_X10_tries_0 d S F G Q a0 a1 a2 a3 a4) : Go d MX10_tries 0 [some (vR a0), some (vI a1), some (vI a2), some (vI a3), some (vI a4), none, none, none] [] S F G Q := by
  unfold V_X10_tries_0 at h
  refine go_aload_n (show decode cX10_tries 0 = .ok (.aload_n 0, 1) by decide +kernel) (by rfl) ?_
  refine go_iconst (show decode cX10_tries 1 = .ok (.iconst 0, 1) by decide +kernel) (by decide) ?_
  refine go_iload_n (show decode cX10_tries 2 = .ok (.iload_n 3, 1) by decide +kernel) (by rfl) ?_
  refine go_iconst (show decode cX10_tries 3 = .ok (.iconst 1, 1) by decide +kernel) (by decide) ?_
  obtain ⟨q1, h⟩ := h
  refine go_iadd (show decode cX10_tries 4 = .ok (.iadd, 1) by decide +kernel) q1 ?_
  obtain ⟨q2, h⟩ := h
  obtain ⟨q7, h⟩ := h
  refine go_callV (d2 := d - 1) (M2 := MX10_edgeAt) (n := 2) (ci := 10) (av := [vI 0, vI (a3 + 1)]) (st := []) (show decode cX10_tries 5 = .ok (.invokevirtual 126, 3) by decide +kernel) ml_X10_126 mt_X10_edgeAt min_X10_edgeAt mse_X10_edgeAt (by decide) q7 rfl (Nat.le_of_ble_eq_true rfl) (by omega) (ok_mono h (fun w3 S4 F5 G6 h => ?_))
  obtain ⟨z8, e9, h⟩ := h
  subst e9
  show Go d MX10_tries 8 [some (vR a0), some (vI a1), some (vI a2), some (vI a3), some (vI a4), none, none, none] [vI z8] S4 F5 G6 Q
  refine go_aload_n (show decode cX10_tries 8 = .ok (.aload_n 0, 1) by decide +kernel) (by rfl) ?_
  refine go_iconst (show decode cX10_tries 9 = .ok (.iconst 0, 1) by decide +kernel) (by decide) ?_
  refine go_iload_n (show decode cX10_tries 10 = .ok (.iload_n 1, 1) by decide +kernel) (by rfl) ?_
  obtain ⟨q13, h⟩ := h
  refine go_callV (d2 := d - 1) (M2 := MX10_edgeAt) (n := 2) (ci := 10) (av := [vI 0, vI a1]) (st := [vI z8]) (show decode cX10_tries 11 = .ok (.invokevirtual 126, 3) by decide +kernel) ml_X10_126 mt_X10_edgeAt min_X10_edgeAt mse_X10_edgeAt (by decide) q13 rfl (Nat.le_of_ble_eq_true rfl) (by omega) (ok_mono h (fun w9 S10 F11 G12 h => ?_))
  obtain ⟨z14, e9, h⟩ := h
  subst e9
  show Go d MX10_tries 14 [some (vR a0), some (vI a1), some (vI a2), some (vI a3), some (vI a4), none, none, none] [vI z14, vI z8] S10 F11 G12 Q
  obtain ⟨q15, h⟩ := h
  refine go_isub (show decode cX10_tries 14 = .ok (.isub, 1) by decide +kernel) q15 ?_
  refine go_i2l (show decode cX10_tries 15 = .ok (.i2l, 1) by decide +kernel) ?_
  refine go_aload_n (show decode cX10_tries 16 = .ok (.aload_n 0, 1) by decide +kernel) (by rfl) ?_
  refine go_iconst (show decode cX10_tries 17 = .ok (.iconst 1, 1) by decide +kernel) (by decide) ?_
  refine go_iload (show decode cX10_tries 18 = .ok (.iload 4, 2) by decide +kernel) (by rfl) ?_
  refine go_iconst (show decode cX10_tries 20 = .ok (.iconst 1, 1) by decide +kernel) (by decide) ?_
  obtain ⟨q16, h⟩ := h
  refine go_iadd (show decode cX10_tries 21 = .ok (.iadd, 1) by decide +kernel) q16 ?_
  obtain ⟨q21, h⟩ := h
  refine go_callV (d2 := d - 1) (M2 := MX10_edgeAt) (n := 2) (ci := 10) (av := [vI 1, vI (a4 + 1)]) (st := [vJ (z8 - z14)]) (show decode cX10_tries 22 = .ok (.invokevirtual 126, 3) by decide +kernel) ml_X10_126 mt_X10_edgeAt min_X10_edgeAt mse_X10_edgeAt (by decide) q21 rfl (Nat.le_of_ble_eq_true rfl) (by omega) (ok_mono h (fun w17 S18 F19 G20 h => ?_))
  obtain ⟨z22, e9, h⟩ := h
  subst e9
  show Go d MX10_tries 25 [some (vR a0), some (vI a1), some (vI a2), some (vI a3), some (vI a4), none, none, none] [vI z22, vJ (z8 - z14)] S18 F19 G20 Q
  refine go_aload_n (show decode cX10_tries 25 = .ok (.aload_n 0, 1) by decide +kernel) (by rfl) ?_
  refine go_iconst (show decode cX10_tries 26 = .ok (.iconst 1, 1) by decide +kernel) (by decide) ?_
  refine go_iload_n (show decode cX10_tries 27 = .ok (.iload_n 2, 1) by decide +kernel) (by rfl) ?_
  obtain ⟨q27, h⟩ := h
  refine go_callV (d2 := d - 1) (M2 := MX10_edgeAt) (n := 2) (ci := 10) (av := [vI 1, vI a2]) (st := [vI z22, vJ (z8 - z14)]) (show decode cX10_tries 28 = .ok (.invokevirtual 126, 3) by decide +kernel) ml_X10_126 mt_X10_edgeAt min_X10_edgeAt mse_X10_edgeAt (by decide) q27 rfl (Nat.le_of_ble_eq_true rfl) (by omega) (ok_mono h (fun w23 S24 F25 G26 h => ?_))
  obtain ⟨z28, e9, h⟩ := h
  subst e9
  show Go d MX10_tries 31 [some (vR a0), some (vI a1), some (vI a2), some (vI a3), some (vI a4), none, none, none] [vI z28, vI z22, vJ (z8 - z14)] S24 F25 G26 Q
  obtain ⟨q29, h⟩ := h
  refine go_isub (show decode cX10_tries 31 = .ok (.isub, 1) by decide +kernel) q29 ?_
  refine go_i2l (show decode cX10_tries 32 = .ok (.i2l, 1) by decide +kernel) ?_
  obtain ⟨q30, h⟩ := h
  refine go_lmul (show decode cX10_tries 33 = .ok (.lmul, 1) by decide +kernel) q30 ?_
  obtain ⟨x31, x31e⟩ : ∃ x31 : Int, x31 = (z8 - z14) * (z22 - z28) := ⟨_, rfl⟩
  have h := h x31 x31e
  rw [← x31e]
  refine go_lstore (show decode cX10_tries 34 = .ok (.lstore 5, 2) by decide +kernel) (by decide) ?_
  show Go d MX10_tries 36 [some (vR a0), some (vI a1), some (vI a2), some (vI a3), some (vI a4), some (vJ x31), none, none] [] S24 F25 G26 Q
  refine go_iload_n (show decode cX10_tries 36 = .ok (.iload_n 2, 1) by decide +kernel) (by rfl) ?_
  refine go_aload_n (show decode cX10_tries 37 = .ok (.aload_n 0, 1) by decide +kernel) (by rfl) ?_
  obtain ⟨q32, h⟩ := h
  refine go_getI (show decode cX10_tries 38 = .ok (.getfield 417, 3) by decide +kernel) fl_X10_417 (Or.inl rfl) q32 ?_
  obtain ⟨ht, hf⟩ := h
  refine go_icmplt (tgt := 77) (show decode cX10_tries 41 = .ok (.if_icmp .lt 36, 3) by decide +kernel) (by decide) (fun hc => ?_) (fun hc => ?_)
  · have h := ht hc
    exact R_X10_tries_77 h
  · have h := hf hc
    refine go_iload_n (show decode cX10_tries 44 = .ok (.iload_n 2, 1) by decide +kernel) (by rfl) ?_
    refine go_aload_n (show decode cX10_tries 45 = .ok (.aload_n 0, 1) by decide +kernel) (by rfl) ?_
    refine go_getI (show decode cX10_tries 46 = .ok (.getfield 417, 3) by decide +kernel) fl_X10_417 (Or.inl rfl) q32 ?_
    obtain ⟨ht, hf⟩ := h
    refine go_icmpne (tgt := 81) (show decode cX10_tries 49 = .ok (.if_icmp .ne 32, 3) by decide +kernel) (by decide) (fun hc => ?_) (fun hc => ?_)
    · have h := ht hc
      exact R_X10_tries_81 h
    · have h := hf hc
      refine go_iload_n (show decode cX10_tries 52 = .ok (.iload_n 1, 1) by decide +kernel) (by rfl) ?_
      refine go_aload_n (show decode cX10_tries 53 = .ok (.aload_n 0, 1) by decide +kernel) (by rfl) ?_
      refine go_getI (show decode cX10_tries 54 = .ok (.getfield 420, 3) by decide +kernel) fl_X10_420 (Or.inl rfl) q32 ?_
      obtain ⟨ht, hf⟩ := h
      refine go_icmplt (tgt := 77) (show decode cX10_tries 57 = .ok (.if_icmp .lt 20, 3) by decide +kernel) (by decide) (fun hc => ?_) (fun hc => ?_)
      · have h := ht hc
        exact R_X10_tries_77 h
      · have h := hf hc
        refine go_iload_n (show decode cX10_tries 60 = .ok (.iload_n 1, 1) by decide +kernel) (by rfl) ?_
        refine go_aload_n (show decode cX10_tries 61 = .ok (.aload_n 0, 1) by decide +kernel) (by rfl) ?_
        refine go_getI (show decode cX10_tries 62 = .ok (.getfield 420, 3) by decide +kernel) fl_X10_420 (Or.inl rfl) q32 ?_
        obtain ⟨ht, hf⟩ := h
        refine go_icmpne (tgt := 81) (show decode cX10_tries 65 = .ok (.if_icmp .ne 16, 3) by decide +kernel) (by decide) (fun hc => ?_) (fun hc => ?_)
        · have h := ht hc
          exact R_X10_tries_81 h
        · have h := hf hc
          refine go_iload (show decode cX10_tries 68 = .ok (.iload 4, 2) by decide +kernel) (by rfl) ?_
          refine go_aload_n (show decode cX10_tries 70 = .ok (.aload_n 0, 1) by decide +kernel) (by rfl) ?_
          refine go_getI (show decode cX10_tries 71 = .ok (.getfield 423, 3) by decide +kernel) fl_X10_423 (Or.inl rfl) q32 ?_
          obtain ⟨ht, hf⟩ := h
          refine go_icmpge (tgt := 81) (show decode cX10_tries 74 = .ok (.if_icmp .ge 7, 3) by decide +kernel) (by decide) (fun hc => ?_) (fun hc => ?_)
          · have h := ht hc
            exact R_X10_tries_81 h
          · have h := hf hc
            exact R_X10_tries_77 h
