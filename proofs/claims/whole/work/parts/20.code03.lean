def V_X7_sumUpTo_0 (d : Nat) (S : AS) (F : AF) (G : AG) (Q : AQ) (a0 : Int) : Prop :=
  (r64 (a0 + 1)) ∧
  (r64 (a0 * (a0 + 1))) ∧
  (r64 (Int.tdiv (a0 * (a0 + 1)) 2)) ∧
  Q (some (vJ (Int.tdiv (a0 * (a0 + 1)) 2))) S F G
theorem R_X7_sumUpTo_0 {d : Nat} {S : AS} {F : AF} {G : AG} {Q : AQ} {a0 : Int} (h : V_X7_sumUpTo_0 d S F G Q a0) : Go d MX7_sumUpTo 0 [some (vJ a0), none] [] S F G Q := by
  unfold V_X7_sumUpTo_0 at h
  refine go_lload_n (show decode cX7_sumUpTo 0 = .ok (.lload_n 0, 1) by decide +kernel) (by rfl) ?_
  refine go_lload_n (show decode cX7_sumUpTo 1 = .ok (.lload_n 0, 1) by decide +kernel) (by rfl) ?_
  refine go_lconst (n := 1) (show decode cX7_sumUpTo 2 = .ok (.lconst 1, 1) by decide +kernel) ?_
  show Go d MX7_sumUpTo 3 [some (vJ a0), none] [vJ 1, vJ a0, vJ a0] S F G Q
  obtain ⟨q1, h⟩ := h
  refine go_ladd (show decode cX7_sumUpTo 3 = .ok (.ladd, 1) by decide +kernel) q1 ?_
  obtain ⟨q2, h⟩ := h
  refine go_lmul (show decode cX7_sumUpTo 4 = .ok (.lmul, 1) by decide +kernel) q2 ?_
  refine go_ldc2 (show decode cX7_sumUpTo 5 = .ok (.ldc2_w 146, 3) by decide +kernel) lc_X7_146 (by decide) ?_
  obtain ⟨q3, h⟩ := h
  refine go_ldiv (show decode cX7_sumUpTo 8 = .ok (.ldiv, 1) by decide +kernel) (by decide) q3 ?_
  exact go_lret (show decode cX7_sumUpTo 9 = .ok (.lreturn, 1) by decide +kernel) rfl h
def V_X7_findWindow_237 (d : Nat) (S : AS) (F : AF) (G : AG) (Q : AQ) (a0 : Nat) (a1 : Int) (a2 : Int) (a3 : Int) (a4 : Int) (a5 : Int) (a6 : Int) (a7 : Int) : Prop :=
  (r32 (a6 + 1)) ∧
  Go d MX7_findWindow 55 [some (vR a0), some (vI a1), some (vI a2), some (vI a3), some (vI a4), some (vI a5), some (vI (a6 + 1)), none, none, none, none, none] [] S F G Q
theorem R_X7_findWindow_237 {d : Nat} {S : AS} {F : AF} {G : AG} {Q : AQ} {a0 : Nat} {a1 : Int} {a2 : Int} {a3 : Int} {a4 : Int} {a5 : Int} {a6 : Int} {a7 : Int} (h : V_X7_findWindow_237 d S F G Q a0 a1 a2 a3 a4 a5 a6 a7) : Go d MX7_findWindow 237 [some (vR a0), some (vI a1), some (vI a2), some (vI a3), some (vI a4), some (vI a5), some (vI a6), some (vI a7), none, none, none, none] [] S F G Q := by
  unfold V_X7_findWindow_237 at h
  obtain ⟨q1, h⟩ := h
  refine go_iinc (show decode cX7_findWindow 237 = .ok (.iinc 6 1, 3) by decide +kernel) (by rfl) q1 (by decide) ?_
  show Go d MX7_findWindow 240 [some (vR a0), some (vI a1), some (vI a2), some (vI a3), some (vI a4), some (vI a5), some (vI (a6 + 1)), some (vI a7), none, none, none, none] [] S F G Q
  refine go_goto (tgt := 55) (show decode cX7_findWindow 240 = .ok (.goto (-185), 3) by decide +kernel) (by decide) ?_
  refine go_clr 7 ?_
  exact h
def V_X7_findWindow_231 (d : Nat) (S : AS) (F : AF) (G : AG) (Q : AQ) (a0 : Nat) (a1 : Int) (a2 : Int) (a3 : Int) (a4 : Int) (a5 : Int) (a6 : Int) (a7 : Int) (a8 : Int) (a9 : Int) (a11 : Int) : Prop :=
  (r32 (a7 + 1)) ∧
  Go d MX7_findWindow 96 [some (vR a0), some (vI a1), some (vI a2), some (vI a3), some (vI a4), some (vI a5), some (vI a6), some (vI (a7 + 1)), none, none, none, none] [] S F G Q
theorem R_X7_findWindow_231 {d : Nat} {S : AS} {F : AF} {G : AG} {Q : AQ} {a0 : Nat} {a1 : Int} {a2 : Int} {a3 : Int} {a4 : Int} {a5 : Int} {a6 : Int} {a7 : Int} {a8 : Int} {a9 : Int} {a11 : Int} (h : V_X7_findWindow_231 d S F G Q a0 a1 a2 a3 a4 a5 a6 a7 a8 a9 a11) : Go d MX7_findWindow 231 [some (vR a0), some (vI a1), some (vI a2), some (vI a3), some (vI a4), some (vI a5), some (vI a6), some (vI a7), some (vI a8), some (vJ a9), none, some (vI a11)] [] S F G Q := by
  unfold V_X7_findWindow_231 at h
  obtain ⟨q1, h⟩ := h
  refine go_iinc (show decode cX7_findWindow 231 = .ok (.iinc 7 1, 3) by decide +kernel) (by rfl) q1 (by decide) ?_
  show Go d MX7_findWindow 234 [some (vR a0), some (vI a1), some (vI a2), some (vI a3), some (vI a4), some (vI a5), some (vI a6), some (vI (a7 + 1)), some (vI a8), some (vJ a9), none, some (vI a11)] [] S F G Q
  refine go_goto (tgt := 96) (show decode cX7_findWindow 234 = .ok (.goto (-138), 3) by decide +kernel) (by decide) ?_
  refine go_clr 8 ?_
  refine go_clr 9 ?_
  refine go_clr 11 ?_
  exact h
def V_X7_findWindow_208 (d : Nat) (S : AS) (F : AF) (G : AG) (Q : AQ) (a0 : Nat) (a1 : Int) (a2 : Int) (a3 : Int) (a4 : Int) (a5 : Int) (a6 : Int) (a7 : Int) (a8 : Int) (a9 : Int) (a11 : Int) : Prop :=
  (sK S a0 = 7) ∧
  ∀ F2 : AF, F2 = fu F a0 8 a9 →
  ∀ F3 : AF, F3 = fu F2 a0 4 a8 →
  (sK S (sR S a0 16) = 20) ∧
  ((0 : Int) ≤ a6) ∧
  ((a6 : Int) < (sN S (sR S a0 16) : Int)) ∧
  ∀ F7 : AF, F7 = fu F3 a0 5 (G (sR S a0 16) a6) →
  V_X7_findWindow_231 d S F7 G Q a0 a1 a2 a3 a4 a5 a6 a7 a8 a9 a11
theorem R_X7_findWindow_208 {d : Nat} {S : AS} {F : AF} {G : AG} {Q : AQ} {a0 : Nat} {a1 : Int} {a2 : Int} {a3 : Int} {a4 : Int} {a5 : Int} {a6 : Int} {a7 : Int} {a8 : Int} {a9 : Int} {a11 : Int} (h : V_X7_findWindow_208 d S F G Q a0 a1 a2 a3 a4 a5 a6 a7 a8 a9 a11) : Go d MX7_findWindow 208 [some (vR a0), some (vI a1), some (vI a2), some (vI a3), some (vI a4), some (vI a5), some (vI a6), some (vI a7), some (vI a8), some (vJ a9), none, some (vI a11)] [] S F G Q := by
  unfold V_X7_findWindow_208 at h
  refine go_aload_n (show decode cX7_findWindow 208 = .ok (.aload_n 0, 1) by decide +kernel) (by rfl) ?_
  refine go_lload (show decode cX7_findWindow 209 = .ok (.lload 9, 2) by decide +kernel) (by rfl) ?_
  obtain ⟨q1, h⟩ := h
  refine go_putJ (show decode cX7_findWindow 211 = .ok (.putfield 169, 3) by decide +kernel) fl_X7_169 rfl (Or.inl rfl) q1 ?_
  obtain ⟨F2, F2e⟩ : ∃ F2 : AF, F2 = fu F a0 8 a9 := ⟨_, rfl⟩
  have h := h F2 F2e
  rw [← F2e]
  refine go_aload_n (show decode cX7_findWindow 214 = .ok (.aload_n 0, 1) by decide +kernel) (by rfl) ?_
  refine go_iload (show decode cX7_findWindow 215 = .ok (.iload 8, 2) by decide +kernel) (by rfl) ?_
  refine go_putI (show decode cX7_findWindow 217 = .ok (.putfield 143, 3) by decide +kernel) fl_X7_143 rfl (Or.inl rfl) q1 ?_
  obtain ⟨F3, F3e⟩ : ∃ F3 : AF, F3 = fu F2 a0 4 a8 := ⟨_, rfl⟩
  have h := h F3 F3e
  rw [← F3e]
  refine go_aload_n (show decode cX7_findWindow 220 = .ok (.aload_n 0, 1) by decide +kernel) (by rfl) ?_
  refine go_aload_n (show decode cX7_findWindow 221 = .ok (.aload_n 0, 1) by decide +kernel) (by rfl) ?_
  refine go_getR (show decode cX7_findWindow 222 = .ok (.getfield 41, 3) by decide +kernel) fl_X7_41 rfl q1 ?_
  refine go_iload (show decode cX7_findWindow 225 = .ok (.iload 6, 2) by decide +kernel) (by rfl) ?_
  obtain ⟨q4, h⟩ := h
  obtain ⟨q5, h⟩ := h
  obtain ⟨q6, h⟩ := h
  refine go_iaload (show decode cX7_findWindow 227 = .ok (.iaload, 1) by decide +kernel) q4 q5 q6 ?_
  refine go_putI (show decode cX7_findWindow 228 = .ok (.putfield 140, 3) by decide +kernel) fl_X7_140 rfl (Or.inl rfl) q1 ?_
  obtain ⟨F7, F7e⟩ : ∃ F7 : AF, F7 = fu F3 a0 5 (G (sR S a0 16) a6) := ⟨_, rfl⟩
  have h := h F7 F7e
  rw [← F7e]
  exact R_X7_findWindow_231 h
def V_X7_findWindow_181 (d : Nat) (S : AS) (F : AF) (G : AG) (Q : AQ) (a0 : Nat) (a1 : Int) (a2 : Int) (a3 : Int) (a4 : Int) (a5 : Int) (a6 : Int) (a7 : Int) (a8 : Int) (a9 : Int) (s0 : Int) : Prop :=
  (sK S a0 = 7) ∧
  ((F a0 8 < a9) →
    V_X7_findWindow_208 d S F G Q a0 a1 a2 a3 a4 a5 a6 a7 a8 a9 s0) ∧
  ((¬ F a0 8 < a9) →
    ((¬ a9 = F a0 8) →
      V_X7_findWindow_231 d S F G Q a0 a1 a2 a3 a4 a5 a6 a7 a8 a9 s0) ∧
    ((a9 = F a0 8) →
      ((s0 = 0) →
        V_X7_findWindow_231 d S F G Q a0 a1 a2 a3 a4 a5 a6 a7 a8 a9 s0) ∧
      ((¬ s0 = 0) →
        V_X7_findWindow_208 d S F G Q a0 a1 a2 a3 a4 a5 a6 a7 a8 a9 s0)))
theorem R_X7_findWindow_181 {d : Nat} {S : AS} {F : AF} {G : AG} {Q : AQ} {a0 : Nat} {a1 : Int} {a2 : Int} {a3 : Int} {a4 : Int} {a5 : Int} {a6 : Int} {a7 : Int} {a8 : Int} {a9 : Int} {s0 : Int} (h : V_X7_findWindow_181 d S F G Q a0 a1 a2 a3 a4 a5 a6 a7 a8 a9 s0) : Go d MX7_findWindow 181 [some (vR a0), some (vI a1), some (vI a2), some (vI a3), some (vI a4), some (vI a5), some (vI a6), some (vI a7), some (vI a8), some (vJ a9), none, none] [vI s0] S F G Q := by
  unfold V_X7_findWindow_181 at h
  refine go_istore (show decode cX7_findWindow 181 = .ok (.istore 11, 2) by decide +kernel) (by decide) ?_
  show Go d MX7_findWindow 183 [some (vR a0), some (vI a1), some (vI a2), some (vI a3), some (vI a4), some (vI a5), some (vI a6), some (vI a7), some (vI a8), some (vJ a9), none, some (vI s0)] [] S F G Q
  refine go_lload (show decode cX7_findWindow 183 = .ok (.lload 9, 2) by decide +kernel) (by rfl) ?_
  refine go_aload_n (show decode cX7_findWindow 185 = .ok (.aload_n 0, 1) by decide +kernel) (by rfl) ?_
  obtain ⟨q1, h⟩ := h
  refine go_getJ (show decode cX7_findWindow 186 = .ok (.getfield 169, 3) by decide +kernel) fl_X7_169 rfl q1 ?_
  obtain ⟨ht, hf⟩ := h
  refine go_jgt (tgt := 208) (show decode cX7_findWindow 189 = .ok (.lcmp, 1) by decide +kernel) (show decode cX7_findWindow 190 = .ok (.ifCond .gt 18, 3) by decide +kernel) (by decide) (fun hc => ?_) (fun hc => ?_)
  · have h := ht hc
    exact R_X7_findWindow_208 h
  · have h := hf hc
    refine go_lload (show decode cX7_findWindow 193 = .ok (.lload 9, 2) by decide +kernel) (by rfl) ?_
    refine go_aload_n (show decode cX7_findWindow 195 = .ok (.aload_n 0, 1) by decide +kernel) (by rfl) ?_
    refine go_getJ (show decode cX7_findWindow 196 = .ok (.getfield 169, 3) by decide +kernel) fl_X7_169 rfl q1 ?_
    obtain ⟨ht, hf⟩ := h
    refine go_jne (tgt := 231) (show decode cX7_findWindow 199 = .ok (.lcmp, 1) by decide +kernel) (show decode cX7_findWindow 200 = .ok (.ifCond .ne 31, 3) by decide +kernel) (by decide) (fun hc => ?_) (fun hc => ?_)
    · have h := ht hc
      exact R_X7_findWindow_231 h
    · have h := hf hc
      refine go_iload (show decode cX7_findWindow 203 = .ok (.iload 11, 2) by decide +kernel) (by rfl) ?_
      obtain ⟨ht, hf⟩ := h
      refine go_ifeq (tgt := 231) (show decode cX7_findWindow 205 = .ok (.ifCond .eq 26, 3) by decide +kernel) (by decide) (fun hc => ?_) (fun hc => ?_)
      · have h := ht hc
        exact R_X7_findWindow_231 h
      · have h := hf hc
        exact R_X7_findWindow_208 h
def V_X7_findWindow_180 (d : Nat) (S : AS) (F : AF) (G : AG) (Q : AQ) (a0 : Nat) (a1 : Int) (a2 : Int) (a3 : Int) (a4 : Int) (a5 : Int) (a6 : Int) (a7 : Int) (a8 : Int) (a9 : Int) : Prop :=
  V_X7_findWindow_181 d S F G Q a0 a1 a2 a3 a4 a5 a6 a7 a8 a9 0
theorem R_X7_findWindow_180 {d : Nat} {S : AS} {F : AF} {G : AG} {Q : AQ} {a0 : Nat} {a1 : Int} {a2 : Int} {a3 : Int} {a4 : Int} {a5 : Int} {a6 : Int} {a7 : Int} {a8 : Int} {a9 : Int} (h : V_X7_findWindow_180 d S F G Q a0 a1 a2 a3 a4 a5 a6 a7 a8 a9) : Go d MX7_findWindow 180 [some (vR a0), some (vI a1), some (vI a2), some (vI a3), some (vI a4), some (vI a5), some (vI a6), some (vI a7), some (vI a8), some (vJ a9), none, none] [] S F G Q := by
  unfold V_X7_findWindow_180 at h
  refine go_iconst (show decode cX7_findWindow 180 = .ok (.iconst 0, 1) by decide +kernel) (by decide) ?_
  exact R_X7_findWindow_181 h
def V_X7_findWindow_176 (d : Nat) (S : AS) (F : AF) (G : AG) (Q : AQ) (a0 : Nat) (a1 : Int) (a2 : Int) (a3 : Int) (a4 : Int) (a5 : Int) (a6 : Int) (a7 : Int) (a8 : Int) (a9 : Int) : Prop :=
  V_X7_findWindow_181 d S F G Q a0 a1 a2 a3 a4 a5 a6 a7 a8 a9 1
theorem R_X7_findWindow_176 {d : Nat} {S : AS} {F : AF} {G : AG} {Q : AQ} {a0 : Nat} {a1 : Int} {a2 : Int} {a3 : Int} {a4 : Int} {a5 : Int} {a6 : Int} {a7 : Int} {a8 : Int} {a9 : Int} (h : V_X7_findWindow_176 d S F G Q a0 a1 a2 a3 a4 a5 a6 a7 a8 a9) : Go d MX7_findWindow 176 [some (vR a0), some (vI a1), some (vI a2), some (vI a3), some (vI a4), some (vI a5), some (vI a6), some (vI a7), some (vI a8), some (vJ a9), none, none] [] S F G Q := by
  unfold V_X7_findWindow_176 at h
  refine go_iconst (show decode cX7_findWindow 176 = .ok (.iconst 1, 1) by decide +kernel) (by decide) ?_
  refine go_goto (tgt := 181) (show decode cX7_findWindow 177 = .ok (.goto 4, 3) by decide +kernel) (by decide) ?_
  exact R_X7_findWindow_181 h
def V_X7_findWindow_96 (d : Nat) (S : AS) (F : AF) (G : AG) (Q : AQ) (a0 : Nat) (a1 : Int) (a2 : Int) (a3 : Int) (a4 : Int) (a5 : Int) (a6 : Int) (a7 : Int) : Prop :=
  ((a4 ≤ a7) →
    V_X7_findWindow_237 d S F G Q a0 a1 a2 a3 a4 a5 a6 a7) ∧
  ((¬ a4 ≤ a7) →
    (sK S a0 = 7) ∧
    (sK S (sR S a0 15) = 20) ∧
    (((sN S (sR S a0 15) : Int) ≤ a7) →
      V_X7_findWindow_237 d S F G Q a0 a1 a2 a3 a4 a5 a6 a7) ∧
    ((¬ (sN S (sR S a0 15) : Int) ≤ a7) →
      ((0 : Int) ≤ a7) ∧
      ((a7 : Int) < (sN S (sR S a0 15) : Int)) ∧
      ∀ x5 : Int, x5 = G (sR S a0 15) a7 →
      (r32 (x5 + a2)) ∧
      (1 ≤ d) ∧
      Ok (d - 1) MX7_unitsAhead [vR a0, vI (x5 + a2)] S F G (fun w8 S9 F10 G11 =>
      ∃ z12 : Int, w8 = some (vJ z12) ∧
      (sK S9 a0 = 7) ∧
      Ok (d - 1) MX7_unitsAhead [vR a0, vI x5] S9 F10 G11 (fun w13 S14 F15 G16 =>
      ∃ z18 : Int, w13 = some (vJ z18) ∧
      (r64 (z12 - z18)) ∧
      ∀ x20 : Int, x20 = z12 - z18 →
      (sK S14 a0 = 7) ∧
      (sK S14 (sR S14 a0 16) = 20) ∧
      ((0 : Int) ≤ a6) ∧
      ((a6 : Int) < (sN S14 (sR S14 a0 16) : Int)) ∧
      ((G16 (sR S14 a0 16) a6 < F15 a0 5) →
        V_X7_findWindow_176 d S14 F15 G16 Q a0 a1 a2 a3 a4 a5 a6 a7 x5 x20) ∧
      ((¬ G16 (sR S14 a0 16) a6 < F15 a0 5) →
        ((¬ G16 (sR S14 a0 16) a6 = F15 a0 5) →
          V_X7_findWindow_180 d S14 F15 G16 Q a0 a1 a2 a3 a4 a5 a6 a7 x5 x20) ∧
        ((G16 (sR S14 a0 16) a6 = F15 a0 5) →
          ((F15 a0 4 ≤ x5) →
            V_X7_findWindow_180 d S14 F15 G16 Q a0 a1 a2 a3 a4 a5 a6 a7 x5 x20) ∧
          ((¬ F15 a0 4 ≤ x5) →
            V_X7_findWindow_176 d S14 F15 G16 Q a0 a1 a2 a3 a4 a5 a6 a7 x5 x20)))))))
theorem R_X7_findWindow_96 {d : Nat} {S : AS} {F : AF} {G : AG} {Q : AQ} {a0 : Nat} {a1 : Int} {a2 : Int} {a3 : Int} {a4 : Int} {a5 : Int} {a6 : Int} {a7 : Int} (h : V_X7_findWindow_96 d S F G Q a0 a1 a2 a3 a4 a5 a6 a7) : Go d MX7_findWindow 96 [some (vR a0), some (vI a1), some (vI a2), some (vI a3), some (vI a4), some (vI a5), some (vI a6), some (vI a7), none, none, none, none] [] S F G Q := by
  unfold V_X7_findWindow_96 at h
  refine go_iload (show decode cX7_findWindow 96 = .ok (.iload 7, 2) by decide +kernel) (by rfl) ?_
  refine go_iload (show decode cX7_findWindow 98 = .ok (.iload 4, 2) by decide +kernel) (by rfl) ?_
  obtain ⟨ht, hf⟩ := h
  refine go_icmpge (tgt := 237) (show decode cX7_findWindow 100 = .ok (.if_icmp .ge 137, 3) by decide +kernel) (by decide) (fun hc => ?_) (fun hc => ?_)
  · have h := ht hc
    exact R_X7_findWindow_237 h
  · have h := hf hc
    refine go_iload (show decode cX7_findWindow 103 = .ok (.iload 7, 2) by decide +kernel) (by rfl) ?_
    refine go_aload_n (show decode cX7_findWindow 105 = .ok (.aload_n 0, 1) by decide +kernel) (by rfl) ?_
    obtain ⟨q1, h⟩ := h
    refine go_getR (show decode cX7_findWindow 106 = .ok (.getfield 38, 3) by decide +kernel) fl_X7_38 rfl q1 ?_
    obtain ⟨q2, h⟩ := h
    refine go_alen (show decode cX7_findWindow 109 = .ok (.arraylength, 1) by decide +kernel) (by omega) ?_
    obtain ⟨ht, hf⟩ := h
    refine go_icmpge (tgt := 237) (show decode cX7_findWindow 110 = .ok (.if_icmp .ge 127, 3) by decide +kernel) (by decide) (fun hc => ?_) (fun hc => ?_)
    · have h := ht hc
      exact R_X7_findWindow_237 h
    · have h := hf hc
      refine go_aload_n (show decode cX7_findWindow 113 = .ok (.aload_n 0, 1) by decide +kernel) (by rfl) ?_
      refine go_getR (show decode cX7_findWindow 114 = .ok (.getfield 38, 3) by decide +kernel) fl_X7_38 rfl q1 ?_
      refine go_iload (show decode cX7_findWindow 117 = .ok (.iload 7, 2) by decide +kernel) (by rfl) ?_
      obtain ⟨q3, h⟩ := h
      obtain ⟨q4, h⟩ := h
      refine go_iaload (show decode cX7_findWindow 119 = .ok (.iaload, 1) by decide +kernel) q2 q3 q4 ?_
      obtain ⟨x5, x5e⟩ : ∃ x5 : Int, x5 = G (sR S a0 15) a7 := ⟨_, rfl⟩
      have h := h x5 x5e
      rw [← x5e]
      refine go_istore (show decode cX7_findWindow 120 = .ok (.istore 8, 2) by decide +kernel) (by decide) ?_
      show Go d MX7_findWindow 122 [some (vR a0), some (vI a1), some (vI a2), some (vI a3), some (vI a4), some (vI a5), some (vI a6), some (vI a7), some (vI x5), none, none, none] [] S F G Q
      refine go_aload_n (show decode cX7_findWindow 122 = .ok (.aload_n 0, 1) by decide +kernel) (by rfl) ?_
      refine go_iload (show decode cX7_findWindow 123 = .ok (.iload 8, 2) by decide +kernel) (by rfl) ?_
      refine go_iload_n (show decode cX7_findWindow 125 = .ok (.iload_n 2, 1) by decide +kernel) (by rfl) ?_
      obtain ⟨q6, h⟩ := h
      refine go_iadd (show decode cX7_findWindow 126 = .ok (.iadd, 1) by decide +kernel) q6 ?_
      obtain ⟨q7, h⟩ := h
      refine go_callV (d2 := d - 1) (M2 := MX7_unitsAhead) (n := 1) (ci := 7) (av := [vI (x5 + a2)]) (st := []) (show decode cX7_findWindow 127 = .ok (.invokevirtual 183, 3) by decide +kernel) ml_X7_183 mt_X7_unitsAhead min_X7_unitsAhead mse_X7_unitsAhead (by decide) q1 rfl (Nat.le_of_ble_eq_true rfl) (by omega) (ok_mono h (fun w8 S9 F10 G11 h => ?_))
      obtain ⟨z12, e9, h⟩ := h
      subst e9
      show Go d MX7_findWindow 130 [some (vR a0), some (vI a1), some (vI a2), some (vI a3), some (vI a4), some (vI a5), some (vI a6), some (vI a7), some (vI x5), none, none, none] [vJ z12] S9 F10 G11 Q
      refine go_aload_n (show decode cX7_findWindow 130 = .ok (.aload_n 0, 1) by decide +kernel) (by rfl) ?_
      refine go_iload (show decode cX7_findWindow 131 = .ok (.iload 8, 2) by decide +kernel) (by rfl) ?_
      obtain ⟨q17, h⟩ := h
      refine go_callV (d2 := d - 1) (M2 := MX7_unitsAhead) (n := 1) (ci := 7) (av := [vI x5]) (st := [vJ z12]) (show decode cX7_findWindow 133 = .ok (.invokevirtual 183, 3) by decide +kernel) ml_X7_183 mt_X7_unitsAhead min_X7_unitsAhead mse_X7_unitsAhead (by decide) q17 rfl (Nat.le_of_ble_eq_true rfl) (by omega) (ok_mono h (fun w13 S14 F15 G16 h => ?_))
      obtain ⟨z18, e9, h⟩ := h
      subst e9
      show Go d MX7_findWindow 136 [some (vR a0), some (vI a1), some (vI a2), some (vI a3), some (vI a4), some (vI a5), some (vI a6), some (vI a7), some (vI x5), none, none, none] [vJ z18, vJ z12] S14 F15 G16 Q
      obtain ⟨q19, h⟩ := h
      refine go_lsub (show decode cX7_findWindow 136 = .ok (.lsub, 1) by decide +kernel) q19 ?_
      obtain ⟨x20, x20e⟩ : ∃ x20 : Int, x20 = z12 - z18 := ⟨_, rfl⟩
      have h := h x20 x20e
      rw [← x20e]
      refine go_lstore (show decode cX7_findWindow 137 = .ok (.lstore 9, 2) by decide +kernel) (by decide) ?_
      show Go d MX7_findWindow 139 [some (vR a0), some (vI a1), some (vI a2), some (vI a3), some (vI a4), some (vI a5), some (vI a6), some (vI a7), some (vI x5), some (vJ x20), none, none] [] S14 F15 G16 Q
      refine go_aload_n (show decode cX7_findWindow 139 = .ok (.aload_n 0, 1) by decide +kernel) (by rfl) ?_
      obtain ⟨q21, h⟩ := h
      refine go_getR (show decode cX7_findWindow 140 = .ok (.getfield 41, 3) by decide +kernel) fl_X7_41 rfl q21 ?_
      refine go_iload (show decode cX7_findWindow 143 = .ok (.iload 6, 2) by decide +kernel) (by rfl) ?_
      obtain ⟨q22, h⟩ := h
      obtain ⟨q23, h⟩ := h
      obtain ⟨q24, h⟩ := h
      refine go_iaload (show decode cX7_findWindow 145 = .ok (.iaload, 1) by decide +kernel) q22 q23 q24 ?_
      refine go_aload_n (show decode cX7_findWindow 146 = .ok (.aload_n 0, 1) by decide +kernel) (by rfl) ?_
      refine go_getI (show decode cX7_findWindow 147 = .ok (.getfield 140, 3) by decide +kernel) fl_X7_140 (Or.inl rfl) q21 ?_
      obtain ⟨ht, hf⟩ := h
      refine go_icmplt (tgt := 176) (show decode cX7_findWindow 150 = .ok (.if_icmp .lt 26, 3) by decide +kernel) (by decide) (fun hc => ?_) (fun hc => ?_)
      · have h := ht hc
        exact R_X7_findWindow_176 h
      · have h := hf hc
        refine go_aload_n (show decode cX7_findWindow 153 = .ok (.aload_n 0, 1) by decide +kernel) (by rfl) ?_
        refine go_getR (show decode cX7_findWindow 154 = .ok (.getfield 41, 3) by decide +kernel) fl_X7_41 rfl q21 ?_
        refine go_iload (show decode cX7_findWindow 157 = .ok (.iload 6, 2) by decide +kernel) (by rfl) ?_
        refine go_iaload (show decode cX7_findWindow 159 = .ok (.iaload, 1) by decide +kernel) q22 q23 q24 ?_
        refine go_aload_n (show decode cX7_findWindow 160 = .ok (.aload_n 0, 1) by decide +kernel) (by rfl) ?_
        refine go_getI (show decode cX7_findWindow 161 = .ok (.getfield 140, 3) by decide +kernel) fl_X7_140 (Or.inl rfl) q21 ?_
        obtain ⟨ht, hf⟩ := h
        refine go_icmpne (tgt := 180) (show decode cX7_findWindow 164 = .ok (.if_icmp .ne 16, 3) by decide +kernel) (by decide) (fun hc => ?_) (fun hc => ?_)
        · have h := ht hc
          exact R_X7_findWindow_180 h
        · have h := hf hc
          refine go_iload (show decode cX7_findWindow 167 = .ok (.iload 8, 2) by decide +kernel) (by rfl) ?_
          refine go_aload_n (show decode cX7_findWindow 169 = .ok (.aload_n 0, 1) by decide +kernel) (by rfl) ?_
          refine go_getI (show decode cX7_findWindow 170 = .ok (.getfield 143, 3) by decide +kernel) fl_X7_143 (Or.inl rfl) q21 ?_
          obtain ⟨ht, hf⟩ := h
          refine go_icmpge (tgt := 180) (show decode cX7_findWindow 173 = .ok (.if_icmp .ge 7, 3) by decide +kernel) (by decide) (fun hc => ?_) (fun hc => ?_)
          · have h := ht hc
            exact R_X7_findWindow_180 h
          · have h := hf hc
            exact R_X7_findWindow_176 h
def V_X7_findWindow_55 (d : Nat) (S : AS) (F : AF) (G : AG) (Q : AQ) (a0 : Nat) (a1 : Int) (a2 : Int) (a3 : Int) (a4 : Int) (a5 : Int) (a6 : Int) : Prop :=
  ((a5 ≤ a6) →
    Q none S F G) ∧
  ((¬ a5 ≤ a6) →
    (sK S a0 = 7) ∧
    (sK S (sR S a0 16) = 20) ∧
    (((sN S (sR S a0 16) : Int) ≤ a6) →
      Q none S F G) ∧
    ((¬ (sN S (sR S a0 16) : Int) ≤ a6) →
      ((0 : Int) ≤ a6) ∧
      ((a6 : Int) < (sN S (sR S a0 16) : Int)) ∧
      (r32 ((G (sR S a0 16) a6) + a3)) ∧
      (1 ≤ d) ∧
      Ok (d - 1) MX7_sumColumnsBetween [vR a0, vI a1, vI (G (sR S a0 16) a6), vI ((G (sR S a0 16) a6) + a3)] S F G (fun w7 S8 F9 G10 =>
      w7 = none ∧
      Go d MX7_findWindow 96 [some (vR a0), some (vI a1), some (vI a2), some (vI a3), some (vI a4), some (vI a5), some (vI a6), some (vI 0), none, none, none, none] [] S8 F9 G10 Q)))
theorem R_X7_findWindow_55 {d : Nat} {S : AS} {F : AF} {G : AG} {Q : AQ} {a0 : Nat} {a1 : Int} {a2 : Int} {a3 : Int} {a4 : Int} {a5 : Int} {a6 : Int} (h : V_X7_findWindow_55 d S F G Q a0 a1 a2 a3 a4 a5 a6) : Go d MX7_findWindow 55 [some (vR a0), some (vI a1), some (vI a2), some (vI a3), some (vI a4), some (vI a5), some (vI a6), none, none, none, none, none] [] S F G Q := by
  unfold V_X7_findWindow_55 at h
  refine go_iload (show decode cX7_findWindow 55 = .ok (.iload 6, 2) by decide +kernel) (by rfl) ?_
  refine go_iload (show decode cX7_findWindow 57 = .ok (.iload 5, 2) by decide +kernel) (by rfl) ?_
  obtain ⟨ht, hf⟩ := h
  refine go_icmpge (tgt := 243) (show decode cX7_findWindow 59 = .ok (.if_icmp .ge 184, 3) by decide +kernel) (by decide) (fun hc => ?_) (fun hc => ?_)
  · have h := ht hc
    exact go_vret (show decode cX7_findWindow 243 = .ok (.return_, 1) by decide +kernel) rfl h
  · have h := hf hc
    refine go_iload (show decode cX7_findWindow 62 = .ok (.iload 6, 2) by decide +kernel) (by rfl) ?_
    refine go_aload_n (show decode cX7_findWindow 64 = .ok (.aload_n 0, 1) by decide +kernel) (by rfl) ?_
    obtain ⟨q1, h⟩ := h
    refine go_getR (show decode cX7_findWindow 65 = .ok (.getfield 41, 3) by decide +kernel) fl_X7_41 rfl q1 ?_
    obtain ⟨q2, h⟩ := h
    refine go_alen (show decode cX7_findWindow 68 = .ok (.arraylength, 1) by decide +kernel) (by omega) ?_
    obtain ⟨ht, hf⟩ := h
    refine go_icmpge (tgt := 243) (show decode cX7_findWindow 69 = .ok (.if_icmp .ge 174, 3) by decide +kernel) (by decide) (fun hc => ?_) (fun hc => ?_)
    · have h := ht hc
      exact go_vret (show decode cX7_findWindow 243 = .ok (.return_, 1) by decide +kernel) rfl h
    · have h := hf hc
      refine go_aload_n (show decode cX7_findWindow 72 = .ok (.aload_n 0, 1) by decide +kernel) (by rfl) ?_
      refine go_iload_n (show decode cX7_findWindow 73 = .ok (.iload_n 1, 1) by decide +kernel) (by rfl) ?_
      refine go_aload_n (show decode cX7_findWindow 74 = .ok (.aload_n 0, 1) by decide +kernel) (by rfl) ?_
      refine go_getR (show decode cX7_findWindow 75 = .ok (.getfield 41, 3) by decide +kernel) fl_X7_41 rfl q1 ?_
      refine go_iload (show decode cX7_findWindow 78 = .ok (.iload 6, 2) by decide +kernel) (by rfl) ?_
      obtain ⟨q3, h⟩ := h
      obtain ⟨q4, h⟩ := h
      refine go_iaload (show decode cX7_findWindow 80 = .ok (.iaload, 1) by decide +kernel) q2 q3 q4 ?_
      refine go_aload_n (show decode cX7_findWindow 81 = .ok (.aload_n 0, 1) by decide +kernel) (by rfl) ?_
      refine go_getR (show decode cX7_findWindow 82 = .ok (.getfield 41, 3) by decide +kernel) fl_X7_41 rfl q1 ?_
      refine go_iload (show decode cX7_findWindow 85 = .ok (.iload 6, 2) by decide +kernel) (by rfl) ?_
      refine go_iaload (show decode cX7_findWindow 87 = .ok (.iaload, 1) by decide +kernel) q2 q3 q4 ?_
      refine go_iload_n (show decode cX7_findWindow 88 = .ok (.iload_n 3, 1) by decide +kernel) (by rfl) ?_
      obtain ⟨q5, h⟩ := h
      refine go_iadd (show decode cX7_findWindow 89 = .ok (.iadd, 1) by decide +kernel) q5 ?_
      obtain ⟨q6, h⟩ := h
      refine go_callV (d2 := d - 1) (M2 := MX7_sumColumnsBetween) (n := 3) (ci := 7) (av := [vI a1, vI (G (sR S a0 16) a6), vI ((G (sR S a0 16) a6) + a3)]) (st := []) (show decode cX7_findWindow 90 = .ok (.invokevirtual 180, 3) by decide +kernel) ml_X7_180 mt_X7_sumColumnsBetween min_X7_sumColumnsBetween mse_X7_sumColumnsBetween (by decide) q1 rfl (Nat.le_of_ble_eq_true rfl) (by omega) (ok_mono h (fun w7 S8 F9 G10 h => ?_))
      obtain ⟨e9, h⟩ := h
      subst e9
      show Go d MX7_findWindow 93 [some (vR a0), some (vI a1), some (vI a2), some (vI a3), some (vI a4), some (vI a5), some (vI a6), none, none, none, none, none] [] S8 F9 G10 Q
      refine go_iconst (show decode cX7_findWindow 93 = .ok (.iconst 0, 1) by decide +kernel) (by decide) ?_
      refine go_istore (show decode cX7_findWindow 94 = .ok (.istore 7, 2) by decide +kernel) (by decide) ?_
      show Go d MX7_findWindow 96 [some (vR a0), some (vI a1), some (vI a2), some (vI a3), some (vI a4), some (vI a5), some (vI a6), some (vI 0), none, none, none, none] [] S8 F9 G10 Q
      exact h
def V_X7_findWindow_0 (d : Nat) (S : AS) (F : AF) (G : AG) (Q : AQ) (a0 : Nat) (a1 : Int) (a2 : Int) (a3 : Int) : Prop :=
  (sK S a0 = 7) ∧
  (sK S (sR S a0 0) = 2) ∧
  (sK S (sR S (sR S a0 0) 0) = 0) ∧
  (1 ≤ d) ∧
  Ok (d - 1) MX7_gatherStarts [vR (sR S (sR S (sR S a0 0) 0) 0), vI a2, vR (sR S a0 15)] S F G (fun w5 S6 F7 G8 =>
  ∃ z9 : Int, w5 = some (vI z9) ∧
  (sK S6 a0 = 7) ∧
  (sK S6 (sR S6 a0 0) = 2) ∧
  (sK S6 (sR S6 (sR S6 a0 0) 1) = 0) ∧
  Ok (d - 1) MX7_gatherStarts [vR (sR S6 (sR S6 (sR S6 a0 0) 1) 0), vI a3, vR (sR S6 a0 16)] S6 F7 G8 (fun w13 S14 F15 G16 =>
  ∃ z17 : Int, w13 = some (vI z17) ∧
  (sK S14 a0 = 7) ∧
  Ok (d - 1) MX7_sumColumnsAbove [vR a0, vI a1] S14 F15 G16 (fun w18 S19 F20 G21 =>
  w18 = none ∧
  (sK S19 a0 = 7) ∧
  ∀ F24 : AF, F24 = fu F20 a0 8 (-1) →
  Go d MX7_findWindow 55 [some (vR a0), some (vI a1), some (vI a2), some (vI a3), some (vI z9), some (vI z17), some (vI 0), none, none, none, none, none] [] S19 F24 G21 Q)))
theorem R_X7_findWindow_0 {d : Nat} {S : AS} {F : AF} {G : AG} {Q : AQ} {a0 : Nat} {a1 : Int} {a2 : Int} {a3 : Int} (h : V_X7_findWindow_0 d S F G Q a0 a1 a2 a3) : Go d MX7_findWindow 0 [some (vR a0), some (vI a1), some (vI a2), some (vI a3), none, none, none, none, none, none, none, none] [] S F G Q := by
  unfold V_X7_findWindow_0 at h
  refine go_aload_n (show decode cX7_findWindow 0 = .ok (.aload_n 0, 1) by decide +kernel) (by rfl) ?_
  obtain ⟨q1, h⟩ := h
  refine go_getR (show decode cX7_findWindow 1 = .ok (.getfield 44, 3) by decide +kernel) fl_X7_44 rfl q1 ?_
  obtain ⟨q2, h⟩ := h
  refine go_getR (show decode cX7_findWindow 4 = .ok (.getfield 60, 3) by decide +kernel) fl_X7_60 rfl q2 ?_
  obtain ⟨q3, h⟩ := h
  refine go_getR (show decode cX7_findWindow 7 = .ok (.getfield 54, 3) by decide +kernel) fl_X7_54 rfl q3 ?_
  refine go_iload_n (show decode cX7_findWindow 10 = .ok (.iload_n 2, 1) by decide +kernel) (by rfl) ?_
  refine go_aload_n (show decode cX7_findWindow 11 = .ok (.aload_n 0, 1) by decide +kernel) (by rfl) ?_
  refine go_getR (show decode cX7_findWindow 12 = .ok (.getfield 38, 3) by decide +kernel) fl_X7_38 rfl q1 ?_
  obtain ⟨q4, h⟩ := h
  refine go_callS (d2 := d - 1) (M2 := MX7_gatherStarts) (n := 3) (av := [vR (sR S (sR S (sR S a0 0) 0) 0), vI a2, vR (sR S a0 15)]) (st := []) (show decode cX7_findWindow 15 = .ok (.invokestatic 172, 3) by decide +kernel) ml_X7_172 mt_X7_gatherStarts mst_X7_gatherStarts rfl (Nat.le_of_ble_eq_true rfl) (by omega) (ok_mono h (fun w5 S6 F7 G8 h => ?_))
  obtain ⟨z9, e9, h⟩ := h
  subst e9
  show Go d MX7_findWindow 18 [some (vR a0), some (vI a1), some (vI a2), some (vI a3), none, none, none, none, none, none, none, none] [vI z9] S6 F7 G8 Q
  refine go_istore (show decode cX7_findWindow 18 = .ok (.istore 4, 2) by decide +kernel) (by decide) ?_
  show Go d MX7_findWindow 20 [some (vR a0), some (vI a1), some (vI a2), some (vI a3), some (vI z9), none, none, none, none, none, none, none] [] S6 F7 G8 Q
  refine go_aload_n (show decode cX7_findWindow 20 = .ok (.aload_n 0, 1) by decide +kernel) (by rfl) ?_
  obtain ⟨q10, h⟩ := h
  refine go_getR (show decode cX7_findWindow 21 = .ok (.getfield 44, 3) by decide +kernel) fl_X7_44 rfl q10 ?_
  obtain ⟨q11, h⟩ := h
  refine go_getR (show decode cX7_findWindow 24 = .ok (.getfield 48, 3) by decide +kernel) fl_X7_48 rfl q11 ?_
  obtain ⟨q12, h⟩ := h
  refine go_getR (show decode cX7_findWindow 27 = .ok (.getfield 54, 3) by decide +kernel) fl_X7_54 rfl q12 ?_
  refine go_iload_n (show decode cX7_findWindow 30 = .ok (.iload_n 3, 1) by decide +kernel) (by rfl) ?_
  refine go_aload_n (show decode cX7_findWindow 31 = .ok (.aload_n 0, 1) by decide +kernel) (by rfl) ?_
  refine go_getR (show decode cX7_findWindow 32 = .ok (.getfield 41, 3) by decide +kernel) fl_X7_41 rfl q10 ?_
  refine go_callS (d2 := d - 1) (M2 := MX7_gatherStarts) (n := 3) (av := [vR (sR S6 (sR S6 (sR S6 a0 0) 1) 0), vI a3, vR (sR S6 a0 16)]) (st := []) (show decode cX7_findWindow 35 = .ok (.invokestatic 172, 3) by decide +kernel) ml_X7_172 mt_X7_gatherStarts mst_X7_gatherStarts rfl (Nat.le_of_ble_eq_true rfl) (by omega) (ok_mono h (fun w13 S14 F15 G16 h => ?_))
  obtain ⟨z17, e9, h⟩ := h
  subst e9
  show Go d MX7_findWindow 38 [some (vR a0), some (vI a1), some (vI a2), some (vI a3), some (vI z9), none, none, none, none, none, none, none] [vI z17] S14 F15 G16 Q
  refine go_istore (show decode cX7_findWindow 38 = .ok (.istore 5, 2) by decide +kernel) (by decide) ?_
  show Go d MX7_findWindow 40 [some (vR a0), some (vI a1), some (vI a2), some (vI a3), some (vI z9), some (vI z17), none, none, none, none, none, none] [] S14 F15 G16 Q
  refine go_aload_n (show decode cX7_findWindow 40 = .ok (.aload_n 0, 1) by decide +kernel) (by rfl) ?_
  refine go_iload_n (show decode cX7_findWindow 41 = .ok (.iload_n 1, 1) by decide +kernel) (by rfl) ?_
  obtain ⟨q22, h⟩ := h
  refine go_callV (d2 := d - 1) (M2 := MX7_sumColumnsAbove) (n := 1) (ci := 7) (av := [vI a1]) (st := []) (show decode cX7_findWindow 42 = .ok (.invokevirtual 176, 3) by decide +kernel) ml_X7_176 mt_X7_sumColumnsAbove min_X7_sumColumnsAbove mse_X7_sumColumnsAbove (by decide) q22 rfl (Nat.le_of_ble_eq_true rfl) (by omega) (ok_mono h (fun w18 S19 F20 G21 h => ?_))
  obtain ⟨e9, h⟩ := h
  subst e9
  show Go d MX7_findWindow 45 [some (vR a0), some (vI a1), some (vI a2), some (vI a3), some (vI z9), some (vI z17), none, none, none, none, none, none] [] S19 F20 G21 Q
  refine go_aload_n (show decode cX7_findWindow 45 = .ok (.aload_n 0, 1) by decide +kernel) (by rfl) ?_
  refine go_ldc2 (show decode cX7_findWindow 46 = .ok (.ldc2_w 167, 3) by decide +kernel) lc_X7_167 (by decide) ?_
  obtain ⟨q23, h⟩ := h
  refine go_putJ (show decode cX7_findWindow 49 = .ok (.putfield 169, 3) by decide +kernel) fl_X7_169 rfl (Or.inl rfl) q23 ?_
  obtain ⟨F24, F24e⟩ : ∃ F24 : AF, F24 = fu F20 a0 8 (-1) := ⟨_, rfl⟩
  have h := h F24 F24e
  rw [← F24e]
  refine go_iconst (show decode cX7_findWindow 52 = .ok (.iconst 0, 1) by decide +kernel) (by decide) ?_
  refine go_istore (show decode cX7_findWindow 53 = .ok (.istore 6, 2) by decide +kernel) (by decide) ?_
  show Go d MX7_findWindow 55 [some (vR a0), some (vI a1), some (vI a2), some (vI a3), some (vI z9), some (vI z17), some (vI 0), none, none, none, none, none] [] S19 F24 G21 Q
  exact h
def V_X7_gatherStarts_87 (d : Nat) (S : AS) (F : AF) (G : AG) (Q : AQ) (a0 : Nat) (a1 : Int) (a2 : Nat) (a3 : Int) (a4 : Int) (a5 : Int) : Prop :=
  (r32 (a5 + 1)) ∧
  Go d MX7_gatherStarts 17 [some (vR a0), some (vI a1), some (vR a2), some (vI a3), some (vI a4), some (vI (a5 + 1))] [] S F G Q
theorem R_X7_gatherStarts_87 {d : Nat} {S : AS} {F : AF} {G : AG} {Q : AQ} {a0 : Nat} {a1 : Int} {a2 : Nat} {a3 : Int} {a4 : Int} {a5 : Int} (h : V_X7_gatherStarts_87 d S F G Q a0 a1 a2 a3 a4 a5) : Go d MX7_gatherStarts 87 [some (vR a0), some (vI a1), some (vR a2), some (vI a3), some (vI a4), some (vI a5)] [] S F G Q := by
  unfold V_X7_gatherStarts_87 at h
  obtain ⟨q1, h⟩ := h
  refine go_iinc (show decode cX7_gatherStarts 87 = .ok (.iinc 5 1, 3) by decide +kernel) (by rfl) q1 (by decide) ?_
  show Go d MX7_gatherStarts 90 [some (vR a0), some (vI a1), some (vR a2), some (vI a3), some (vI a4), some (vI (a5 + 1))] [] S F G Q
  refine go_goto (tgt := 17) (show decode cX7_gatherStarts 90 = .ok (.goto (-73), 3) by decide +kernel) (by decide) ?_
  exact h
def V_X7_gatherStarts_60 (d : Nat) (S : AS) (F : AF) (G : AG) (Q : AQ) (a0 : Nat) (a1 : Int) (a2 : Nat) (a3 : Int) (a4 : Int) (a5 : Int) : Prop :=
  (sK S a0 = 1) ∧
  (sK S (sR S a0 0) = 20) ∧
  ((0 : Int) ≤ a5) ∧
  ((a5 : Int) < (sN S (sR S a0 0) : Int)) ∧
  ((G (sR S a0 0) a5 < a1) →
    V_X7_gatherStarts_87 d S F G Q a0 a1 a2 a3 a4 a5) ∧
  ((¬ G (sR S a0 0) a5 < a1) →
    (r32 ((G (sR S a0 0) a5) - a1)) ∧
    (sK S a2 = 20) ∧
    ((0 : Int) ≤ a4) ∧
    ((a4 : Int) < (sN S a2 : Int)) ∧
    ∀ G9 : AG, G9 = gu G a2 a4 ((G (sR S a0 0) a5) - a1) →
    (r32 (a4 + 1)) ∧
    V_X7_gatherStarts_87 d S F G9 Q a0 a1 a2 a3 (a4 + 1) a5)
theorem R_X7_gatherStarts_60 {d : Nat} {S : AS} {F : AF} {G : AG} {Q : AQ} {a0 : Nat} {a1 : Int} {a2 : Nat} {a3 : Int} {a4 : Int} {a5 : Int} (h : V_X7_gatherStarts_60 d S F G Q a0 a1 a2 a3 a4 a5) : Go d MX7_gatherStarts 60 [some (vR a0), some (vI a1), some (vR a2), some (vI a3), some (vI a4), some (vI a5)] [] S F G Q := by
  unfold V_X7_gatherStarts_60 at h
  refine go_aload_n (show decode cX7_gatherStarts 60 = .ok (.aload_n 0, 1) by decide +kernel) (by rfl) ?_
  obtain ⟨q1, h⟩ := h
  refine go_getR (show decode cX7_gatherStarts 61 = .ok (.getfield 117, 3) by decide +kernel) fl_X7_117 rfl q1 ?_
  refine go_iload (show decode cX7_gatherStarts 64 = .ok (.iload 5, 2) by decide +kernel) (by rfl) ?_
  obtain ⟨q2, h⟩ := h
  obtain ⟨q3, h⟩ := h
  obtain ⟨q4, h⟩ := h
  refine go_iaload (show decode cX7_gatherStarts 66 = .ok (.iaload, 1) by decide +kernel) q2 q3 q4 ?_
  refine go_iload_n (show decode cX7_gatherStarts 67 = .ok (.iload_n 1, 1) by decide +kernel) (by rfl) ?_
  obtain ⟨ht, hf⟩ := h
  refine go_icmplt (tgt := 87) (show decode cX7_gatherStarts 68 = .ok (.if_icmp .lt 19, 3) by decide +kernel) (by decide) (fun hc => ?_) (fun hc => ?_)
  · have h := ht hc
    exact R_X7_gatherStarts_87 h
  · have h := hf hc
    refine go_aload_n (show decode cX7_gatherStarts 71 = .ok (.aload_n 2, 1) by decide +kernel) (by rfl) ?_
    refine go_iload (show decode cX7_gatherStarts 72 = .ok (.iload 4, 2) by decide +kernel) (by rfl) ?_
    refine go_aload_n (show decode cX7_gatherStarts 74 = .ok (.aload_n 0, 1) by decide +kernel) (by rfl) ?_
    refine go_getR (show decode cX7_gatherStarts 75 = .ok (.getfield 117, 3) by decide +kernel) fl_X7_117 rfl q1 ?_
    refine go_iload (show decode cX7_gatherStarts 78 = .ok (.iload 5, 2) by decide +kernel) (by rfl) ?_
    refine go_iaload (show decode cX7_gatherStarts 80 = .ok (.iaload, 1) by decide +kernel) q2 q3 q4 ?_
    refine go_iload_n (show decode cX7_gatherStarts 81 = .ok (.iload_n 1, 1) by decide +kernel) (by rfl) ?_
    obtain ⟨q5, h⟩ := h
    refine go_isub (show decode cX7_gatherStarts 82 = .ok (.isub, 1) by decide +kernel) q5 ?_
    obtain ⟨q6, h⟩ := h
    obtain ⟨q7, h⟩ := h
    obtain ⟨q8, h⟩ := h
    refine go_iastore (show decode cX7_gatherStarts 83 = .ok (.iastore, 1) by decide +kernel) q6 q7 q8  ?_
    obtain ⟨G9, G9e⟩ : ∃ G9 : AG, G9 = gu G a2 a4 ((G (sR S a0 0) a5) - a1) := ⟨_, rfl⟩
    have h := h G9 G9e
    rw [← G9e]
    obtain ⟨q10, h⟩ := h
    refine go_iinc (show decode cX7_gatherStarts 84 = .ok (.iinc 4 1, 3) by decide +kernel) (by rfl) q10 (by decide) ?_
    show Go d MX7_gatherStarts 87 [some (vR a0), some (vI a1), some (vR a2), some (vI a3), some (vI (a4 + 1)), some (vI a5)] [] S F G9 Q
    exact R_X7_gatherStarts_87 h
def V_X7_gatherStarts_17 (d : Nat) (S : AS) (F : AF) (G : AG) (Q : AQ) (a0 : Nat) (a1 : Int) (a2 : Nat) (a3 : Int) (a4 : Int) (a5 : Int) : Prop :=
  (sK S a0 = 1) ∧
  ((F a0 1 ≤ a5) →
    Q (some (vI a4)) S F G) ∧
  ((¬ F a0 1 ≤ a5) →
    (r32 (a4 + 1)) ∧
    (sK S a2 = 20) ∧
    (((sN S a2 : Int) ≤ a4 + 1) →
      Q (some (vI a4)) S F G) ∧
    ((¬ (sN S a2 : Int) ≤ a4 + 1) →
      (sK S (sR S a0 0) = 20) ∧
      ((0 : Int) ≤ a5) ∧
      ((a5 : Int) < (sN S (sR S a0 0) : Int)) ∧
      ((a3 ≤ G (sR S a0 0) a5) →
        V_X7_gatherStarts_60 d S F G Q a0 a1 a2 a3 a4 a5) ∧
      ((¬ a3 ≤ G (sR S a0 0) a5) →
        ((0 : Int) ≤ a4) ∧
        ((a4 : Int) < (sN S a2 : Int)) ∧
        ∀ G9 : AG, G9 = gu G a2 a4 (G (sR S a0 0) a5) →
        V_X7_gatherStarts_60 d S F G9 Q a0 a1 a2 a3 (a4 + 1) a5)))
theorem R_X7_gatherStarts_17 {d : Nat} {S : AS} {F : AF} {G : AG} {Q : AQ} {a0 : Nat} {a1 : Int} {a2 : Nat} {a3 : Int} {a4 : Int} {a5 : Int} (h : V_X7_gatherStarts_17 d S F G Q a0 a1 a2 a3 a4 a5) : Go d MX7_gatherStarts 17 [some (vR a0), some (vI a1), some (vR a2), some (vI a3), some (vI a4), some (vI a5)] [] S F G Q := by
  unfold V_X7_gatherStarts_17 at h
  refine go_iload (show decode cX7_gatherStarts 17 = .ok (.iload 5, 2) by decide +kernel) (by rfl) ?_
  refine go_aload_n (show decode cX7_gatherStarts 19 = .ok (.aload_n 0, 1) by decide +kernel) (by rfl) ?_
  obtain ⟨q1, h⟩ := h
  refine go_getI (show decode cX7_gatherStarts 20 = .ok (.getfield 134, 3) by decide +kernel) fl_X7_134 (Or.inl rfl) q1 ?_
  obtain ⟨ht, hf⟩ := h
  refine go_icmpge (tgt := 93) (show decode cX7_gatherStarts 23 = .ok (.if_icmp .ge 70, 3) by decide +kernel) (by decide) (fun hc => ?_) (fun hc => ?_)
  · have h := ht hc
    refine go_iload (show decode cX7_gatherStarts 93 = .ok (.iload 4, 2) by decide +kernel) (by rfl) ?_
    exact go_iret (show decode cX7_gatherStarts 95 = .ok (.ireturn, 1) by decide +kernel) rfl h
  · have h := hf hc
    refine go_iload (show decode cX7_gatherStarts 26 = .ok (.iload 4, 2) by decide +kernel) (by rfl) ?_
    refine go_iconst (show decode cX7_gatherStarts 28 = .ok (.iconst 1, 1) by decide +kernel) (by decide) ?_
    obtain ⟨q2, h⟩ := h
    refine go_iadd (show decode cX7_gatherStarts 29 = .ok (.iadd, 1) by decide +kernel) q2 ?_
    refine go_aload_n (show decode cX7_gatherStarts 30 = .ok (.aload_n 2, 1) by decide +kernel) (by rfl) ?_
    obtain ⟨q3, h⟩ := h
    refine go_alen (show decode cX7_gatherStarts 31 = .ok (.arraylength, 1) by decide +kernel) (by omega) ?_
    obtain ⟨ht, hf⟩ := h
    refine go_icmpge (tgt := 93) (show decode cX7_gatherStarts 32 = .ok (.if_icmp .ge 61, 3) by decide +kernel) (by decide) (fun hc => ?_) (fun hc => ?_)
    · have h := ht hc
      refine go_iload (show decode cX7_gatherStarts 93 = .ok (.iload 4, 2) by decide +kernel) (by rfl) ?_
      exact go_iret (show decode cX7_gatherStarts 95 = .ok (.ireturn, 1) by decide +kernel) rfl h
    · have h := hf hc
      refine go_aload_n (show decode cX7_gatherStarts 35 = .ok (.aload_n 0, 1) by decide +kernel) (by rfl) ?_
      refine go_getR (show decode cX7_gatherStarts 36 = .ok (.getfield 117, 3) by decide +kernel) fl_X7_117 rfl q1 ?_
      refine go_iload (show decode cX7_gatherStarts 39 = .ok (.iload 5, 2) by decide +kernel) (by rfl) ?_
      obtain ⟨q4, h⟩ := h
      obtain ⟨q5, h⟩ := h
      obtain ⟨q6, h⟩ := h
      refine go_iaload (show decode cX7_gatherStarts 41 = .ok (.iaload, 1) by decide +kernel) q4 q5 q6 ?_
      refine go_iload_n (show decode cX7_gatherStarts 42 = .ok (.iload_n 3, 1) by decide +kernel) (by rfl) ?_
      obtain ⟨ht, hf⟩ := h
      refine go_icmpge (tgt := 60) (show decode cX7_gatherStarts 43 = .ok (.if_icmp .ge 17, 3) by decide +kernel) (by decide) (fun hc => ?_) (fun hc => ?_)
      · have h := ht hc
        exact R_X7_gatherStarts_60 h
      · have h := hf hc
        refine go_aload_n (show decode cX7_gatherStarts 46 = .ok (.aload_n 2, 1) by decide +kernel) (by rfl) ?_
        refine go_iload (show decode cX7_gatherStarts 47 = .ok (.iload 4, 2) by decide +kernel) (by rfl) ?_
        refine go_aload_n (show decode cX7_gatherStarts 49 = .ok (.aload_n 0, 1) by decide +kernel) (by rfl) ?_
        refine go_getR (show decode cX7_gatherStarts 50 = .ok (.getfield 117, 3) by decide +kernel) fl_X7_117 rfl q1 ?_
        refine go_iload (show decode cX7_gatherStarts 53 = .ok (.iload 5, 2) by decide +kernel) (by rfl) ?_
        refine go_iaload (show decode cX7_gatherStarts 55 = .ok (.iaload, 1) by decide +kernel) q4 q5 q6 ?_
        obtain ⟨q7, h⟩ := h
        obtain ⟨q8, h⟩ := h
        refine go_iastore (show decode cX7_gatherStarts 56 = .ok (.iastore, 1) by decide +kernel) q3 q7 q8  ?_
        obtain ⟨G9, G9e⟩ : ∃ G9 : AG, G9 = gu G a2 a4 (G (sR S a0 0) a5) := ⟨_, rfl⟩
        have h := h G9 G9e
        rw [← G9e]
        refine go_iinc (show decode cX7_gatherStarts 57 = .ok (.iinc 4 1, 3) by decide +kernel) (by rfl) q2 (by decide) ?_
        show Go d MX7_gatherStarts 60 [some (vR a0), some (vI a1), some (vR a2), some (vI a3), some (vI (a4 + 1)), some (vI a5)] [] S F G9 Q
        exact R_X7_gatherStarts_60 h
def V_X7_gatherStarts_0 (d : Nat) (S : AS) (F : AF) (G : AG) (Q : AQ) (a0 : Nat) (a1 : Int) (a2 : Nat) : Prop :=
  (sK S a0 = 1) ∧
  (r32 ((F a0 2) - a1)) ∧
  ∀ x3 : Int, x3 = (F a0 2) - a1 →
  (sK S a2 = 20) ∧
  ((0 : Int) < (sN S a2 : Int)) ∧
  ∀ G6 : AG, G6 = gu G a2 0 x3 →
  Go d MX7_gatherStarts 17 [some (vR a0), some (vI a1), some (vR a2), some (vI x3), some (vI 1), some (vI 0)] [] S F G6 Q
theorem R_X7_gatherStarts_0 {d : Nat} {S : AS} {F : AF} {G : AG} {Q : AQ} {a0 : Nat} {a1 : Int} {a2 : Nat} (h : V_X7_gatherStarts_0 d S F G Q a0 a1 a2) : Go d MX7_gatherStarts 0 [some (vR a0), some (vI a1), some (vR a2), none, none, none] [] S F G Q := by
  unfold V_X7_gatherStarts_0 at h
  refine go_aload_n (show decode cX7_gatherStarts 0 = .ok (.aload_n 0, 1) by decide +kernel) (by rfl) ?_
  obtain ⟨q1, h⟩ := h
  refine go_getI (show decode cX7_gatherStarts 1 = .ok (.getfield 91, 3) by decide +kernel) fl_X7_91 (Or.inl rfl) q1 ?_
  refine go_iload_n (show decode cX7_gatherStarts 4 = .ok (.iload_n 1, 1) by decide +kernel) (by rfl) ?_
  obtain ⟨q2, h⟩ := h
  refine go_isub (show decode cX7_gatherStarts 5 = .ok (.isub, 1) by decide +kernel) q2 ?_
  obtain ⟨x3, x3e⟩ : ∃ x3 : Int, x3 = (F a0 2) - a1 := ⟨_, rfl⟩
  have h := h x3 x3e
  rw [← x3e]
  refine go_istore_n (show decode cX7_gatherStarts 6 = .ok (.istore_n 3, 1) by decide +kernel) (by decide) ?_
  show Go d MX7_gatherStarts 7 [some (vR a0), some (vI a1), some (vR a2), some (vI x3), none, none] [] S F G Q
  refine go_aload_n (show decode cX7_gatherStarts 7 = .ok (.aload_n 2, 1) by decide +kernel) (by rfl) ?_
  refine go_iconst (show decode cX7_gatherStarts 8 = .ok (.iconst 0, 1) by decide +kernel) (by decide) ?_
  refine go_iload_n (show decode cX7_gatherStarts 9 = .ok (.iload_n 3, 1) by decide +kernel) (by rfl) ?_
  obtain ⟨q4, h⟩ := h
  obtain ⟨q5, h⟩ := h
  refine go_iastore (show decode cX7_gatherStarts 10 = .ok (.iastore, 1) by decide +kernel) q4 (by decide) q5  ?_
  obtain ⟨G6, G6e⟩ : ∃ G6 : AG, G6 = gu G a2 0 x3 := ⟨_, rfl⟩
  have h := h G6 G6e
  rw [← G6e]
  refine go_iconst (show decode cX7_gatherStarts 11 = .ok (.iconst 1, 1) by decide +kernel) (by decide) ?_
  refine go_istore (show decode cX7_gatherStarts 12 = .ok (.istore 4, 2) by decide +kernel) (by decide) ?_
  show Go d MX7_gatherStarts 14 [some (vR a0), some (vI a1), some (vR a2), some (vI x3), some (vI 1), none] [] S F G6 Q
  refine go_iconst (show decode cX7_gatherStarts 14 = .ok (.iconst 0, 1) by decide +kernel) (by decide) ?_
  refine go_istore (show decode cX7_gatherStarts 15 = .ok (.istore 5, 2) by decide +kernel) (by decide) ?_
  show Go d MX7_gatherStarts 17 [some (vR a0), some (vI a1), some (vR a2), some (vI x3), some (vI 1), some (vI 0)] [] S F G6 Q
  exact h
def V_X7_sumColumnsAbove_40 (d : Nat) (S : AS) (F : AF) (G : AG) (Q : AQ) (a0 : Nat) (a1 : Int) (a2 : Nat) (a3 : Nat) (a4 : Int) (a5 : Int) (a7 : Int) : Prop :=
  (sK S a3 = 1) ∧
  ((F a3 1 ≤ a7) →
    (r32 (a4 + 1)) ∧
    Go d MX7_sumColumnsAbove 25 [some (vR a0), some (vI a1), some (vR a2), some (vR a3), some (vI (a4 + 1)), none, none, none, none] [] S F G Q) ∧
  ((¬ F a3 1 ≤ a7) →
    (r32 (48 * a7)) ∧
    (r32 ((48 * a7) + a4)) ∧
    ∀ x5 : Int, x5 = (48 * a7) + a4 →
    (sK S a0 = 7) ∧
    (sK S (sR S a0 12) = 21) ∧
    ((0 : Int) ≤ x5) ∧
    ((x5 : Int) < (sN S (sR S a0 12) : Int)) ∧
    ∀ G10 : AG, G10 = gu G (sR S a0 12) x5 a5 →
    (1 ≤ d) ∧
    (sK S (sR S a0 0) = 2) ∧
    Ok (d - 1) MX2_unitsAt [vR (sR S a0 0), vI a1, vI x5] S F G10 (fun w12 S13 F14 G15 =>
    ∃ z17 : Int, w12 = some (vJ z17) ∧
    (sK S13 a3 = 1) ∧
    Ok (d - 1) MX1_widthOf [vR a3, vI a7] S13 F14 G15 (fun w18 S19 F20 G21 =>
    ∃ z23 : Int, w18 = some (vI z23) ∧
    (r64 (z17 * z23)) ∧
    (r64 (a5 + (z17 * z23))) ∧
    ∀ x26 : Int, x26 = a5 + (z17 * z23) →
    (r32 (a7 + 1)) ∧
    Go d MX7_sumColumnsAbove 40 [some (vR a0), some (vI a1), some (vR a2), some (vR a3), some (vI a4), some (vJ x26), none, some (vI (a7 + 1)), none] [] S19 F20 G21 Q)))
theorem R_X7_sumColumnsAbove_40 {d : Nat} {S : AS} {F : AF} {G : AG} {Q : AQ} {a0 : Nat} {a1 : Int} {a2 : Nat} {a3 : Nat} {a4 : Int} {a5 : Int} {a7 : Int} (h : V_X7_sumColumnsAbove_40 d S F G Q a0 a1 a2 a3 a4 a5 a7) : Go d MX7_sumColumnsAbove 40 [some (vR a0), some (vI a1), some (vR a2), some (vR a3), some (vI a4), some (vJ a5), none, some (vI a7), none] [] S F G Q := by
  unfold V_X7_sumColumnsAbove_40 at h
  refine go_iload (show decode cX7_sumColumnsAbove 40 = .ok (.iload 7, 2) by decide +kernel) (by rfl) ?_
  refine go_aload_n (show decode cX7_sumColumnsAbove 42 = .ok (.aload_n 3, 1) by decide +kernel) (by rfl) ?_
  obtain ⟨q1, h⟩ := h
  refine go_getI (show decode cX7_sumColumnsAbove 43 = .ok (.getfield 134, 3) by decide +kernel) fl_X7_134 (Or.inl rfl) q1 ?_
  obtain ⟨ht, hf⟩ := h
  refine go_icmpge (tgt := 97) (show decode cX7_sumColumnsAbove 46 = .ok (.if_icmp .ge 51, 3) by decide +kernel) (by decide) (fun hc => ?_) (fun hc => ?_)
  · have h := ht hc
    obtain ⟨q2, h⟩ := h
    refine go_iinc (show decode cX7_sumColumnsAbove 97 = .ok (.iinc 4 1, 3) by decide +kernel) (by rfl) q2 (by decide) ?_
    show Go d MX7_sumColumnsAbove 100 [some (vR a0), some (vI a1), some (vR a2), some (vR a3), some (vI (a4 + 1)), some (vJ a5), none, some (vI a7), none] [] S F G Q
    refine go_goto (tgt := 25) (show decode cX7_sumColumnsAbove 100 = .ok (.goto (-75), 3) by decide +kernel) (by decide) ?_
    refine go_clr 5 ?_
    refine go_clr 7 ?_
    exact h
  · have h := hf hc
    refine go_bipush (show decode cX7_sumColumnsAbove 49 = .ok (.bipush 48, 2) by decide +kernel) (by decide) ?_
    refine go_iload (show decode cX7_sumColumnsAbove 51 = .ok (.iload 7, 2) by decide +kernel) (by rfl) ?_
    obtain ⟨q3, h⟩ := h
    refine go_imul (show decode cX7_sumColumnsAbove 53 = .ok (.imul, 1) by decide +kernel) q3 ?_
    refine go_iload (show decode cX7_sumColumnsAbove 54 = .ok (.iload 4, 2) by decide +kernel) (by rfl) ?_
    obtain ⟨q4, h⟩ := h
    refine go_iadd (show decode cX7_sumColumnsAbove 56 = .ok (.iadd, 1) by decide +kernel) q4 ?_
    obtain ⟨x5, x5e⟩ : ∃ x5 : Int, x5 = (48 * a7) + a4 := ⟨_, rfl⟩
    have h := h x5 x5e
    rw [← x5e]
    refine go_istore (show decode cX7_sumColumnsAbove 57 = .ok (.istore 8, 2) by decide +kernel) (by decide) ?_
    show Go d MX7_sumColumnsAbove 59 [some (vR a0), some (vI a1), some (vR a2), some (vR a3), some (vI a4), some (vJ a5), none, some (vI a7), some (vI x5)] [] S F G Q
    refine go_aload_n (show decode cX7_sumColumnsAbove 59 = .ok (.aload_n 0, 1) by decide +kernel) (by rfl) ?_
    obtain ⟨q6, h⟩ := h
    refine go_getR (show decode cX7_sumColumnsAbove 60 = .ok (.getfield 28, 3) by decide +kernel) fl_X7_28 rfl q6 ?_
    refine go_iload (show decode cX7_sumColumnsAbove 63 = .ok (.iload 8, 2) by decide +kernel) (by rfl) ?_
    refine go_lload (show decode cX7_sumColumnsAbove 65 = .ok (.lload 5, 2) by decide +kernel) (by rfl) ?_
    obtain ⟨q7, h⟩ := h
    obtain ⟨q8, h⟩ := h
    obtain ⟨q9, h⟩ := h
    refine go_lastore (show decode cX7_sumColumnsAbove 67 = .ok (.lastore, 1) by decide +kernel) q7 q8 q9  ?_
    obtain ⟨G10, G10e⟩ : ∃ G10 : AG, G10 = gu G (sR S a0 12) x5 a5 := ⟨_, rfl⟩
    have h := h G10 G10e
    rw [← G10e]
    refine go_lload (show decode cX7_sumColumnsAbove 68 = .ok (.lload 5, 2) by decide +kernel) (by rfl) ?_
    refine go_aload_n (show decode cX7_sumColumnsAbove 70 = .ok (.aload_n 0, 1) by decide +kernel) (by rfl) ?_
    refine go_getR (show decode cX7_sumColumnsAbove 71 = .ok (.getfield 44, 3) by decide +kernel) fl_X7_44 rfl q6 ?_
    refine go_iload_n (show decode cX7_sumColumnsAbove 74 = .ok (.iload_n 1, 1) by decide +kernel) (by rfl) ?_
    refine go_iload (show decode cX7_sumColumnsAbove 75 = .ok (.iload 8, 2) by decide +kernel) (by rfl) ?_
    obtain ⟨q11, h⟩ := h
    obtain ⟨q16, h⟩ := h
    refine go_callV (d2 := d - 1) (M2 := MX2_unitsAt) (n := 2) (ci := 2) (av := [vI a1, vI x5]) (st := [vJ a5]) (show decode cX7_sumColumnsAbove 77 = .ok (.invokevirtual 84, 3) by decide +kernel) ml_X7_84 mt_X2_unitsAt min_X2_unitsAt mse_X2_unitsAt (by decide) q16 rfl (Nat.le_of_ble_eq_true rfl) (by omega) (ok_mono h (fun w12 S13 F14 G15 h => ?_))
    obtain ⟨z17, e9, h⟩ := h
    subst e9
    show Go d MX7_sumColumnsAbove 80 [some (vR a0), some (vI a1), some (vR a2), some (vR a3), some (vI a4), some (vJ a5), none, some (vI a7), some (vI x5)] [vJ z17, vJ a5] S13 F14 G15 Q
    refine go_aload_n (show decode cX7_sumColumnsAbove 80 = .ok (.aload_n 3, 1) by decide +kernel) (by rfl) ?_
    refine go_iload (show decode cX7_sumColumnsAbove 81 = .ok (.iload 7, 2) by decide +kernel) (by rfl) ?_
    obtain ⟨q22, h⟩ := h
    refine go_callV (d2 := d - 1) (M2 := MX1_widthOf) (n := 1) (ci := 1) (av := [vI a7]) (st := [vJ z17, vJ a5]) (show decode cX7_sumColumnsAbove 83 = .ok (.invokevirtual 152, 3) by decide +kernel) ml_X7_152 mt_X1_widthOf min_X1_widthOf mse_X1_widthOf (by decide) q22 rfl (Nat.le_of_ble_eq_true rfl) (by omega) (ok_mono h (fun w18 S19 F20 G21 h => ?_))
    obtain ⟨z23, e9, h⟩ := h
    subst e9
    show Go d MX7_sumColumnsAbove 86 [some (vR a0), some (vI a1), some (vR a2), some (vR a3), some (vI a4), some (vJ a5), none, some (vI a7), some (vI x5)] [vI z23, vJ z17, vJ a5] S19 F20 G21 Q
    refine go_i2l (show decode cX7_sumColumnsAbove 86 = .ok (.i2l, 1) by decide +kernel) ?_
    obtain ⟨q24, h⟩ := h
    refine go_lmul (show decode cX7_sumColumnsAbove 87 = .ok (.lmul, 1) by decide +kernel) q24 ?_
    obtain ⟨q25, h⟩ := h
    refine go_ladd (show decode cX7_sumColumnsAbove 88 = .ok (.ladd, 1) by decide +kernel) q25 ?_
    obtain ⟨x26, x26e⟩ : ∃ x26 : Int, x26 = a5 + (z17 * z23) := ⟨_, rfl⟩
    have h := h x26 x26e
    rw [← x26e]
    refine go_lstore (show decode cX7_sumColumnsAbove 89 = .ok (.lstore 5, 2) by decide +kernel) (by decide) ?_
    show Go d MX7_sumColumnsAbove 91 [some (vR a0), some (vI a1), some (vR a2), some (vR a3), some (vI a4), some (vJ x26), none, some (vI a7), some (vI x5)] [] S19 F20 G21 Q
    obtain ⟨q27, h⟩ := h
    refine go_iinc (show decode cX7_sumColumnsAbove 91 = .ok (.iinc 7 1, 3) by decide +kernel) (by rfl) q27 (by decide) ?_
    show Go d MX7_sumColumnsAbove 94 [some (vR a0), some (vI a1), some (vR a2), some (vR a3), some (vI a4), some (vJ x26), none, some (vI (a7 + 1)), some (vI x5)] [] S19 F20 G21 Q
    refine go_goto (tgt := 40) (show decode cX7_sumColumnsAbove 94 = .ok (.goto (-54), 3) by decide +kernel) (by decide) ?_
    refine go_clr 8 ?_
    exact h
def V_X7_sumColumnsAbove_25 (d : Nat) (S : AS) (F : AF) (G : AG) (Q : AQ) (a0 : Nat) (a1 : Int) (a2 : Nat) (a3 : Nat) (a4 : Int) : Prop :=
  (sK S a2 = 1) ∧
  ((F a2 1 ≤ a4) →
    Q none S F G) ∧
  ((¬ F a2 1 ≤ a4) →
    Go d MX7_sumColumnsAbove 40 [some (vR a0), some (vI a1), some (vR a2), some (vR a3), some (vI a4), some (vJ 0), none, some (vI 0), none] [] S F G Q)
theorem R_X7_sumColumnsAbove_25 {d : Nat} {S : AS} {F : AF} {G : AG} {Q : AQ} {a0 : Nat} {a1 : Int} {a2 : Nat} {a3 : Nat} {a4 : Int} (h : V_X7_sumColumnsAbove_25 d S F G Q a0 a1 a2 a3 a4) : Go d MX7_sumColumnsAbove 25 [some (vR a0), some (vI a1), some (vR a2), some (vR a3), some (vI a4), none, none, none, none] [] S F G Q := by
  unfold V_X7_sumColumnsAbove_25 at h
  refine go_iload (show decode cX7_sumColumnsAbove 25 = .ok (.iload 4, 2) by decide +kernel) (by rfl) ?_
  refine go_aload_n (show decode cX7_sumColumnsAbove 27 = .ok (.aload_n 2, 1) by decide +kernel) (by rfl) ?_
  obtain ⟨q1, h⟩ := h
  refine go_getI (show decode cX7_sumColumnsAbove 28 = .ok (.getfield 134, 3) by decide +kernel) fl_X7_134 (Or.inl rfl) q1 ?_
  obtain ⟨ht, hf⟩ := h
  refine go_icmpge (tgt := 103) (show decode cX7_sumColumnsAbove 31 = .ok (.if_icmp .ge 72, 3) by decide +kernel) (by decide) (fun hc => ?_) (fun hc => ?_)
  · have h := ht hc
    exact go_vret (show decode cX7_sumColumnsAbove 103 = .ok (.return_, 1) by decide +kernel) rfl h
  · have h := hf hc
    refine go_lconst (n := 0) (show decode cX7_sumColumnsAbove 34 = .ok (.lconst 0, 1) by decide +kernel) ?_
    show Go d MX7_sumColumnsAbove 35 [some (vR a0), some (vI a1), some (vR a2), some (vR a3), some (vI a4), none, none, none, none] [vJ 0] S F G Q
    refine go_lstore (show decode cX7_sumColumnsAbove 35 = .ok (.lstore 5, 2) by decide +kernel) (by decide) ?_
    show Go d MX7_sumColumnsAbove 37 [some (vR a0), some (vI a1), some (vR a2), some (vR a3), some (vI a4), some (vJ 0), none, none, none] [] S F G Q
    refine go_iconst (show decode cX7_sumColumnsAbove 37 = .ok (.iconst 0, 1) by decide +kernel) (by decide) ?_
    refine go_istore (show decode cX7_sumColumnsAbove 38 = .ok (.istore 7, 2) by decide +kernel) (by decide) ?_
    show Go d MX7_sumColumnsAbove 40 [some (vR a0), some (vI a1), some (vR a2), some (vR a3), some (vI a4), some (vJ 0), none, some (vI 0), none] [] S F G Q
    exact h
def V_X7_sumColumnsAbove_0 (d : Nat) (S : AS) (F : AF) (G : AG) (Q : AQ) (a0 : Nat) (a1 : Int) : Prop :=
  (sK S a0 = 7) ∧
  (sK S (sR S a0 0) = 2) ∧
  (sK S (sR S (sR S a0 0) 0) = 0) ∧
  ∀ x4 : Nat, x4 = sR S (sR S (sR S a0 0) 0) 0 →
  (sK S (sR S (sR S a0 0) 1) = 0) ∧
  ∀ x6 : Nat, x6 = sR S (sR S (sR S a0 0) 1) 0 →
  Go d MX7_sumColumnsAbove 25 [some (vR a0), some (vI a1), some (vR x4), some (vR x6), some (vI 0), none, none, none, none] [] S F G Q
theorem R_X7_sumColumnsAbove_0 {d : Nat} {S : AS} {F : AF} {G : AG} {Q : AQ} {a0 : Nat} {a1 : Int} (h : V_X7_sumColumnsAbove_0 d S F G Q a0 a1) : Go d MX7_sumColumnsAbove 0 [some (vR a0), some (vI a1), none, none, none, none, none, none, none] [] S F G Q := by
  unfold V_X7_sumColumnsAbove_0 at h
  refine go_aload_n (show decode cX7_sumColumnsAbove 0 = .ok (.aload_n 0, 1) by decide +kernel) (by rfl) ?_
  obtain ⟨q1, h⟩ := h
  refine go_getR (show decode cX7_sumColumnsAbove 1 = .ok (.getfield 44, 3) by decide +kernel) fl_X7_44 rfl q1 ?_
  obtain ⟨q2, h⟩ := h
  refine go_getR (show decode cX7_sumColumnsAbove 4 = .ok (.getfield 60, 3) by decide +kernel) fl_X7_60 rfl q2 ?_
  obtain ⟨q3, h⟩ := h
  refine go_getR (show decode cX7_sumColumnsAbove 7 = .ok (.getfield 54, 3) by decide +kernel) fl_X7_54 rfl q3 ?_
  obtain ⟨x4, x4e⟩ : ∃ x4 : Nat, x4 = sR S (sR S (sR S a0 0) 0) 0 := ⟨_, rfl⟩
  have h := h x4 x4e
  rw [← x4e]
  refine go_astore_n (show decode cX7_sumColumnsAbove 10 = .ok (.astore_n 2, 1) by decide +kernel) (by decide) ?_
  show Go d MX7_sumColumnsAbove 11 [some (vR a0), some (vI a1), some (vR x4), none, none, none, none, none, none] [] S F G Q
  refine go_aload_n (show decode cX7_sumColumnsAbove 11 = .ok (.aload_n 0, 1) by decide +kernel) (by rfl) ?_
  refine go_getR (show decode cX7_sumColumnsAbove 12 = .ok (.getfield 44, 3) by decide +kernel) fl_X7_44 rfl q1 ?_
  refine go_getR (show decode cX7_sumColumnsAbove 15 = .ok (.getfield 48, 3) by decide +kernel) fl_X7_48 rfl q2 ?_
  obtain ⟨q5, h⟩ := h
  refine go_getR (show decode cX7_sumColumnsAbove 18 = .ok (.getfield 54, 3) by decide +kernel) fl_X7_54 rfl q5 ?_
  obtain ⟨x6, x6e⟩ : ∃ x6 : Nat, x6 = sR S (sR S (sR S a0 0) 1) 0 := ⟨_, rfl⟩
  have h := h x6 x6e
  rw [← x6e]
  refine go_astore_n (show decode cX7_sumColumnsAbove 21 = .ok (.astore_n 3, 1) by decide +kernel) (by decide) ?_
  show Go d MX7_sumColumnsAbove 22 [some (vR a0), some (vI a1), some (vR x4), some (vR x6), none, none, none, none, none] [] S F G Q
  refine go_iconst (show decode cX7_sumColumnsAbove 22 = .ok (.iconst 0, 1) by decide +kernel) (by decide) ?_
  refine go_istore (show decode cX7_sumColumnsAbove 23 = .ok (.istore 4, 2) by decide +kernel) (by decide) ?_
  show Go d MX7_sumColumnsAbove 25 [some (vR a0), some (vI a1), some (vR x4), some (vR x6), some (vI 0), none, none, none, none] [] S F G Q
  exact h
def V_X7_sumColumnsBetween_72 (d : Nat) (S : AS) (F : AF) (G : AG) (Q : AQ) (a0 : Nat) (a1 : Int) (a2 : Int) (a3 : Int) (a4 : Nat) (a5 : Nat) (a6 : Int) (a7 : Int) (a8 : Int) (a10 : Int) (a12 : Int) (a14 : Int) : Prop :=
  (sK S a4 = 1) ∧
  ((F a4 1 ≤ a14) →
    Q none S F G) ∧
  ((¬ F a4 1 ≤ a14) →
    (r32 (48 * a6)) ∧
    (r32 ((48 * a6) + a14)) ∧
    ∀ x4 : Int, x4 = (48 * a6) + a14 →
    (r32 (48 * a7)) ∧
    (r32 ((48 * a7) + a14)) ∧
    ∀ x7 : Int, x7 = (48 * a7) + a14 →
    (sK S a0 = 7) ∧
    (sK S (sR S a0 12) = 21) ∧
    ((0 : Int) ≤ x7) ∧
    ((x7 : Int) < (sN S (sR S a0 12) : Int)) ∧
    (1 ≤ d) ∧
    (sK S (sR S a0 0) = 2) ∧
    Ok (d - 1) MX2_unitsAt [vR (sR S a0 0), vI a1, vI x7] S F G (fun w13 S14 F15 G16 =>
    ∃ z18 : Int, w13 = some (vJ z18) ∧
    (r64 (a10 * z18)) ∧
    (r64 ((G (sR S a0 12) x7) + (a10 * z18))) ∧
    (sK S14 a0 = 7) ∧
    (sK S14 (sR S14 a0 12) = 21) ∧
    ((0 : Int) ≤ x4) ∧
    ((x4 : Int) < (sN S14 (sR S14 a0 12) : Int)) ∧
    (r64 (((G (sR S a0 12) x7) + (a10 * z18)) - (G16 (sR S14 a0 12) x4))) ∧
    (sK S14 (sR S14 a0 0) = 2) ∧
    Ok (d - 1) MX2_unitsAt [vR (sR S14 a0 0), vI a1, vI x4] S14 F15 G16 (fun w26 S27 F28 G29 =>
    ∃ z31 : Int, w26 = some (vJ z31) ∧
    (r64 (a8 * z31)) ∧
    (r64 ((((G (sR S a0 12) x7) + (a10 * z18)) - (G16 (sR S14 a0 12) x4)) - (a8 * z31))) ∧
    (sK S27 (sR S a0 13) = 21) ∧
    ((0 : Int) ≤ a14) ∧
    ((a14 : Int) < (sN S27 (sR S a0 13) : Int)) ∧
    ∀ G37 : AG, G37 = gu G29 (sR S a0 13) a14 ((((G (sR S a0 12) x7) + (a10 * z18)) - (G16 (sR S14 a0 12) x4)) - (a8 * z31)) →
    (sK S27 a0 = 7) ∧
    (sK S27 (sR S27 a0 14) = 21) ∧
    ((a14 : Int) < (sN S27 (sR S27 a0 14) : Int)) ∧
    ∀ G41 : AG, G41 = gu G37 (sR S27 a0 14) a14 a12 →
    (sK S27 (sR S27 a0 13) = 21) ∧
    ((a14 : Int) < (sN S27 (sR S27 a0 13) : Int)) ∧
    (sK S27 a4 = 1) ∧
    Ok (d - 1) MX1_widthOf [vR a4, vI a14] S27 F28 G41 (fun w44 S45 F46 G47 =>
    ∃ z49 : Int, w44 = some (vI z49) ∧
    (r64 ((G41 (sR S27 a0 13) a14) * z49)) ∧
    (r64 (a12 + ((G41 (sR S27 a0 13) a14) * z49))) ∧
    ∀ x52 : Int, x52 = a12 + ((G41 (sR S27 a0 13) a14) * z49) →
    (r32 (a14 + 1)) ∧
    Go d MX7_sumColumnsBetween 72 [some (vR a0), some (vI a1), some (vI a2), some (vI a3), some (vR a4), some (vR a5), some (vI a6), some (vI a7), some (vJ a8), none, some (vJ a10), none, some (vJ x52), none, some (vI (a14 + 1)), none, none] [] S45 F46 G47 Q))))
theorem R_X7_sumColumnsBetween_72 {d : Nat} {S : AS} {F : AF} {G : AG} {Q : AQ} {a0 : Nat} {a1 : Int} {a2 : Int} {a3 : Int} {a4 : Nat} {a5 : Nat} {a6 : Int} {a7 : Int} {a8 : Int} {a10 : Int} {a12 : Int} {a14 : Int} (h : V_X7_sumColumnsBetween_72 d S F G Q a0 a1 a2 a3 a4 a5 a6 a7 a8 a10 a12 a14) : Go d MX7_sumColumnsBetween 72 [some (vR a0), some (vI a1), some (vI a2), some (vI a3), some (vR a4), some (vR a5), some (vI a6), some (vI a7), some (vJ a8), none, some (vJ a10), none, some (vJ a12), none, some (vI a14), none, none] [] S F G Q := by
  unfold V_X7_sumColumnsBetween_72 at h
  refine go_iload (show decode cX7_sumColumnsBetween 72 = .ok (.iload 14, 2) by decide +kernel) (by rfl) ?_
  refine go_aload (show decode cX7_sumColumnsBetween 74 = .ok (.aload 4, 2) by decide +kernel) (by rfl) ?_
  obtain ⟨q1, h⟩ := h
  refine go_getI (show decode cX7_sumColumnsBetween 76 = .ok (.getfield 134, 3) by decide +kernel) fl_X7_134 (Or.inl rfl) q1 ?_
  obtain ⟨ht, hf⟩ := h
  refine go_icmpge (tgt := 188) (show decode cX7_sumColumnsBetween 79 = .ok (.if_icmp .ge 109, 3) by decide +kernel) (by decide) (fun hc => ?_) (fun hc => ?_)
  · have h := ht hc
    exact go_vret (show decode cX7_sumColumnsBetween 188 = .ok (.return_, 1) by decide +kernel) rfl h
  · have h := hf hc
    refine go_bipush (show decode cX7_sumColumnsBetween 82 = .ok (.bipush 48, 2) by decide +kernel) (by decide) ?_
    refine go_iload (show decode cX7_sumColumnsBetween 84 = .ok (.iload 6, 2) by decide +kernel) (by rfl) ?_
    obtain ⟨q2, h⟩ := h
    refine go_imul (show decode cX7_sumColumnsBetween 86 = .ok (.imul, 1) by decide +kernel) q2 ?_
    refine go_iload (show decode cX7_sumColumnsBetween 87 = .ok (.iload 14, 2) by decide +kernel) (by rfl) ?_
    obtain ⟨q3, h⟩ := h
    refine go_iadd (show decode cX7_sumColumnsBetween 89 = .ok (.iadd, 1) by decide +kernel) q3 ?_
    obtain ⟨x4, x4e⟩ : ∃ x4 : Int, x4 = (48 * a6) + a14 := ⟨_, rfl⟩
    have h := h x4 x4e
    rw [← x4e]
    refine go_istore (show decode cX7_sumColumnsBetween 90 = .ok (.istore 15, 2) by decide +kernel) (by decide) ?_
    show Go d MX7_sumColumnsBetween 92 [some (vR a0), some (vI a1), some (vI a2), some (vI a3), some (vR a4), some (vR a5), some (vI a6), some (vI a7), some (vJ a8), none, some (vJ a10), none, some (vJ a12), none, some (vI a14), some (vI x4), none] [] S F G Q
    refine go_bipush (show decode cX7_sumColumnsBetween 92 = .ok (.bipush 48, 2) by decide +kernel) (by decide) ?_
    refine go_iload (show decode cX7_sumColumnsBetween 94 = .ok (.iload 7, 2) by decide +kernel) (by rfl) ?_
    obtain ⟨q5, h⟩ := h
    refine go_imul (show decode cX7_sumColumnsBetween 96 = .ok (.imul, 1) by decide +kernel) q5 ?_
    refine go_iload (show decode cX7_sumColumnsBetween 97 = .ok (.iload 14, 2) by decide +kernel) (by rfl) ?_
    obtain ⟨q6, h⟩ := h
    refine go_iadd (show decode cX7_sumColumnsBetween 99 = .ok (.iadd, 1) by decide +kernel) q6 ?_
    obtain ⟨x7, x7e⟩ : ∃ x7 : Int, x7 = (48 * a7) + a14 := ⟨_, rfl⟩
    have h := h x7 x7e
    rw [← x7e]
    refine go_istore (show decode cX7_sumColumnsBetween 100 = .ok (.istore 16, 2) by decide +kernel) (by decide) ?_
    show Go d MX7_sumColumnsBetween 102 [some (vR a0), some (vI a1), some (vI a2), some (vI a3), some (vR a4), some (vR a5), some (vI a6), some (vI a7), some (vJ a8), none, some (vJ a10), none, some (vJ a12), none, some (vI a14), some (vI x4), some (vI x7)] [] S F G Q
    refine go_aload_n (show decode cX7_sumColumnsBetween 102 = .ok (.aload_n 0, 1) by decide +kernel) (by rfl) ?_
    obtain ⟨q8, h⟩ := h
    refine go_getR (show decode cX7_sumColumnsBetween 103 = .ok (.getfield 32, 3) by decide +kernel) fl_X7_32 rfl q8 ?_
    refine go_iload (show decode cX7_sumColumnsBetween 106 = .ok (.iload 14, 2) by decide +kernel) (by rfl) ?_
    refine go_aload_n (show decode cX7_sumColumnsBetween 108 = .ok (.aload_n 0, 1) by decide +kernel) (by rfl) ?_
    refine go_getR (show decode cX7_sumColumnsBetween 109 = .ok (.getfield 28, 3) by decide +kernel) fl_X7_28 rfl q8 ?_
    refine go_iload (show decode cX7_sumColumnsBetween 112 = .ok (.iload 16, 2) by decide +kernel) (by rfl) ?_
    obtain ⟨q9, h⟩ := h
    obtain ⟨q10, h⟩ := h
    obtain ⟨q11, h⟩ := h
    refine go_laload (show decode cX7_sumColumnsBetween 114 = .ok (.laload, 1) by decide +kernel) q9 q10 q11 ?_
    refine go_lload (show decode cX7_sumColumnsBetween 115 = .ok (.lload 10, 2) by decide +kernel) (by rfl) ?_
    refine go_aload_n (show decode cX7_sumColumnsBetween 117 = .ok (.aload_n 0, 1) by decide +kernel) (by rfl) ?_
    refine go_getR (show decode cX7_sumColumnsBetween 118 = .ok (.getfield 44, 3) by decide +kernel) fl_X7_44 rfl q8 ?_
    refine go_iload_n (show decode cX7_sumColumnsBetween 121 = .ok (.iload_n 1, 1) by decide +kernel) (by rfl) ?_
    refine go_iload (show decode cX7_sumColumnsBetween 122 = .ok (.iload 16, 2) by decide +kernel) (by rfl) ?_
    obtain ⟨q12, h⟩ := h
    obtain ⟨q17, h⟩ := h
    refine go_callV (d2 := d - 1) (M2 := MX2_unitsAt) (n := 2) (ci := 2) (av := [vI a1, vI x7]) (st := [vJ a10, vJ (G (sR S a0 12) x7), vI a14, vR (sR S a0 13)]) (show decode cX7_sumColumnsBetween 124 = .ok (.invokevirtual 84, 3) by decide +kernel) ml_X7_84 mt_X2_unitsAt min_X2_unitsAt mse_X2_unitsAt (by decide) q17 rfl (Nat.le_of_ble_eq_true rfl) (by omega) (ok_mono h (fun w13 S14 F15 G16 h => ?_))
    obtain ⟨z18, e9, h⟩ := h
    subst e9
    show Go d MX7_sumColumnsBetween 127 [some (vR a0), some (vI a1), some (vI a2), some (vI a3), some (vR a4), some (vR a5), some (vI a6), some (vI a7), some (vJ a8), none, some (vJ a10), none, some (vJ a12), none, some (vI a14), some (vI x4), some (vI x7)] [vJ z18, vJ a10, vJ (G (sR S a0 12) x7), vI a14, vR (sR S a0 13)] S14 F15 G16 Q
    obtain ⟨q19, h⟩ := h
    refine go_lmul (show decode cX7_sumColumnsBetween 127 = .ok (.lmul, 1) by decide +kernel) q19 ?_
    obtain ⟨q20, h⟩ := h
    refine go_ladd (show decode cX7_sumColumnsBetween 128 = .ok (.ladd, 1) by decide +kernel) q20 ?_
    refine go_aload_n (show decode cX7_sumColumnsBetween 129 = .ok (.aload_n 0, 1) by decide +kernel) (by rfl) ?_
    obtain ⟨q21, h⟩ := h
    refine go_getR (show decode cX7_sumColumnsBetween 130 = .ok (.getfield 28, 3) by decide +kernel) fl_X7_28 rfl q21 ?_
    refine go_iload (show decode cX7_sumColumnsBetween 133 = .ok (.iload 15, 2) by decide +kernel) (by rfl) ?_
    obtain ⟨q22, h⟩ := h
    obtain ⟨q23, h⟩ := h
    obtain ⟨q24, h⟩ := h
    refine go_laload (show decode cX7_sumColumnsBetween 135 = .ok (.laload, 1) by decide +kernel) q22 q23 q24 ?_
    obtain ⟨q25, h⟩ := h
    refine go_lsub (show decode cX7_sumColumnsBetween 136 = .ok (.lsub, 1) by decide +kernel) q25 ?_
    refine go_lload (show decode cX7_sumColumnsBetween 137 = .ok (.lload 8, 2) by decide +kernel) (by rfl) ?_
    refine go_aload_n (show decode cX7_sumColumnsBetween 139 = .ok (.aload_n 0, 1) by decide +kernel) (by rfl) ?_
    refine go_getR (show decode cX7_sumColumnsBetween 140 = .ok (.getfield 44, 3) by decide +kernel) fl_X7_44 rfl q21 ?_
    refine go_iload_n (show decode cX7_sumColumnsBetween 143 = .ok (.iload_n 1, 1) by decide +kernel) (by rfl) ?_
    refine go_iload (show decode cX7_sumColumnsBetween 144 = .ok (.iload 15, 2) by decide +kernel) (by rfl) ?_
    obtain ⟨q30, h⟩ := h
    refine go_callV (d2 := d - 1) (M2 := MX2_unitsAt) (n := 2) (ci := 2) (av := [vI a1, vI x4]) (st := [vJ a8, vJ (((G (sR S a0 12) x7) + (a10 * z18)) - (G16 (sR S14 a0 12) x4)), vI a14, vR (sR S a0 13)]) (show decode cX7_sumColumnsBetween 146 = .ok (.invokevirtual 84, 3) by decide +kernel) ml_X7_84 mt_X2_unitsAt min_X2_unitsAt mse_X2_unitsAt (by decide) q30 rfl (Nat.le_of_ble_eq_true rfl) (by omega) (ok_mono h (fun w26 S27 F28 G29 h => ?_))
    obtain ⟨z31, e9, h⟩ := h
    subst e9
    show Go d MX7_sumColumnsBetween 149 [some (vR a0), some (vI a1), some (vI a2), some (vI a3), some (vR a4), some (vR a5), some (vI a6), some (vI a7), some (vJ a8), none, some (vJ a10), none, some (vJ a12), none, some (vI a14), some (vI x4), some (vI x7)] [vJ z31, vJ a8, vJ (((G (sR S a0 12) x7) + (a10 * z18)) - (G16 (sR S14 a0 12) x4)), vI a14, vR (sR S a0 13)] S27 F28 G29 Q
    obtain ⟨q32, h⟩ := h
    refine go_lmul (show decode cX7_sumColumnsBetween 149 = .ok (.lmul, 1) by decide +kernel) q32 ?_
    obtain ⟨q33, h⟩ := h
    refine go_lsub (show decode cX7_sumColumnsBetween 150 = .ok (.lsub, 1) by decide +kernel) q33 ?_
    obtain ⟨q34, h⟩ := h
    obtain ⟨q35, h⟩ := h
    obtain ⟨q36, h⟩ := h
    refine go_lastore (show decode cX7_sumColumnsBetween 151 = .ok (.lastore, 1) by decide +kernel) q34 q35 q36  ?_
    obtain ⟨G37, G37e⟩ : ∃ G37 : AG, G37 = gu G29 (sR S a0 13) a14 ((((G (sR S a0 12) x7) + (a10 * z18)) - (G16 (sR S14 a0 12) x4)) - (a8 * z31)) := ⟨_, rfl⟩
    have h := h G37 G37e
    rw [← G37e]
    refine go_aload_n (show decode cX7_sumColumnsBetween 152 = .ok (.aload_n 0, 1) by decide +kernel) (by rfl) ?_
    obtain ⟨q38, h⟩ := h
    refine go_getR (show decode cX7_sumColumnsBetween 153 = .ok (.getfield 35, 3) by decide +kernel) fl_X7_35 rfl q38 ?_
    refine go_iload (show decode cX7_sumColumnsBetween 156 = .ok (.iload 14, 2) by decide +kernel) (by rfl) ?_
    refine go_lload (show decode cX7_sumColumnsBetween 158 = .ok (.lload 12, 2) by decide +kernel) (by rfl) ?_
    obtain ⟨q39, h⟩ := h
    obtain ⟨q40, h⟩ := h
    refine go_lastore (show decode cX7_sumColumnsBetween 160 = .ok (.lastore, 1) by decide +kernel) q39 q35 q40  ?_
    obtain ⟨G41, G41e⟩ : ∃ G41 : AG, G41 = gu G37 (sR S27 a0 14) a14 a12 := ⟨_, rfl⟩
    have h := h G41 G41e
    rw [← G41e]
    refine go_lload (show decode cX7_sumColumnsBetween 161 = .ok (.lload 12, 2) by decide +kernel) (by rfl) ?_
    refine go_aload_n (show decode cX7_sumColumnsBetween 163 = .ok (.aload_n 0, 1) by decide +kernel) (by rfl) ?_
    refine go_getR (show decode cX7_sumColumnsBetween 164 = .ok (.getfield 32, 3) by decide +kernel) fl_X7_32 rfl q38 ?_
    refine go_iload (show decode cX7_sumColumnsBetween 167 = .ok (.iload 14, 2) by decide +kernel) (by rfl) ?_
    obtain ⟨q42, h⟩ := h
    obtain ⟨q43, h⟩ := h
    refine go_laload (show decode cX7_sumColumnsBetween 169 = .ok (.laload, 1) by decide +kernel) q42 q35 q43 ?_
    refine go_aload (show decode cX7_sumColumnsBetween 170 = .ok (.aload 4, 2) by decide +kernel) (by rfl) ?_
    refine go_iload (show decode cX7_sumColumnsBetween 172 = .ok (.iload 14, 2) by decide +kernel) (by rfl) ?_
    obtain ⟨q48, h⟩ := h
    refine go_callV (d2 := d - 1) (M2 := MX1_widthOf) (n := 1) (ci := 1) (av := [vI a14]) (st := [vJ (G41 (sR S27 a0 13) a14), vJ a12]) (show decode cX7_sumColumnsBetween 174 = .ok (.invokevirtual 152, 3) by decide +kernel) ml_X7_152 mt_X1_widthOf min_X1_widthOf mse_X1_widthOf (by decide) q48 rfl (Nat.le_of_ble_eq_true rfl) (by omega) (ok_mono h (fun w44 S45 F46 G47 h => ?_))
    obtain ⟨z49, e9, h⟩ := h
    subst e9
    show Go d MX7_sumColumnsBetween 177 [some (vR a0), some (vI a1), some (vI a2), some (vI a3), some (vR a4), some (vR a5), some (vI a6), some (vI a7), some (vJ a8), none, some (vJ a10), none, some (vJ a12), none, some (vI a14), some (vI x4), some (vI x7)] [vI z49, vJ (G41 (sR S27 a0 13) a14), vJ a12] S45 F46 G47 Q
    refine go_i2l (show decode cX7_sumColumnsBetween 177 = .ok (.i2l, 1) by decide +kernel) ?_
    obtain ⟨q50, h⟩ := h
    refine go_lmul (show decode cX7_sumColumnsBetween 178 = .ok (.lmul, 1) by decide +kernel) q50 ?_
    obtain ⟨q51, h⟩ := h
    refine go_ladd (show decode cX7_sumColumnsBetween 179 = .ok (.ladd, 1) by decide +kernel) q51 ?_
    obtain ⟨x52, x52e⟩ : ∃ x52 : Int, x52 = a12 + ((G41 (sR S27 a0 13) a14) * z49) := ⟨_, rfl⟩
    have h := h x52 x52e
    rw [← x52e]
    refine go_lstore (show decode cX7_sumColumnsBetween 180 = .ok (.lstore 12, 2) by decide +kernel) (by decide) ?_
    show Go d MX7_sumColumnsBetween 182 [some (vR a0), some (vI a1), some (vI a2), some (vI a3), some (vR a4), some (vR a5), some (vI a6), some (vI a7), some (vJ a8), none, some (vJ a10), none, some (vJ x52), none, some (vI a14), some (vI x4), some (vI x7)] [] S45 F46 G47 Q
    obtain ⟨q53, h⟩ := h
    refine go_iinc (show decode cX7_sumColumnsBetween 182 = .ok (.iinc 14 1, 3) by decide +kernel) (by rfl) q53 (by decide) ?_
    show Go d MX7_sumColumnsBetween 185 [some (vR a0), some (vI a1), some (vI a2), some (vI a3), some (vR a4), some (vR a5), some (vI a6), some (vI a7), some (vJ a8), none, some (vJ a10), none, some (vJ x52), none, some (vI (a14 + 1)), some (vI x4), some (vI x7)] [] S45 F46 G47 Q
    refine go_goto (tgt := 72) (show decode cX7_sumColumnsBetween 185 = .ok (.goto (-113), 3) by decide +kernel) (by decide) ?_
    refine go_clr 15 ?_
    refine go_clr 16 ?_
    exact h
def V_X7_sumColumnsBetween_0 (d : Nat) (S : AS) (F : AF) (G : AG) (Q : AQ) (a0 : Nat) (a1 : Int) (a2 : Int) (a3 : Int) : Prop :=
  (sK S a0 = 7) ∧
  (sK S (sR S a0 0) = 2) ∧
  (sK S (sR S (sR S a0 0) 0) = 0) ∧
  ∀ x4 : Nat, x4 = sR S (sR S (sR S a0 0) 0) 0 →
  (sK S (sR S (sR S a0 0) 1) = 0) ∧
  ∀ x6 : Nat, x6 = sR S (sR S (sR S a0 0) 1) 0 →
  (1 ≤ d) ∧
  (sK S x6 = 1) ∧
  Ok (d - 1) MX1_bandOf [vR x6, vI a2] S F G (fun w8 S9 F10 G11 =>
  ∃ z13 : Int, w8 = some (vI z13) ∧
  (sK S9 x6 = 1) ∧
  Ok (d - 1) MX1_bandOf [vR x6, vI a3] S9 F10 G11 (fun w14 S15 F16 G17 =>
  ∃ z19 : Int, w14 = some (vI z19) ∧
  (sK S15 x6 = 1) ∧
  (sK S15 (sR S15 x6 0) = 20) ∧
  ((0 : Int) ≤ z13) ∧
  ((z13 : Int) < (sN S15 (sR S15 x6 0) : Int)) ∧
  (r32 (a2 - (G17 (sR S15 x6 0) z13))) ∧
  ∀ x25 : Int, x25 = a2 - (G17 (sR S15 x6 0) z13) →
  ((0 : Int) ≤ z19) ∧
  ((z19 : Int) < (sN S15 (sR S15 x6 0) : Int)) ∧
  (r32 (a3 - (G17 (sR S15 x6 0) z19))) ∧
  ∀ x29 : Int, x29 = a3 - (G17 (sR S15 x6 0) z19) →
  Go d MX7_sumColumnsBetween 72 [some (vR a0), some (vI a1), some (vI a2), some (vI a3), some (vR x4), some (vR x6), some (vI z13), some (vI z19), some (vJ x25), none, some (vJ x29), none, some (vJ 0), none, some (vI 0), none, none] [] S15 F16 G17 Q))
theorem R_X7_sumColumnsBetween_0 {d : Nat} {S : AS} {F : AF} {G : AG} {Q : AQ} {a0 : Nat} {a1 : Int} {a2 : Int} {a3 : Int} (h : V_X7_sumColumnsBetween_0 d S F G Q a0 a1 a2 a3) : Go d MX7_sumColumnsBetween 0 [some (vR a0), some (vI a1), some (vI a2), some (vI a3), none, none, none, none, none, none, none, none, none, none, none, none, none] [] S F G Q := by
  unfold V_X7_sumColumnsBetween_0 at h
  refine go_aload_n (show decode cX7_sumColumnsBetween 0 = .ok (.aload_n 0, 1) by decide +kernel) (by rfl) ?_
  obtain ⟨q1, h⟩ := h
  refine go_getR (show decode cX7_sumColumnsBetween 1 = .ok (.getfield 44, 3) by decide +kernel) fl_X7_44 rfl q1 ?_
  obtain ⟨q2, h⟩ := h
  refine go_getR (show decode cX7_sumColumnsBetween 4 = .ok (.getfield 60, 3) by decide +kernel) fl_X7_60 rfl q2 ?_
  obtain ⟨q3, h⟩ := h
  refine go_getR (show decode cX7_sumColumnsBetween 7 = .ok (.getfield 54, 3) by decide +kernel) fl_X7_54 rfl q3 ?_
  obtain ⟨x4, x4e⟩ : ∃ x4 : Nat, x4 = sR S (sR S (sR S a0 0) 0) 0 := ⟨_, rfl⟩
  have h := h x4 x4e
  rw [← x4e]
  refine go_astore (show decode cX7_sumColumnsBetween 10 = .ok (.astore 4, 2) by decide +kernel) (by decide) ?_
  show Go d MX7_sumColumnsBetween 12 [some (vR a0), some (vI a1), some (vI a2), some (vI a3), some (vR x4), none, none, none, none, none, none, none, none, none, none, none, none] [] S F G Q
  refine go_aload_n (show decode cX7_sumColumnsBetween 12 = .ok (.aload_n 0, 1) by decide +kernel) (by rfl) ?_
  refine go_getR (show decode cX7_sumColumnsBetween 13 = .ok (.getfield 44, 3) by decide +kernel) fl_X7_44 rfl q1 ?_
  refine go_getR (show decode cX7_sumColumnsBetween 16 = .ok (.getfield 48, 3) by decide +kernel) fl_X7_48 rfl q2 ?_
  obtain ⟨q5, h⟩ := h
  refine go_getR (show decode cX7_sumColumnsBetween 19 = .ok (.getfield 54, 3) by decide +kernel) fl_X7_54 rfl q5 ?_
  obtain ⟨x6, x6e⟩ : ∃ x6 : Nat, x6 = sR S (sR S (sR S a0 0) 1) 0 := ⟨_, rfl⟩
  have h := h x6 x6e
  rw [← x6e]
  refine go_astore (show decode cX7_sumColumnsBetween 22 = .ok (.astore 5, 2) by decide +kernel) (by decide) ?_
  show Go d MX7_sumColumnsBetween 24 [some (vR a0), some (vI a1), some (vI a2), some (vI a3), some (vR x4), some (vR x6), none, none, none, none, none, none, none, none, none, none, none] [] S F G Q
  refine go_aload (show decode cX7_sumColumnsBetween 24 = .ok (.aload 5, 2) by decide +kernel) (by rfl) ?_
  refine go_iload_n (show decode cX7_sumColumnsBetween 26 = .ok (.iload_n 2, 1) by decide +kernel) (by rfl) ?_
  obtain ⟨q7, h⟩ := h
  obtain ⟨q12, h⟩ := h
  refine go_callV (d2 := d - 1) (M2 := MX1_bandOf) (n := 1) (ci := 1) (av := [vI a2]) (st := []) (show decode cX7_sumColumnsBetween 27 = .ok (.invokevirtual 74, 3) by decide +kernel) ml_X7_74 mt_X1_bandOf min_X1_bandOf mse_X1_bandOf (by decide) q12 rfl (Nat.le_of_ble_eq_true rfl) (by omega) (ok_mono h (fun w8 S9 F10 G11 h => ?_))
  obtain ⟨z13, e9, h⟩ := h
  subst e9
  show Go d MX7_sumColumnsBetween 30 [some (vR a0), some (vI a1), some (vI a2), some (vI a3), some (vR x4), some (vR x6), none, none, none, none, none, none, none, none, none, none, none] [vI z13] S9 F10 G11 Q
  refine go_istore (show decode cX7_sumColumnsBetween 30 = .ok (.istore 6, 2) by decide +kernel) (by decide) ?_
  show Go d MX7_sumColumnsBetween 32 [some (vR a0), some (vI a1), some (vI a2), some (vI a3), some (vR x4), some (vR x6), some (vI z13), none, none, none, none, none, none, none, none, none, none] [] S9 F10 G11 Q
  refine go_aload (show decode cX7_sumColumnsBetween 32 = .ok (.aload 5, 2) by decide +kernel) (by rfl) ?_
  refine go_iload_n (show decode cX7_sumColumnsBetween 34 = .ok (.iload_n 3, 1) by decide +kernel) (by rfl) ?_
  obtain ⟨q18, h⟩ := h
  refine go_callV (d2 := d - 1) (M2 := MX1_bandOf) (n := 1) (ci := 1) (av := [vI a3]) (st := []) (show decode cX7_sumColumnsBetween 35 = .ok (.invokevirtual 74, 3) by decide +kernel) ml_X7_74 mt_X1_bandOf min_X1_bandOf mse_X1_bandOf (by decide) q18 rfl (Nat.le_of_ble_eq_true rfl) (by omega) (ok_mono h (fun w14 S15 F16 G17 h => ?_))
  obtain ⟨z19, e9, h⟩ := h
  subst e9
  show Go d MX7_sumColumnsBetween 38 [some (vR a0), some (vI a1), some (vI a2), some (vI a3), some (vR x4), some (vR x6), some (vI z13), none, none, none, none, none, none, none, none, none, none] [vI z19] S15 F16 G17 Q
  refine go_istore (show decode cX7_sumColumnsBetween 38 = .ok (.istore 7, 2) by decide +kernel) (by decide) ?_
  show Go d MX7_sumColumnsBetween 40 [some (vR a0), some (vI a1), some (vI a2), some (vI a3), some (vR x4), some (vR x6), some (vI z13), some (vI z19), none, none, none, none, none, none, none, none, none] [] S15 F16 G17 Q
  refine go_iload_n (show decode cX7_sumColumnsBetween 40 = .ok (.iload_n 2, 1) by decide +kernel) (by rfl) ?_
  refine go_aload (show decode cX7_sumColumnsBetween 41 = .ok (.aload 5, 2) by decide +kernel) (by rfl) ?_
  obtain ⟨q20, h⟩ := h
  refine go_getR (show decode cX7_sumColumnsBetween 43 = .ok (.getfield 117, 3) by decide +kernel) fl_X7_117 rfl q20 ?_
  refine go_iload (show decode cX7_sumColumnsBetween 46 = .ok (.iload 6, 2) by decide +kernel) (by rfl) ?_
  obtain ⟨q21, h⟩ := h
  obtain ⟨q22, h⟩ := h
  obtain ⟨q23, h⟩ := h
  refine go_iaload (show decode cX7_sumColumnsBetween 48 = .ok (.iaload, 1) by decide +kernel) q21 q22 q23 ?_
  obtain ⟨q24, h⟩ := h
  refine go_isub (show decode cX7_sumColumnsBetween 49 = .ok (.isub, 1) by decide +kernel) q24 ?_
  refine go_i2l (show decode cX7_sumColumnsBetween 50 = .ok (.i2l, 1) by decide +kernel) ?_
  obtain ⟨x25, x25e⟩ : ∃ x25 : Int, x25 = a2 - (G17 (sR S15 x6 0) z13) := ⟨_, rfl⟩
  have h := h x25 x25e
  rw [← x25e]
  refine go_lstore (show decode cX7_sumColumnsBetween 51 = .ok (.lstore 8, 2) by decide +kernel) (by decide) ?_
  show Go d MX7_sumColumnsBetween 53 [some (vR a0), some (vI a1), some (vI a2), some (vI a3), some (vR x4), some (vR x6), some (vI z13), some (vI z19), some (vJ x25), none, none, none, none, none, none, none, none] [] S15 F16 G17 Q
  refine go_iload_n (show decode cX7_sumColumnsBetween 53 = .ok (.iload_n 3, 1) by decide +kernel) (by rfl) ?_
  refine go_aload (show decode cX7_sumColumnsBetween 54 = .ok (.aload 5, 2) by decide +kernel) (by rfl) ?_
  refine go_getR (show decode cX7_sumColumnsBetween 56 = .ok (.getfield 117, 3) by decide +kernel) fl_X7_117 rfl q20 ?_
  refine go_iload (show decode cX7_sumColumnsBetween 59 = .ok (.iload 7, 2) by decide +kernel) (by rfl) ?_
  obtain ⟨q26, h⟩ := h
  obtain ⟨q27, h⟩ := h
  refine go_iaload (show decode cX7_sumColumnsBetween 61 = .ok (.iaload, 1) by decide +kernel) q21 q26 q27 ?_
  obtain ⟨q28, h⟩ := h
  refine go_isub (show decode cX7_sumColumnsBetween 62 = .ok (.isub, 1) by decide +kernel) q28 ?_
  refine go_i2l (show decode cX7_sumColumnsBetween 63 = .ok (.i2l, 1) by decide +kernel) ?_
  obtain ⟨x29, x29e⟩ : ∃ x29 : Int, x29 = a3 - (G17 (sR S15 x6 0) z19) := ⟨_, rfl⟩
  have h := h x29 x29e
  rw [← x29e]
  refine go_lstore (show decode cX7_sumColumnsBetween 64 = .ok (.lstore 10, 2) by decide +kernel) (by decide) ?_
  show Go d MX7_sumColumnsBetween 66 [some (vR a0), some (vI a1), some (vI a2), some (vI a3), some (vR x4), some (vR x6), some (vI z13), some (vI z19), some (vJ x25), none, some (vJ x29), none, none, none, none, none, none] [] S15 F16 G17 Q
  refine go_lconst (n := 0) (show decode cX7_sumColumnsBetween 66 = .ok (.lconst 0, 1) by decide +kernel) ?_
  show Go d MX7_sumColumnsBetween 67 [some (vR a0), some (vI a1), some (vI a2), some (vI a3), some (vR x4), some (vR x6), some (vI z13), some (vI z19), some (vJ x25), none, some (vJ x29), none, none, none, none, none, none] [vJ 0] S15 F16 G17 Q
  refine go_lstore (show decode cX7_sumColumnsBetween 67 = .ok (.lstore 12, 2) by decide +kernel) (by decide) ?_
  show Go d MX7_sumColumnsBetween 69 [some (vR a0), some (vI a1), some (vI a2), some (vI a3), some (vR x4), some (vR x6), some (vI z13), some (vI z19), some (vJ x25), none, some (vJ x29), none, some (vJ 0), none, none, none, none] [] S15 F16 G17 Q
  refine go_iconst (show decode cX7_sumColumnsBetween 69 = .ok (.iconst 0, 1) by decide +kernel) (by decide) ?_
  refine go_istore (show decode cX7_sumColumnsBetween 70 = .ok (.istore 14, 2) by decide +kernel) (by decide) ?_
  show Go d MX7_sumColumnsBetween 72 [some (vR a0), some (vI a1), some (vI a2), some (vI a3), some (vR x4), some (vR x6), some (vI z13), some (vI z19), some (vJ x25), none, some (vJ x29), none, some (vJ 0), none, some (vI 0), none, none] [] S15 F16 G17 Q
  exact h
def V_X7_unitsAhead_0 (d : Nat) (S : AS) (F : AF) (G : AG) (Q : AQ) (a0 : Nat) (a1 : Int) : Prop :=
  (sK S a0 = 7) ∧
  (sK S (sR S a0 0) = 2) ∧
  (sK S (sR S (sR S a0 0) 0) = 0) ∧
  (1 ≤ d) ∧
  (sK S (sR S (sR S (sR S a0 0) 0) 0) = 1) ∧
  Ok (d - 1) MX1_bandOf [vR (sR S (sR S (sR S a0 0) 0) 0), vI a1] S F G (fun w5 S6 F7 G8 =>
  ∃ z10 : Int, w5 = some (vI z10) ∧
  (sK S6 a0 = 7) ∧
  (sK S6 (sR S6 a0 14) = 21) ∧
  ((0 : Int) ≤ z10) ∧
  ((z10 : Int) < (sN S6 (sR S6 a0 14) : Int)) ∧
  (sK S6 (sR S6 a0 13) = 21) ∧
  ((z10 : Int) < (sN S6 (sR S6 a0 13) : Int)) ∧
  (sK S6 (sR S6 a0 0) = 2) ∧
  (sK S6 (sR S6 (sR S6 a0 0) 0) = 0) ∧
  (sK S6 (sR S6 (sR S6 (sR S6 a0 0) 0) 0) = 1) ∧
  (sK S6 (sR S6 (sR S6 (sR S6 (sR S6 a0 0) 0) 0) 0) = 20) ∧
  ((z10 : Int) < (sN S6 (sR S6 (sR S6 (sR S6 (sR S6 a0 0) 0) 0) 0) : Int)) ∧
  (r32 (a1 - (G8 (sR S6 (sR S6 (sR S6 (sR S6 a0 0) 0) 0) 0) z10))) ∧
  (r64 ((G8 (sR S6 a0 13) z10) * (a1 - (G8 (sR S6 (sR S6 (sR S6 (sR S6 a0 0) 0) 0) 0) z10)))) ∧
  (r64 ((G8 (sR S6 a0 14) z10) + ((G8 (sR S6 a0 13) z10) * (a1 - (G8 (sR S6 (sR S6 (sR S6 (sR S6 a0 0) 0) 0) 0) z10))))) ∧
  Q (some (vJ ((G8 (sR S6 a0 14) z10) + ((G8 (sR S6 a0 13) z10) * (a1 - (G8 (sR S6 (sR S6 (sR S6 (sR S6 a0 0) 0) 0) 0) z10)))))) S6 F7 G8)
theorem R_X7_unitsAhead_0 {d : Nat} {S : AS} {F : AF} {G : AG} {Q : AQ} {a0 : Nat} {a1 : Int} (h : V_X7_unitsAhead_0 d S F G Q a0 a1) : Go d MX7_unitsAhead 0 [some (vR a0), some (vI a1), none] [] S F G Q := by
  unfold V_X7_unitsAhead_0 at h
  refine go_aload_n (show decode cX7_unitsAhead 0 = .ok (.aload_n 0, 1) by decide +kernel) (by rfl) ?_
  obtain ⟨q1, h⟩ := h
  refine go_getR (show decode cX7_unitsAhead 1 = .ok (.getfield 44, 3) by decide +kernel) fl_X7_44 rfl q1 ?_
  obtain ⟨q2, h⟩ := h
  refine go_getR (show decode cX7_unitsAhead 4 = .ok (.getfield 60, 3) by decide +kernel) fl_X7_60 rfl q2 ?_
  obtain ⟨q3, h⟩ := h
  refine go_getR (show decode cX7_unitsAhead 7 = .ok (.getfield 54, 3) by decide +kernel) fl_X7_54 rfl q3 ?_
  refine go_iload_n (show decode cX7_unitsAhead 10 = .ok (.iload_n 1, 1) by decide +kernel) (by rfl) ?_
  obtain ⟨q4, h⟩ := h
  obtain ⟨q9, h⟩ := h
  refine go_callV (d2 := d - 1) (M2 := MX1_bandOf) (n := 1) (ci := 1) (av := [vI a1]) (st := []) (show decode cX7_unitsAhead 11 = .ok (.invokevirtual 74, 3) by decide +kernel) ml_X7_74 mt_X1_bandOf min_X1_bandOf mse_X1_bandOf (by decide) q9 rfl (Nat.le_of_ble_eq_true rfl) (by omega) (ok_mono h (fun w5 S6 F7 G8 h => ?_))
  obtain ⟨z10, e9, h⟩ := h
  subst e9
  show Go d MX7_unitsAhead 14 [some (vR a0), some (vI a1), none] [vI z10] S6 F7 G8 Q
  refine go_istore_n (show decode cX7_unitsAhead 14 = .ok (.istore_n 2, 1) by decide +kernel) (by decide) ?_
  show Go d MX7_unitsAhead 15 [some (vR a0), some (vI a1), some (vI z10)] [] S6 F7 G8 Q
  refine go_aload_n (show decode cX7_unitsAhead 15 = .ok (.aload_n 0, 1) by decide +kernel) (by rfl) ?_
  obtain ⟨q11, h⟩ := h
  refine go_getR (show decode cX7_unitsAhead 16 = .ok (.getfield 35, 3) by decide +kernel) fl_X7_35 rfl q11 ?_
  refine go_iload_n (show decode cX7_unitsAhead 19 = .ok (.iload_n 2, 1) by decide +kernel) (by rfl) ?_
  obtain ⟨q12, h⟩ := h
  obtain ⟨q13, h⟩ := h
  obtain ⟨q14, h⟩ := h
  refine go_laload (show decode cX7_unitsAhead 20 = .ok (.laload, 1) by decide +kernel) q12 q13 q14 ?_
  refine go_aload_n (show decode cX7_unitsAhead 21 = .ok (.aload_n 0, 1) by decide +kernel) (by rfl) ?_
  refine go_getR (show decode cX7_unitsAhead 22 = .ok (.getfield 32, 3) by decide +kernel) fl_X7_32 rfl q11 ?_
  refine go_iload_n (show decode cX7_unitsAhead 25 = .ok (.iload_n 2, 1) by decide +kernel) (by rfl) ?_
  obtain ⟨q15, h⟩ := h
  obtain ⟨q16, h⟩ := h
  refine go_laload (show decode cX7_unitsAhead 26 = .ok (.laload, 1) by decide +kernel) q15 q13 q16 ?_
  refine go_iload_n (show decode cX7_unitsAhead 27 = .ok (.iload_n 1, 1) by decide +kernel) (by rfl) ?_
  refine go_aload_n (show decode cX7_unitsAhead 28 = .ok (.aload_n 0, 1) by decide +kernel) (by rfl) ?_
  refine go_getR (show decode cX7_unitsAhead 29 = .ok (.getfield 44, 3) by decide +kernel) fl_X7_44 rfl q11 ?_
  obtain ⟨q17, h⟩ := h
  refine go_getR (show decode cX7_unitsAhead 32 = .ok (.getfield 60, 3) by decide +kernel) fl_X7_60 rfl q17 ?_
  obtain ⟨q18, h⟩ := h
  refine go_getR (show decode cX7_unitsAhead 35 = .ok (.getfield 54, 3) by decide +kernel) fl_X7_54 rfl q18 ?_
  obtain ⟨q19, h⟩ := h
  refine go_getR (show decode cX7_unitsAhead 38 = .ok (.getfield 117, 3) by decide +kernel) fl_X7_117 rfl q19 ?_
  refine go_iload_n (show decode cX7_unitsAhead 41 = .ok (.iload_n 2, 1) by decide +kernel) (by rfl) ?_
  obtain ⟨q20, h⟩ := h
  obtain ⟨q21, h⟩ := h
  refine go_iaload (show decode cX7_unitsAhead 42 = .ok (.iaload, 1) by decide +kernel) q20 q13 q21 ?_
  obtain ⟨q22, h⟩ := h
  refine go_isub (show decode cX7_unitsAhead 43 = .ok (.isub, 1) by decide +kernel) q22 ?_
  refine go_i2l (show decode cX7_unitsAhead 44 = .ok (.i2l, 1) by decide +kernel) ?_
  obtain ⟨q23, h⟩ := h
  refine go_lmul (show decode cX7_unitsAhead 45 = .ok (.lmul, 1) by decide +kernel) q23 ?_
  obtain ⟨q24, h⟩ := h
  refine go_ladd (show decode cX7_unitsAhead 46 = .ok (.ladd, 1) by decide +kernel) q24 ?_
  exact go_lret (show decode cX7_unitsAhead 47 = .ok (.lreturn, 1) by decide +kernel) rfl h
def V_X7_findLine_65 (d : Nat) (S : AS) (F : AF) (G : AG) (Q : AQ) (a0 : Nat) (a1 : Int) (a2 : Int) (a3 : Nat) (a4 : Int) (a5 : Int) : Prop :=
  (r32 (a5 + 1)) ∧
  Go d MX7_findLine 19 [some (vR a0), some (vI a1), some (vI a2), some (vR a3), some (vI a4), some (vI (a5 + 1))] [] S F G Q
theorem R_X7_findLine_65 {d : Nat} {S : AS} {F : AF} {G : AG} {Q : AQ} {a0 : Nat} {a1 : Int} {a2 : Int} {a3 : Nat} {a4 : Int} {a5 : Int} (h : V_X7_findLine_65 d S F G Q a0 a1 a2 a3 a4 a5) : Go d MX7_findLine 65 [some (vR a0), some (vI a1), some (vI a2), some (vR a3), some (vI a4), some (vI a5)] [] S F G Q := by
  unfold V_X7_findLine_65 at h
  obtain ⟨q1, h⟩ := h
  refine go_iinc (show decode cX7_findLine 65 = .ok (.iinc 5 1, 3) by decide +kernel) (by rfl) q1 (by decide) ?_
  show Go d MX7_findLine 68 [some (vR a0), some (vI a1), some (vI a2), some (vR a3), some (vI a4), some (vI (a5 + 1))] [] S F G Q
  refine go_goto (tgt := 19) (show decode cX7_findLine 68 = .ok (.goto (-49), 3) by decide +kernel) (by decide) ?_
  exact h
def V_X7_findLine_19 (d : Nat) (S : AS) (F : AF) (G : AG) (Q : AQ) (a0 : Nat) (a1 : Int) (a2 : Int) (a3 : Nat) (a4 : Int) (a5 : Int) : Prop :=
  (sK S a3 = 1) ∧
  ((F a3 1 ≤ a5) →
    Q (some (vI a4)) S F G) ∧
  ((¬ F a3 1 ≤ a5) →
    (1 ≤ d) ∧
    (sK S a0 = 7) ∧
    Ok (d - 1) MX7_measureWhole [vR a0, vI a1, vI a2, vI a5] S F G (fun w3 S4 F5 G6 =>
    w3 = none ∧
    (sK S4 a0 = 7) ∧
    ((F5 a0 2 ≤ F5 a0 8) →
      V_X7_findLine_65 d S4 F5 G6 Q a0 a1 a2 a3 a4 a5) ∧
    ((¬ F5 a0 2 ≤ F5 a0 8) →
      ∀ F9 : AF, F9 = fu F5 a0 8 (F5 a0 2) →
      (sK S4 a3 = 1) ∧
      (sK S4 (sR S4 a3 0) = 20) ∧
      ((0 : Int) ≤ a5) ∧
      ((a5 : Int) < (sN S4 (sR S4 a3 0) : Int)) ∧
      ∀ x14 : Int, x14 = G6 (sR S4 a3 0) a5 →
      V_X7_findLine_65 d S4 F9 G6 Q a0 a1 a2 a3 x14 a5)))
theorem R_X7_findLine_19 {d : Nat} {S : AS} {F : AF} {G : AG} {Q : AQ} {a0 : Nat} {a1 : Int} {a2 : Int} {a3 : Nat} {a4 : Int} {a5 : Int} (h : V_X7_findLine_19 d S F G Q a0 a1 a2 a3 a4 a5) : Go d MX7_findLine 19 [some (vR a0), some (vI a1), some (vI a2), some (vR a3), some (vI a4), some (vI a5)] [] S F G Q := by
  unfold V_X7_findLine_19 at h
  refine go_iload (show decode cX7_findLine 19 = .ok (.iload 5, 2) by decide +kernel) (by rfl) ?_
  refine go_aload_n (show decode cX7_findLine 21 = .ok (.aload_n 3, 1) by decide +kernel) (by rfl) ?_
  obtain ⟨q1, h⟩ := h
  refine go_getI (show decode cX7_findLine 22 = .ok (.getfield 134, 3) by decide +kernel) fl_X7_134 (Or.inl rfl) q1 ?_
  obtain ⟨ht, hf⟩ := h
  refine go_icmpge (tgt := 71) (show decode cX7_findLine 25 = .ok (.if_icmp .ge 46, 3) by decide +kernel) (by decide) (fun hc => ?_) (fun hc => ?_)
  · have h := ht hc
    refine go_iload (show decode cX7_findLine 71 = .ok (.iload 4, 2) by decide +kernel) (by rfl) ?_
    exact go_iret (show decode cX7_findLine 73 = .ok (.ireturn, 1) by decide +kernel) rfl h
  · have h := hf hc
    refine go_aload_n (show decode cX7_findLine 28 = .ok (.aload_n 0, 1) by decide +kernel) (by rfl) ?_
    refine go_iload_n (show decode cX7_findLine 29 = .ok (.iload_n 1, 1) by decide +kernel) (by rfl) ?_
    refine go_iload_n (show decode cX7_findLine 30 = .ok (.iload_n 2, 1) by decide +kernel) (by rfl) ?_
    refine go_iload (show decode cX7_findLine 31 = .ok (.iload 5, 2) by decide +kernel) (by rfl) ?_
    obtain ⟨q2, h⟩ := h
    obtain ⟨q7, h⟩ := h
    refine go_callV (d2 := d - 1) (M2 := MX7_measureWhole) (n := 3) (ci := 7) (av := [vI a1, vI a2, vI a5]) (st := []) (show decode cX7_findLine 33 = .ok (.invokevirtual 148, 3) by decide +kernel) ml_X7_148 mt_X7_measureWhole min_X7_measureWhole mse_X7_measureWhole (by decide) q7 rfl (Nat.le_of_ble_eq_true rfl) (by omega) (ok_mono h (fun w3 S4 F5 G6 h => ?_))
    obtain ⟨e9, h⟩ := h
    subst e9
    show Go d MX7_findLine 36 [some (vR a0), some (vI a1), some (vI a2), some (vR a3), some (vI a4), some (vI a5)] [] S4 F5 G6 Q
    refine go_aload_n (show decode cX7_findLine 36 = .ok (.aload_n 0, 1) by decide +kernel) (by rfl) ?_
    obtain ⟨q8, h⟩ := h
    refine go_getJ (show decode cX7_findLine 37 = .ok (.getfield 67, 3) by decide +kernel) fl_X7_67 rfl q8 ?_
    refine go_aload_n (show decode cX7_findLine 40 = .ok (.aload_n 0, 1) by decide +kernel) (by rfl) ?_
    refine go_getJ (show decode cX7_findLine 41 = .ok (.getfield 169, 3) by decide +kernel) fl_X7_169 rfl q8 ?_
    obtain ⟨ht, hf⟩ := h
    refine go_jle (tgt := 65) (show decode cX7_findLine 44 = .ok (.lcmp, 1) by decide +kernel) (show decode cX7_findLine 45 = .ok (.ifCond .le 20, 3) by decide +kernel) (by decide) (fun hc => ?_) (fun hc => ?_)
    · have h := ht hc
      exact R_X7_findLine_65 h
    · have h := hf hc
      refine go_aload_n (show decode cX7_findLine 48 = .ok (.aload_n 0, 1) by decide +kernel) (by rfl) ?_
      refine go_aload_n (show decode cX7_findLine 49 = .ok (.aload_n 0, 1) by decide +kernel) (by rfl) ?_
      refine go_getJ (show decode cX7_findLine 50 = .ok (.getfield 67, 3) by decide +kernel) fl_X7_67 rfl q8 ?_
      refine go_putJ (show decode cX7_findLine 53 = .ok (.putfield 169, 3) by decide +kernel) fl_X7_169 rfl (Or.inl rfl) q8 ?_
      obtain ⟨F9, F9e⟩ : ∃ F9 : AF, F9 = fu F5 a0 8 (F5 a0 2) := ⟨_, rfl⟩
      have h := h F9 F9e
      rw [← F9e]
      refine go_aload_n (show decode cX7_findLine 56 = .ok (.aload_n 3, 1) by decide +kernel) (by rfl) ?_
      obtain ⟨q10, h⟩ := h
      refine go_getR (show decode cX7_findLine 57 = .ok (.getfield 117, 3) by decide +kernel) fl_X7_117 rfl q10 ?_
      refine go_iload (show decode cX7_findLine 60 = .ok (.iload 5, 2) by decide +kernel) (by rfl) ?_
      obtain ⟨q11, h⟩ := h
      obtain ⟨q12, h⟩ := h
      obtain ⟨q13, h⟩ := h
      refine go_iaload (show decode cX7_findLine 62 = .ok (.iaload, 1) by decide +kernel) q11 q12 q13 ?_
      obtain ⟨x14, x14e⟩ : ∃ x14 : Int, x14 = G6 (sR S4 a3 0) a5 := ⟨_, rfl⟩
      have h := h x14 x14e
      rw [← x14e]
      refine go_istore (show decode cX7_findLine 63 = .ok (.istore 4, 2) by decide +kernel) (by decide) ?_
      show Go d MX7_findLine 65 [some (vR a0), some (vI a1), some (vI a2), some (vR a3), some (vI x14), some (vI a5)] [] S4 F9 G6 Q
      exact R_X7_findLine_65 h
def V_X7_findLine_0 (d : Nat) (S : AS) (F : AF) (G : AG) (Q : AQ) (a0 : Nat) (a1 : Int) (a2 : Int) : Prop :=
  (1 ≤ d) ∧
  (sK S a0 = 7) ∧
  Ok (d - 1) MX7_outer [vR a0, vI a2] S F G (fun w2 S3 F4 G5 =>
  ∃ z7 : Nat, w2 = some (vR z7) ∧
  (sK S3 a0 = 7) ∧
  ∀ F9 : AF, F9 = fu F4 a0 8 (-1) →
  Go d MX7_findLine 19 [some (vR a0), some (vI a1), some (vI a2), some (vR z7), some (vI 0), some (vI 0)] [] S3 F9 G5 Q)
theorem R_X7_findLine_0 {d : Nat} {S : AS} {F : AF} {G : AG} {Q : AQ} {a0 : Nat} {a1 : Int} {a2 : Int} (h : V_X7_findLine_0 d S F G Q a0 a1 a2) : Go d MX7_findLine 0 [some (vR a0), some (vI a1), some (vI a2), none, none, none] [] S F G Q := by
  unfold V_X7_findLine_0 at h
  refine go_aload_n (show decode cX7_findLine 0 = .ok (.aload_n 0, 1) by decide +kernel) (by rfl) ?_
  refine go_iload_n (show decode cX7_findLine 1 = .ok (.iload_n 2, 1) by decide +kernel) (by rfl) ?_
  obtain ⟨q1, h⟩ := h
  obtain ⟨q6, h⟩ := h
  refine go_callV (d2 := d - 1) (M2 := MX7_outer) (n := 1) (ci := 7) (av := [vI a2]) (st := []) (show decode cX7_findLine 2 = .ok (.invokevirtual 111, 3) by decide +kernel) ml_X7_111 mt_X7_outer min_X7_outer mse_X7_outer (by decide) q6 rfl (Nat.le_of_ble_eq_true rfl) (by omega) (ok_mono h (fun w2 S3 F4 G5 h => ?_))
  obtain ⟨z7, e9, h⟩ := h
  subst e9
  show Go d MX7_findLine 5 [some (vR a0), some (vI a1), some (vI a2), none, none, none] [vR z7] S3 F4 G5 Q
  refine go_astore_n (show decode cX7_findLine 5 = .ok (.astore_n 3, 1) by decide +kernel) (by decide) ?_
  show Go d MX7_findLine 6 [some (vR a0), some (vI a1), some (vI a2), some (vR z7), none, none] [] S3 F4 G5 Q
  refine go_iconst (show decode cX7_findLine 6 = .ok (.iconst 0, 1) by decide +kernel) (by decide) ?_
  refine go_istore (show decode cX7_findLine 7 = .ok (.istore 4, 2) by decide +kernel) (by decide) ?_
  show Go d MX7_findLine 9 [some (vR a0), some (vI a1), some (vI a2), some (vR z7), some (vI 0), none] [] S3 F4 G5 Q
  refine go_aload_n (show decode cX7_findLine 9 = .ok (.aload_n 0, 1) by decide +kernel) (by rfl) ?_
  refine go_ldc2 (show decode cX7_findLine 10 = .ok (.ldc2_w 167, 3) by decide +kernel) lc_X7_167 (by decide) ?_
  obtain ⟨q8, h⟩ := h
  refine go_putJ (show decode cX7_findLine 13 = .ok (.putfield 169, 3) by decide +kernel) fl_X7_169 rfl (Or.inl rfl) q8 ?_
  obtain ⟨F9, F9e⟩ : ∃ F9 : AF, F9 = fu F4 a0 8 (-1) := ⟨_, rfl⟩
  have h := h F9 F9e
  rw [← F9e]
  refine go_iconst (show decode cX7_findLine 16 = .ok (.iconst 0, 1) by decide +kernel) (by decide) ?_
  refine go_istore (show decode cX7_findLine 17 = .ok (.istore 5, 2) by decide +kernel) (by decide) ?_
  show Go d MX7_findLine 19 [some (vR a0), some (vI a1), some (vI a2), some (vR z7), some (vI 0), some (vI 0)] [] S3 F9 G5 Q
  exact h
def V_X9_init_0 (d : Nat) (S : AS) (F : AF) (G : AG) (Q : AQ) (a0 : Nat) : Prop :=
  (1 ≤ d) ∧
  (1 ≤ a0) ∧
  (sn S < 999998) ∧
  ∀ x4 : Nat, x4 = sn S + 1 →
  ∀ S5 : AS, S5 = na S 2 0 9 →
  ∀ F6 : AF, F6 = nF S F →
  ∀ G7 : AG, G7 = nG S G →
  (1 ≤ d) ∧
  (1 ≤ x4) ∧
  Ok (d - 1) MX2_init [vR x4] S5 F6 G7 (fun w9 S10 F11 G12 =>
  w9 = none ∧
  (sK S10 a0 = 9) ∧
  (x4 ≤ sn S10) ∧
  ∀ S16 : AS, S16 = ru S10 a0 0 x4 →
  (sn S16 < 999998) ∧
  ∀ x18 : Nat, x18 = sn S16 + 1 →
  ∀ S19 : AS, S19 = na S16 7 0 17 →
  ∀ F20 : AF, F20 = nF S16 F11 →
  ∀ G21 : AG, G21 = nG S16 G12 →
  (sK S19 a0 = 9) ∧
  (1 ≤ d) ∧
  (1 ≤ x18) ∧
  Ok (d - 1) MX7_init [vR x18, vR (sR S19 a0 0)] S19 F20 G21 (fun w24 S25 F26 G27 =>
  w24 = none ∧
  (sK S25 a0 = 9) ∧
  (x18 ≤ sn S25) ∧
  ∀ S31 : AS, S31 = ru S25 a0 1 x18 →
  (sn S31 < 999998) ∧
  ∀ x33 : Nat, x33 = sn S31 + 1 →
  ∀ S34 : AS, S34 = na S31 6 0 3 →
  ∀ F35 : AF, F35 = nF S31 F26 →
  ∀ G36 : AG, G36 = nG S31 G27 →
  (1 ≤ d) ∧
  (1 ≤ x33) ∧
  Ok (d - 1) MX6_init [vR x33] S34 F35 G36 (fun w38 S39 F40 G41 =>
  w38 = none ∧
  (sK S39 a0 = 9) ∧
  (x33 ≤ sn S39) ∧
  ∀ S45 : AS, S45 = ru S39 a0 2 x33 →
  (sn S45 < 999998) ∧
  ∀ x47 : Nat, x47 = sn S45 + 1 →
  ∀ S48 : AS, S48 = na S45 5 0 12 →
  ∀ F49 : AF, F49 = nF S45 F40 →
  ∀ G50 : AG, G50 = nG S45 G41 →
  (1 ≤ d) ∧
  (1 ≤ x47) ∧
  Ok (d - 1) MX5_init [vR x47] S48 F49 G50 (fun w52 S53 F54 G55 =>
  w52 = none ∧
  (sK S53 a0 = 9) ∧
  (x47 ≤ sn S53) ∧
  ∀ S59 : AS, S59 = ru S53 a0 3 x47 →
  (sn S59 < 999998) ∧
  ∀ x61 : Nat, x61 = sn S59 + 1 →
  ∀ S62 : AS, S62 = na S59 3 0 4 →
  ∀ F63 : AF, F63 = nF S59 F54 →
  ∀ G64 : AG, G64 = nG S59 G55 →
  (1 ≤ d) ∧
  (1 ≤ x61) ∧
  Ok (d - 1) MX3_init [vR x61] S62 F63 G64 (fun w66 S67 F68 G69 =>
  w66 = none ∧
  (sK S67 a0 = 9) ∧
  (x61 ≤ sn S67) ∧
  ∀ S73 : AS, S73 = ru S67 a0 4 x61 →
  (sn S73 < 999998) ∧
  ∀ x75 : Nat, x75 = sn S73 + 1 →
  ∀ S76 : AS, S76 = na S73 3 0 4 →
  ∀ F77 : AF, F77 = nF S73 F68 →
  ∀ G78 : AG, G78 = nG S73 G69 →
  (1 ≤ d) ∧
  (1 ≤ x75) ∧
  Ok (d - 1) MX3_init [vR x75] S76 F77 G78 (fun w80 S81 F82 G83 =>
  w80 = none ∧
  (sK S81 a0 = 9) ∧
  (x75 ≤ sn S81) ∧
  ∀ S87 : AS, S87 = ru S81 a0 5 x75 →
  (sK S87 a0 = 9) ∧
  (1 ≤ d) ∧
  (sK S87 (sR S87 a0 0) = 2) ∧
  Ok (d - 1) MX2_clear [vR (sR S87 a0 0), vI 1, vI 1, vJ 1000000000000] S87 F82 G83 (fun w90 S91 F92 G93 =>
  w90 = none ∧
  Q none S91 F92 G93)))))))
theorem R_X9_init_0 {d : Nat} {S : AS} {F : AF} {G : AG} {Q : AQ} {a0 : Nat} (h : V_X9_init_0 d S F G Q a0) : Go d MX9_init 0 [some (vR a0)] [] S F G Q := by
  unfold V_X9_init_0 at h
  refine go_aload_n (show decode cX9_init 0 = .ok (.aload_n 0, 1) by decide +kernel) (by rfl) ?_
  obtain ⟨q1, h⟩ := h
  obtain ⟨q2, h⟩ := h
  refine go_objInit (show decode cX9_init 1 = .ok (.invokespecial 3, 3) by decide +kernel) ml_X9_3 oi_1 oi_2 q2 (Nat.le_of_ble_eq_true rfl) q1 ?_
  refine go_aload_n (show decode cX9_init 4 = .ok (.aload_n 0, 1) by decide +kernel) (by rfl) ?_
  obtain ⟨q3, h⟩ := h
  refine go_new (show decode cX9_init 5 = .ok (.new 9, 3) by decide +kernel) (by decide) cl_X9_9 ci_2 cz_2 q3 ?_
  show Go d MX9_init 8 [some (vR a0)] [vR (sn S + 1), vR a0] (na S 2 0 9) (nF S F) (nG S G) Q
  obtain ⟨x4, x4e⟩ : ∃ x4 : Nat, x4 = sn S + 1 := ⟨_, rfl⟩
  have h := h x4 x4e
  rw [← x4e]
  obtain ⟨S5, S5e⟩ : ∃ S5 : AS, S5 = na S 2 0 9 := ⟨_, rfl⟩
  have h := h S5 S5e
  rw [← S5e]
  obtain ⟨F6, F6e⟩ : ∃ F6 : AF, F6 = nF S F := ⟨_, rfl⟩
  have h := h F6 F6e
  rw [← F6e]
  obtain ⟨G7, G7e⟩ : ∃ G7 : AG, G7 = nG S G := ⟨_, rfl⟩
  have h := h G7 G7e
  rw [← G7e]
  refine go_dup (show decode cX9_init 8 = .ok (.dup, 1) by decide +kernel) ?_
  obtain ⟨q8, h⟩ := h
  obtain ⟨q13, h⟩ := h
  refine go_callI (d2 := d - 1) (M2 := MX2_init) (n := 0) (av := []) (st := [vR x4, vR a0]) (show decode cX9_init 9 = .ok (.invokespecial 11, 3) by decide +kernel) ml_X9_11 mt_X2_init rfl rfl min_X2_init q13 rfl (Nat.le_of_ble_eq_true rfl) (by omega) (ok_mono h (fun w9 S10 F11 G12 h => ?_))
  obtain ⟨e9, h⟩ := h
  subst e9
  show Go d MX9_init 12 [some (vR a0)] [vR x4, vR a0] S10 F11 G12 Q
  obtain ⟨q14, h⟩ := h
  obtain ⟨q15, h⟩ := h
  refine go_putR (show decode cX9_init 12 = .ok (.putfield 12, 3) by decide +kernel) fl_X9_12 rfl (Or.inr ⟨rfl, rfl⟩) q14 q15 ?_
  obtain ⟨S16, S16e⟩ : ∃ S16 : AS, S16 = ru S10 a0 0 x4 := ⟨_, rfl⟩
  have h := h S16 S16e
  rw [← S16e]
  refine go_aload_n (show decode cX9_init 15 = .ok (.aload_n 0, 1) by decide +kernel) (by rfl) ?_
  obtain ⟨q17, h⟩ := h
  refine go_new (show decode cX9_init 16 = .ok (.new 16, 3) by decide +kernel) (by decide) cl_X9_16 ci_7 cz_7 q17 ?_
  show Go d MX9_init 19 [some (vR a0)] [vR (sn S16 + 1), vR a0] (na S16 7 0 17) (nF S16 F11) (nG S16 G12) Q
  obtain ⟨x18, x18e⟩ : ∃ x18 : Nat, x18 = sn S16 + 1 := ⟨_, rfl⟩
  have h := h x18 x18e
  rw [← x18e]
  obtain ⟨S19, S19e⟩ : ∃ S19 : AS, S19 = na S16 7 0 17 := ⟨_, rfl⟩
  have h := h S19 S19e
  rw [← S19e]
  obtain ⟨F20, F20e⟩ : ∃ F20 : AF, F20 = nF S16 F11 := ⟨_, rfl⟩
  have h := h F20 F20e
  rw [← F20e]
  obtain ⟨G21, G21e⟩ : ∃ G21 : AG, G21 = nG S16 G12 := ⟨_, rfl⟩
  have h := h G21 G21e
  rw [← G21e]
  refine go_dup (show decode cX9_init 19 = .ok (.dup, 1) by decide +kernel) ?_
  refine go_aload_n (show decode cX9_init 20 = .ok (.aload_n 0, 1) by decide +kernel) (by rfl) ?_
  obtain ⟨q22, h⟩ := h
  refine go_getR (show decode cX9_init 21 = .ok (.getfield 12, 3) by decide +kernel) fl_X9_12 rfl q22 ?_
  obtain ⟨q23, h⟩ := h
  obtain ⟨q28, h⟩ := h
  refine go_callI (d2 := d - 1) (M2 := MX7_init) (n := 1) (av := [vR (sR S19 a0 0)]) (st := [vR x18, vR a0]) (show decode cX9_init 24 = .ok (.invokespecial 18, 3) by decide +kernel) ml_X9_18 mt_X7_init rfl rfl min_X7_init q28 rfl (Nat.le_of_ble_eq_true rfl) (by omega) (ok_mono h (fun w24 S25 F26 G27 h => ?_))
  obtain ⟨e9, h⟩ := h
  subst e9
  show Go d MX9_init 27 [some (vR a0)] [vR x18, vR a0] S25 F26 G27 Q
  obtain ⟨q29, h⟩ := h
  obtain ⟨q30, h⟩ := h
  refine go_putR (show decode cX9_init 27 = .ok (.putfield 21, 3) by decide +kernel) fl_X9_21 rfl (Or.inr ⟨rfl, rfl⟩) q29 q30 ?_
  obtain ⟨S31, S31e⟩ : ∃ S31 : AS, S31 = ru S25 a0 1 x18 := ⟨_, rfl⟩
  have h := h S31 S31e
  rw [← S31e]
  refine go_aload_n (show decode cX9_init 30 = .ok (.aload_n 0, 1) by decide +kernel) (by rfl) ?_
  obtain ⟨q32, h⟩ := h
  refine go_new (show decode cX9_init 31 = .ok (.new 25, 3) by decide +kernel) (by decide) cl_X9_25 ci_6 cz_6 q32 ?_
  show Go d MX9_init 34 [some (vR a0)] [vR (sn S31 + 1), vR a0] (na S31 6 0 3) (nF S31 F26) (nG S31 G27) Q
  obtain ⟨x33, x33e⟩ : ∃ x33 : Nat, x33 = sn S31 + 1 := ⟨_, rfl⟩
  have h := h x33 x33e
  rw [← x33e]
  obtain ⟨S34, S34e⟩ : ∃ S34 : AS, S34 = na S31 6 0 3 := ⟨_, rfl⟩
  have h := h S34 S34e
  rw [← S34e]
  obtain ⟨F35, F35e⟩ : ∃ F35 : AF, F35 = nF S31 F26 := ⟨_, rfl⟩
  have h := h F35 F35e
  rw [← F35e]
  obtain ⟨G36, G36e⟩ : ∃ G36 : AG, G36 = nG S31 G27 := ⟨_, rfl⟩
  have h := h G36 G36e
  rw [← G36e]
  refine go_dup (show decode cX9_init 34 = .ok (.dup, 1) by decide +kernel) ?_
  obtain ⟨q37, h⟩ := h
  obtain ⟨q42, h⟩ := h
  refine go_callIN (d2 := d - 1) (M2 := MX6_init) (n := 0) (av := []) (st := [vR x33, vR a0]) (show decode cX9_init 35 = .ok (.invokespecial 27, 3) by decide +kernel) ml_X9_27 mt_X6_init rfl rfl min_X6_init q42 rfl (Nat.le_of_ble_eq_true rfl) (by omega) (ok_mono h (fun w38 S39 F40 G41 h => ?_))
  obtain ⟨e9, h⟩ := h
  subst e9
  show Go d MX9_init 38 [some (vR a0)] [vR x33, vR a0] S39 F40 G41 Q
  obtain ⟨q43, h⟩ := h
  obtain ⟨q44, h⟩ := h
  refine go_putR (show decode cX9_init 38 = .ok (.putfield 28, 3) by decide +kernel) fl_X9_28 rfl (Or.inr ⟨rfl, rfl⟩) q43 q44 ?_
  obtain ⟨S45, S45e⟩ : ∃ S45 : AS, S45 = ru S39 a0 2 x33 := ⟨_, rfl⟩
  have h := h S45 S45e
  rw [← S45e]
  refine go_aload_n (show decode cX9_init 41 = .ok (.aload_n 0, 1) by decide +kernel) (by rfl) ?_
  obtain ⟨q46, h⟩ := h
  refine go_new (show decode cX9_init 42 = .ok (.new 32, 3) by decide +kernel) (by decide) cl_X9_32 ci_5 cz_5 q46 ?_
  show Go d MX9_init 45 [some (vR a0)] [vR (sn S45 + 1), vR a0] (na S45 5 0 12) (nF S45 F40) (nG S45 G41) Q
  obtain ⟨x47, x47e⟩ : ∃ x47 : Nat, x47 = sn S45 + 1 := ⟨_, rfl⟩
  have h := h x47 x47e
  rw [← x47e]
  obtain ⟨S48, S48e⟩ : ∃ S48 : AS, S48 = na S45 5 0 12 := ⟨_, rfl⟩
  have h := h S48 S48e
  rw [← S48e]
  obtain ⟨F49, F49e⟩ : ∃ F49 : AF, F49 = nF S45 F40 := ⟨_, rfl⟩
  have h := h F49 F49e
  rw [← F49e]
  obtain ⟨G50, G50e⟩ : ∃ G50 : AG, G50 = nG S45 G41 := ⟨_, rfl⟩
  have h := h G50 G50e
  rw [← G50e]
  refine go_dup (show decode cX9_init 45 = .ok (.dup, 1) by decide +kernel) ?_
  obtain ⟨q51, h⟩ := h
  obtain ⟨q56, h⟩ := h
  refine go_callIN (d2 := d - 1) (M2 := MX5_init) (n := 0) (av := []) (st := [vR x47, vR a0]) (show decode cX9_init 46 = .ok (.invokespecial 34, 3) by decide +kernel) ml_X9_34 mt_X5_init rfl rfl min_X5_init q56 rfl (Nat.le_of_ble_eq_true rfl) (by omega) (ok_mono h (fun w52 S53 F54 G55 h => ?_))
  obtain ⟨e9, h⟩ := h
  subst e9
  show Go d MX9_init 49 [some (vR a0)] [vR x47, vR a0] S53 F54 G55 Q
  obtain ⟨q57, h⟩ := h
  obtain ⟨q58, h⟩ := h
  refine go_putR (show decode cX9_init 49 = .ok (.putfield 35, 3) by decide +kernel) fl_X9_35 rfl (Or.inr ⟨rfl, rfl⟩) q57 q58 ?_
  obtain ⟨S59, S59e⟩ : ∃ S59 : AS, S59 = ru S53 a0 3 x47 := ⟨_, rfl⟩
  have h := h S59 S59e
  rw [← S59e]
  refine go_aload_n (show decode cX9_init 52 = .ok (.aload_n 0, 1) by decide +kernel) (by rfl) ?_
  obtain ⟨q60, h⟩ := h
  refine go_new (show decode cX9_init 53 = .ok (.new 39, 3) by decide +kernel) (by decide) cl_X9_39 ci_3 cz_3 q60 ?_
  show Go d MX9_init 56 [some (vR a0)] [vR (sn S59 + 1), vR a0] (na S59 3 0 4) (nF S59 F54) (nG S59 G55) Q
  obtain ⟨x61, x61e⟩ : ∃ x61 : Nat, x61 = sn S59 + 1 := ⟨_, rfl⟩
  have h := h x61 x61e
  rw [← x61e]
  obtain ⟨S62, S62e⟩ : ∃ S62 : AS, S62 = na S59 3 0 4 := ⟨_, rfl⟩
  have h := h S62 S62e
  rw [← S62e]
  obtain ⟨F63, F63e⟩ : ∃ F63 : AF, F63 = nF S59 F54 := ⟨_, rfl⟩
  have h := h F63 F63e
  rw [← F63e]
  obtain ⟨G64, G64e⟩ : ∃ G64 : AG, G64 = nG S59 G55 := ⟨_, rfl⟩
  have h := h G64 G64e
  rw [← G64e]
  refine go_dup (show decode cX9_init 56 = .ok (.dup, 1) by decide +kernel) ?_
  obtain ⟨q65, h⟩ := h
  obtain ⟨q70, h⟩ := h
  refine go_callIN (d2 := d - 1) (M2 := MX3_init) (n := 0) (av := []) (st := [vR x61, vR a0]) (show decode cX9_init 57 = .ok (.invokespecial 41, 3) by decide +kernel) ml_X9_41 mt_X3_init rfl rfl min_X3_init q70 rfl (Nat.le_of_ble_eq_true rfl) (by omega) (ok_mono h (fun w66 S67 F68 G69 h => ?_))
  obtain ⟨e9, h⟩ := h
  subst e9
  show Go d MX9_init 60 [some (vR a0)] [vR x61, vR a0] S67 F68 G69 Q
  obtain ⟨q71, h⟩ := h
  obtain ⟨q72, h⟩ := h
  refine go_putR (show decode cX9_init 60 = .ok (.putfield 42, 3) by decide +kernel) fl_X9_42 rfl (Or.inr ⟨rfl, rfl⟩) q71 q72 ?_
  obtain ⟨S73, S73e⟩ : ∃ S73 : AS, S73 = ru S67 a0 4 x61 := ⟨_, rfl⟩
  have h := h S73 S73e
  rw [← S73e]
  refine go_aload_n (show decode cX9_init 63 = .ok (.aload_n 0, 1) by decide +kernel) (by rfl) ?_
  obtain ⟨q74, h⟩ := h
  refine go_new (show decode cX9_init 64 = .ok (.new 39, 3) by decide +kernel) (by decide) cl_X9_39 ci_3 cz_3 q74 ?_
  show Go d MX9_init 67 [some (vR a0)] [vR (sn S73 + 1), vR a0] (na S73 3 0 4) (nF S73 F68) (nG S73 G69) Q
  obtain ⟨x75, x75e⟩ : ∃ x75 : Nat, x75 = sn S73 + 1 := ⟨_, rfl⟩
  have h := h x75 x75e
  rw [← x75e]
  obtain ⟨S76, S76e⟩ : ∃ S76 : AS, S76 = na S73 3 0 4 := ⟨_, rfl⟩
  have h := h S76 S76e
  rw [← S76e]
  obtain ⟨F77, F77e⟩ : ∃ F77 : AF, F77 = nF S73 F68 := ⟨_, rfl⟩
  have h := h F77 F77e
  rw [← F77e]
  obtain ⟨G78, G78e⟩ : ∃ G78 : AG, G78 = nG S73 G69 := ⟨_, rfl⟩
  have h := h G78 G78e
  rw [← G78e]
  refine go_dup (show decode cX9_init 67 = .ok (.dup, 1) by decide +kernel) ?_
  obtain ⟨q79, h⟩ := h
  obtain ⟨q84, h⟩ := h
  refine go_callIN (d2 := d - 1) (M2 := MX3_init) (n := 0) (av := []) (st := [vR x75, vR a0]) (show decode cX9_init 68 = .ok (.invokespecial 41, 3) by decide +kernel) ml_X9_41 mt_X3_init rfl rfl min_X3_init q84 rfl (Nat.le_of_ble_eq_true rfl) (by omega) (ok_mono h (fun w80 S81 F82 G83 h => ?_))
  obtain ⟨e9, h⟩ := h
  subst e9
  show Go d MX9_init 71 [some (vR a0)] [vR x75, vR a0] S81 F82 G83 Q
  obtain ⟨q85, h⟩ := h
  obtain ⟨q86, h⟩ := h
  refine go_putR (show decode cX9_init 71 = .ok (.putfield 46, 3) by decide +kernel) fl_X9_46 rfl (Or.inr ⟨rfl, rfl⟩) q85 q86 ?_
  obtain ⟨S87, S87e⟩ : ∃ S87 : AS, S87 = ru S81 a0 5 x75 := ⟨_, rfl⟩
  have h := h S87 S87e
  rw [← S87e]
  refine go_aload_n (show decode cX9_init 74 = .ok (.aload_n 0, 1) by decide +kernel) (by rfl) ?_
  obtain ⟨q88, h⟩ := h
  refine go_getR (show decode cX9_init 75 = .ok (.getfield 12, 3) by decide +kernel) fl_X9_12 rfl q88 ?_
  refine go_iconst (show decode cX9_init 78 = .ok (.iconst 1, 1) by decide +kernel) (by decide) ?_
  refine go_iconst (show decode cX9_init 79 = .ok (.iconst 1, 1) by decide +kernel) (by decide) ?_
  refine go_ldc2 (show decode cX9_init 80 = .ok (.ldc2_w 49, 3) by decide +kernel) lc_X9_49 (by decide) ?_
  obtain ⟨q89, h⟩ := h
  obtain ⟨q94, h⟩ := h
  refine go_callV (d2 := d - 1) (M2 := MX2_clear) (n := 3) (ci := 2) (av := [vI 1, vI 1, vJ 1000000000000]) (st := []) (show decode cX9_init 83 = .ok (.invokevirtual 51, 3) by decide +kernel) ml_X9_51 mt_X2_clear min_X2_clear mse_X2_clear (by decide) q94 rfl (Nat.le_of_ble_eq_true rfl) (by omega) (ok_mono h (fun w90 S91 F92 G93 h => ?_))
  obtain ⟨e9, h⟩ := h
  subst e9
  show Go d MX9_init 86 [some (vR a0)] [] S91 F92 G93 Q
  exact go_vret (show decode cX9_init 86 = .ok (.return_, 1) by decide +kernel) rfl h
def V_X9_world_0 (d : Nat) (S : AS) (F : AF) (G : AG) (Q : AQ) (a0 : Nat) (a1 : Int) (a2 : Int) (a3 : Int) : Prop :=
  ((a1 < 1) →
    Q (some (vJ (-3))) S F G) ∧
  ((¬ a1 < 1) →
    ((10000 < a1) →
      Q (some (vJ (-3))) S F G) ∧
    ((¬ 10000 < a1) →
      ((a2 < 1) →
        Q (some (vJ (-3))) S F G) ∧
      ((¬ a2 < 1) →
        ((10000 < a2) →
          Q (some (vJ (-3))) S F G) ∧
        ((¬ 10000 < a2) →
          ((a3 < 1) →
            Q (some (vJ (-3))) S F G) ∧
          ((¬ a3 < 1) →
            ((a3 ≤ 1000000000000) →
              (sK S a0 = 9) ∧
              (1 ≤ d) ∧
              (sK S (sR S a0 0) = 2) ∧
              Ok (d - 1) MX2_clear [vR (sR S a0 0), vI a1, vI a2, vJ a3] S F G (fun w3 S4 F5 G6 =>
              w3 = none ∧
              (sK S4 a0 = 9) ∧
              (sK S4 (sR S4 a0 2) = 6) ∧
              Ok (d - 1) MX6_clear [vR (sR S4 a0 2)] S4 F5 G6 (fun w9 S10 F11 G12 =>
              w9 = none ∧
              (sK S10 a0 = 9) ∧
              (sK S10 (sR S10 a0 0) = 2) ∧
              (sK S10 (sR S10 (sR S10 a0 0) 2) = 3) ∧
              Ok (d - 1) MX3_cells [vR (sR S10 (sR S10 a0 0) 2)] S10 F11 G12 (fun w16 S17 F18 G19 =>
              ∃ z21 : Int, w16 = some (vJ z21) ∧
              Q (some (vJ z21)) S17 F18 G19)))) ∧
            ((¬ a3 ≤ 1000000000000) →
              Q (some (vJ (-3))) S F G))))))
theorem R_X9_world_0 {d : Nat} {S : AS} {F : AF} {G : AG} {Q : AQ} {a0 : Nat} {a1 : Int} {a2 : Int} {a3 : Int} (h : V_X9_world_0 d S F G Q a0 a1 a2 a3) : Go d MX9_world 0 [some (vR a0), some (vI a1), some (vI a2), some (vJ a3), none] [] S F G Q := by
  unfold V_X9_world_0 at h
  refine go_iload_n (show decode cX9_world 0 = .ok (.iload_n 1, 1) by decide +kernel) (by rfl) ?_
  refine go_iconst (show decode cX9_world 1 = .ok (.iconst 1, 1) by decide +kernel) (by decide) ?_
  obtain ⟨ht, hf⟩ := h
  refine go_icmplt (tgt := 38) (show decode cX9_world 2 = .ok (.if_icmp .lt 36, 3) by decide +kernel) (by decide) (fun hc => ?_) (fun hc => ?_)
  · have h := ht hc
    refine go_ldc2 (show decode cX9_world 38 = .ok (.ldc2_w 55, 3) by decide +kernel) lc_X9_55 (by decide) ?_
    exact go_lret (show decode cX9_world 41 = .ok (.lreturn, 1) by decide +kernel) rfl h
  · have h := hf hc
    refine go_iload_n (show decode cX9_world 5 = .ok (.iload_n 1, 1) by decide +kernel) (by rfl) ?_
    refine go_sipush (show decode cX9_world 6 = .ok (.sipush 10000, 3) by decide +kernel) (by decide) ?_
    obtain ⟨ht, hf⟩ := h
    refine go_icmpgt (tgt := 38) (show decode cX9_world 9 = .ok (.if_icmp .gt 29, 3) by decide +kernel) (by decide) (fun hc => ?_) (fun hc => ?_)
    · have h := ht hc
      refine go_ldc2 (show decode cX9_world 38 = .ok (.ldc2_w 55, 3) by decide +kernel) lc_X9_55 (by decide) ?_
      exact go_lret (show decode cX9_world 41 = .ok (.lreturn, 1) by decide +kernel) rfl h
    · have h := hf hc
      refine go_iload_n (show decode cX9_world 12 = .ok (.iload_n 2, 1) by decide +kernel) (by rfl) ?_
      refine go_iconst (show decode cX9_world 13 = .ok (.iconst 1, 1) by decide +kernel) (by decide) ?_
      obtain ⟨ht, hf⟩ := h
      refine go_icmplt (tgt := 38) (show decode cX9_world 14 = .ok (.if_icmp .lt 24, 3) by decide +kernel) (by decide) (fun hc => ?_) (fun hc => ?_)
      · have h := ht hc
        refine go_ldc2 (show decode cX9_world 38 = .ok (.ldc2_w 55, 3) by decide +kernel) lc_X9_55 (by decide) ?_
        exact go_lret (show decode cX9_world 41 = .ok (.lreturn, 1) by decide +kernel) rfl h
      · have h := hf hc
        refine go_iload_n (show decode cX9_world 17 = .ok (.iload_n 2, 1) by decide +kernel) (by rfl) ?_
        refine go_sipush (show decode cX9_world 18 = .ok (.sipush 10000, 3) by decide +kernel) (by decide) ?_
        obtain ⟨ht, hf⟩ := h
        refine go_icmpgt (tgt := 38) (show decode cX9_world 21 = .ok (.if_icmp .gt 17, 3) by decide +kernel) (by decide) (fun hc => ?_) (fun hc => ?_)
        · have h := ht hc
          refine go_ldc2 (show decode cX9_world 38 = .ok (.ldc2_w 55, 3) by decide +kernel) lc_X9_55 (by decide) ?_
          exact go_lret (show decode cX9_world 41 = .ok (.lreturn, 1) by decide +kernel) rfl h
        · have h := hf hc
          refine go_lload_n (show decode cX9_world 24 = .ok (.lload_n 3, 1) by decide +kernel) (by rfl) ?_
          refine go_lconst (n := 1) (show decode cX9_world 25 = .ok (.lconst 1, 1) by decide +kernel) ?_
          show Go d MX9_world 26 [some (vR a0), some (vI a1), some (vI a2), some (vJ a3), none] [vJ 1, vJ a3] S F G Q
          obtain ⟨ht, hf⟩ := h
          refine go_jlt (tgt := 38) (show decode cX9_world 26 = .ok (.lcmp, 1) by decide +kernel) (show decode cX9_world 27 = .ok (.ifCond .lt 11, 3) by decide +kernel) (by decide) (fun hc => ?_) (fun hc => ?_)
          · have h := ht hc
            refine go_ldc2 (show decode cX9_world 38 = .ok (.ldc2_w 55, 3) by decide +kernel) lc_X9_55 (by decide) ?_
            exact go_lret (show decode cX9_world 41 = .ok (.lreturn, 1) by decide +kernel) rfl h
          · have h := hf hc
            refine go_lload_n (show decode cX9_world 30 = .ok (.lload_n 3, 1) by decide +kernel) (by rfl) ?_
            refine go_ldc2 (show decode cX9_world 31 = .ok (.ldc2_w 49, 3) by decide +kernel) lc_X9_49 (by decide) ?_
            obtain ⟨ht, hf⟩ := h
            refine go_jle (tgt := 42) (show decode cX9_world 34 = .ok (.lcmp, 1) by decide +kernel) (show decode cX9_world 35 = .ok (.ifCond .le 7, 3) by decide +kernel) (by decide) (fun hc => ?_) (fun hc => ?_)
            · have h := ht hc
              refine go_aload_n (show decode cX9_world 42 = .ok (.aload_n 0, 1) by decide +kernel) (by rfl) ?_
              obtain ⟨q1, h⟩ := h
              refine go_getR (show decode cX9_world 43 = .ok (.getfield 12, 3) by decide +kernel) fl_X9_12 rfl q1 ?_
              refine go_iload_n (show decode cX9_world 46 = .ok (.iload_n 1, 1) by decide +kernel) (by rfl) ?_
              refine go_iload_n (show decode cX9_world 47 = .ok (.iload_n 2, 1) by decide +kernel) (by rfl) ?_
              refine go_lload_n (show decode cX9_world 48 = .ok (.lload_n 3, 1) by decide +kernel) (by rfl) ?_
              obtain ⟨q2, h⟩ := h
              obtain ⟨q7, h⟩ := h
              refine go_callV (d2 := d - 1) (M2 := MX2_clear) (n := 3) (ci := 2) (av := [vI a1, vI a2, vJ a3]) (st := []) (show decode cX9_world 49 = .ok (.invokevirtual 51, 3) by decide +kernel) ml_X9_51 mt_X2_clear min_X2_clear mse_X2_clear (by decide) q7 rfl (Nat.le_of_ble_eq_true rfl) (by omega) (ok_mono h (fun w3 S4 F5 G6 h => ?_))
              obtain ⟨e9, h⟩ := h
              subst e9
              show Go d MX9_world 52 [some (vR a0), some (vI a1), some (vI a2), some (vJ a3), none] [] S4 F5 G6 Q
              refine go_aload_n (show decode cX9_world 52 = .ok (.aload_n 0, 1) by decide +kernel) (by rfl) ?_
              obtain ⟨q8, h⟩ := h
              refine go_getR (show decode cX9_world 53 = .ok (.getfield 28, 3) by decide +kernel) fl_X9_28 rfl q8 ?_
              obtain ⟨q13, h⟩ := h
              refine go_callV (d2 := d - 1) (M2 := MX6_clear) (n := 0) (ci := 6) (av := []) (st := []) (show decode cX9_world 56 = .ok (.invokevirtual 57, 3) by decide +kernel) ml_X9_57 mt_X6_clear min_X6_clear mse_X6_clear (by decide) q13 rfl (Nat.le_of_ble_eq_true rfl) (by omega) (ok_mono h (fun w9 S10 F11 G12 h => ?_))
              obtain ⟨e9, h⟩ := h
              subst e9
              show Go d MX9_world 59 [some (vR a0), some (vI a1), some (vI a2), some (vJ a3), none] [] S10 F11 G12 Q
              refine go_aload_n (show decode cX9_world 59 = .ok (.aload_n 0, 1) by decide +kernel) (by rfl) ?_
              obtain ⟨q14, h⟩ := h
              refine go_getR (show decode cX9_world 60 = .ok (.getfield 12, 3) by decide +kernel) fl_X9_12 rfl q14 ?_
              obtain ⟨q15, h⟩ := h
              refine go_getR (show decode cX9_world 63 = .ok (.getfield 59, 3) by decide +kernel) fl_X9_59 rfl q15 ?_
              obtain ⟨q20, h⟩ := h
              refine go_callV (d2 := d - 1) (M2 := MX3_cells) (n := 0) (ci := 3) (av := []) (st := []) (show decode cX9_world 66 = .ok (.invokevirtual 62, 3) by decide +kernel) ml_X9_62 mt_X3_cells min_X3_cells mse_X3_cells (by decide) q20 rfl (Nat.le_of_ble_eq_true rfl) (by omega) (ok_mono h (fun w16 S17 F18 G19 h => ?_))
              obtain ⟨z21, e9, h⟩ := h
              subst e9
              show Go d MX9_world 69 [some (vR a0), some (vI a1), some (vI a2), some (vJ a3), none] [vJ z21] S17 F18 G19 Q
              exact go_lret (show decode cX9_world 69 = .ok (.lreturn, 1) by decide +kernel) rfl h
            · have h := hf hc
              refine go_ldc2 (show decode cX9_world 38 = .ok (.ldc2_w 55, 3) by decide +kernel) lc_X9_55 (by decide) ?_
              exact go_lret (show decode cX9_world 41 = .ok (.lreturn, 1) by decide +kernel) rfl h
def V_X9_add_0 (d : Nat) (S : AS) (F : AF) (G : AG) (Q : AQ) (a0 : Nat) (a1 : Int) (a2 : Int) (a3 : Int) (a4 : Int) (a5 : Int) (a6 : Int) : Prop :=
  (1 ≤ d) ∧
  Ok (d - 1) MX9_isGood [vI a1] S F G (fun w2 S3 F4 G5 =>
  ∃ z6 : Int, w2 = some (vI z6) ∧
  ((z6 = 0) →
    Q (some (vJ (-2))) S3 F4 G5) ∧
  ((¬ z6 = 0) →
    (sK S3 a0 = 9) ∧
    Ok (d - 1) MX9_ask [vR a0, vI a2, vI a3, vI a4, vI a5] S3 F4 G5 (fun w7 S8 F9 G10 =>
    ∃ z12 : Int, w7 = some (vI z12) ∧
    ((¬ z12 = 0) →
      ((a6 = 0) →
        Q (some (vJ (-3))) S8 F9 G10) ∧
      ((¬ a6 = 0) →
        ((a6 < -1000000000) →
          Q (some (vJ (-3))) S8 F9 G10) ∧
        ((¬ a6 < -1000000000) →
          ((a6 ≤ 1000000000) →
            (sK S8 a0 = 9) ∧
            (sK S8 (sR S8 a0 0) = 2) ∧
            Ok (d - 1) MX2_addRefusal [vR (sR S8 a0 0), vI a1, vR (sR S8 a0 4), vI a6] S8 F9 G10 (fun w14 S15 F16 G17 =>
            ∃ z19 : Int, w14 = some (vI z19) ∧
            ((z19 = 0) →
              (sK S15 a0 = 9) ∧
              (sK S15 (sR S15 a0 0) = 2) ∧
              Ok (d - 1) MX2_plan [vR (sR S15 a0 0), vR (sR S15 a0 4)] S15 F16 G17 (fun w21 S22 F23 G24 =>
              w21 = none ∧
              (sK S22 a0 = 9) ∧
              (sK S22 (sR S22 a0 0) = 2) ∧
              Ok (d - 1) MX2_plansTooMany [vR (sR S22 a0 0)] S22 F23 G24 (fun w27 S28 F29 G30 =>
              ∃ z32 : Int, w27 = some (vI z32) ∧
              ((z32 = 0) →
                (sK S28 a0 = 9) ∧
                (sK S28 (sR S28 a0 0) = 2) ∧
                Ok (d - 1) MX2_startTrial [vR (sR S28 a0 0), vI a1] S28 F29 G30 (fun w34 S35 F36 G37 =>
                w34 = none ∧
                (sK S35 a0 = 9) ∧
                (sK S35 (sR S35 a0 0) = 2) ∧
                Ok (d - 1) MX2_raise [vR (sR S35 a0 0), vR (sR S35 a0 4), vJ a6] S35 F36 G37 (fun w40 S41 F42 G43 =>
                w40 = none ∧
                (sK S41 a0 = 9) ∧
                Ok (d - 1) MX9_keep [vR a0, vI 0, vI a1, vJ a6] S41 F42 G43 (fun w45 S46 F47 G48 =>
                w45 = none ∧
                (sK S46 a0 = 9) ∧
                (sK S46 (sR S46 a0 0) = 2) ∧
                Ok (d - 1) MX2_sumOf [vR (sR S46 a0 0), vI a1, vR (sR S46 (sR S46 a0 0) 2)] S46 F47 G48 (fun w52 S53 F54 G55 =>
                ∃ z56 : Int, w52 = some (vJ z56) ∧
                Q (some (vJ z56)) S53 F54 G55))))) ∧
              ((¬ z32 = 0) →
                Q (some (vJ (-4))) S28 F29 G30)))) ∧
            ((¬ z19 = 0) →
              Q (some (vJ z19)) S15 F16 G17))) ∧
          ((¬ a6 ≤ 1000000000) →
            Q (some (vJ (-3))) S8 F9 G10)))) ∧
    ((z12 = 0) →
      Q (some (vJ (-2))) S8 F9 G10))))
theorem R_X9_add_0 {d : Nat} {S : AS} {F : AF} {G : AG} {Q : AQ} {a0 : Nat} {a1 : Int} {a2 : Int} {a3 : Int} {a4 : Int} {a5 : Int} {a6 : Int} (h : V_X9_add_0 d S F G Q a0 a1 a2 a3 a4 a5 a6) : Go d MX9_add 0 [some (vR a0), some (vI a1), some (vI a2), some (vI a3), some (vI a4), some (vI a5), some (vI a6), none] [] S F G Q := by
  unfold V_X9_add_0 at h
  refine go_iload_n (show decode cX9_add 0 = .ok (.iload_n 1, 1) by decide +kernel) (by rfl) ?_
  obtain ⟨q1, h⟩ := h
  refine go_callS (d2 := d - 1) (M2 := MX9_isGood) (n := 1) (av := [vI a1]) (st := []) (show decode cX9_add 1 = .ok (.invokestatic 66, 3) by decide +kernel) ml_X9_66 mt_X9_isGood mst_X9_isGood rfl (Nat.le_of_ble_eq_true rfl) (by omega) (ok_mono h (fun w2 S3 F4 G5 h => ?_))
  obtain ⟨z6, e9, h⟩ := h
  subst e9
  show Go d MX9_add 4 [some (vR a0), some (vI a1), some (vI a2), some (vI a3), some (vI a4), some (vI a5), some (vI a6), none] [vI z6] S3 F4 G5 Q
  obtain ⟨ht, hf⟩ := h
  refine go_ifeq (tgt := 20) (show decode cX9_add 4 = .ok (.ifCond .eq 16, 3) by decide +kernel) (by decide) (fun hc => ?_) (fun hc => ?_)
  · have h := ht hc
    refine go_ldc2 (show decode cX9_add 20 = .ok (.ldc2_w 74, 3) by decide +kernel) lc_X9_74 (by decide) ?_
    exact go_lret (show decode cX9_add 23 = .ok (.lreturn, 1) by decide +kernel) rfl h
  · have h := hf hc
    refine go_aload_n (show decode cX9_add 7 = .ok (.aload_n 0, 1) by decide +kernel) (by rfl) ?_
    refine go_iload_n (show decode cX9_add 8 = .ok (.iload_n 2, 1) by decide +kernel) (by rfl) ?_
    refine go_iload_n (show decode cX9_add 9 = .ok (.iload_n 3, 1) by decide +kernel) (by rfl) ?_
    refine go_iload (show decode cX9_add 10 = .ok (.iload 4, 2) by decide +kernel) (by rfl) ?_
    refine go_iload (show decode cX9_add 12 = .ok (.iload 5, 2) by decide +kernel) (by rfl) ?_
    obtain ⟨q11, h⟩ := h
    refine go_callV (d2 := d - 1) (M2 := MX9_ask) (n := 4) (ci := 9) (av := [vI a2, vI a3, vI a4, vI a5]) (st := []) (show decode cX9_add 14 = .ok (.invokevirtual 70, 3) by decide +kernel) ml_X9_70 mt_X9_ask min_X9_ask mse_X9_ask (by decide) q11 rfl (Nat.le_of_ble_eq_true rfl) (by omega) (ok_mono h (fun w7 S8 F9 G10 h => ?_))
    obtain ⟨z12, e9, h⟩ := h
    subst e9
    show Go d MX9_add 17 [some (vR a0), some (vI a1), some (vI a2), some (vI a3), some (vI a4), some (vI a5), some (vI a6), none] [vI z12] S8 F9 G10 Q
    obtain ⟨ht, hf⟩ := h
    refine go_ifne (tgt := 24) (show decode cX9_add 17 = .ok (.ifCond .ne 7, 3) by decide +kernel) (by decide) (fun hc => ?_) (fun hc => ?_)
    · have h := ht hc
      refine go_iload (show decode cX9_add 24 = .ok (.iload 6, 2) by decide +kernel) (by rfl) ?_
      obtain ⟨ht, hf⟩ := h
      refine go_ifeq (tgt := 43) (show decode cX9_add 26 = .ok (.ifCond .eq 17, 3) by decide +kernel) (by decide) (fun hc => ?_) (fun hc => ?_)
      · have h := ht hc
        refine go_ldc2 (show decode cX9_add 43 = .ok (.ldc2_w 55, 3) by decide +kernel) lc_X9_55 (by decide) ?_
        exact go_lret (show decode cX9_add 46 = .ok (.lreturn, 1) by decide +kernel) rfl h
      · have h := hf hc
        refine go_iload (show decode cX9_add 29 = .ok (.iload 6, 2) by decide +kernel) (by rfl) ?_
        refine go_ldc (show decode cX9_add 31 = .ok (.ldc 76, 2) by decide +kernel) ic_X9_76 (by decide) ?_
        obtain ⟨ht, hf⟩ := h
        refine go_icmplt (tgt := 43) (show decode cX9_add 33 = .ok (.if_icmp .lt 10, 3) by decide +kernel) (by decide) (fun hc => ?_) (fun hc => ?_)
        · have h := ht hc
          refine go_ldc2 (show decode cX9_add 43 = .ok (.ldc2_w 55, 3) by decide +kernel) lc_X9_55 (by decide) ?_
          exact go_lret (show decode cX9_add 46 = .ok (.lreturn, 1) by decide +kernel) rfl h
        · have h := hf hc
          refine go_iload (show decode cX9_add 36 = .ok (.iload 6, 2) by decide +kernel) (by rfl) ?_
          refine go_ldc (show decode cX9_add 38 = .ok (.ldc 77, 2) by decide +kernel) ic_X9_77 (by decide) ?_
          obtain ⟨ht, hf⟩ := h
          refine go_icmple (tgt := 47) (show decode cX9_add 40 = .ok (.if_icmp .le 7, 3) by decide +kernel) (by decide) (fun hc => ?_) (fun hc => ?_)
          · have h := ht hc
            refine go_aload_n (show decode cX9_add 47 = .ok (.aload_n 0, 1) by decide +kernel) (by rfl) ?_
            obtain ⟨q13, h⟩ := h
            refine go_getR (show decode cX9_add 48 = .ok (.getfield 12, 3) by decide +kernel) fl_X9_12 rfl q13 ?_
            refine go_iload_n (show decode cX9_add 51 = .ok (.iload_n 1, 1) by decide +kernel) (by rfl) ?_
            refine go_aload_n (show decode cX9_add 52 = .ok (.aload_n 0, 1) by decide +kernel) (by rfl) ?_
            refine go_getR (show decode cX9_add 53 = .ok (.getfield 42, 3) by decide +kernel) fl_X9_42 rfl q13 ?_
            refine go_iload (show decode cX9_add 56 = .ok (.iload 6, 2) by decide +kernel) (by rfl) ?_
            obtain ⟨q18, h⟩ := h
            refine go_callV (d2 := d - 1) (M2 := MX2_addRefusal) (n := 3) (ci := 2) (av := [vI a1, vR (sR S8 a0 4), vI a6]) (st := []) (show decode cX9_add 58 = .ok (.invokevirtual 78, 3) by decide +kernel) ml_X9_78 mt_X2_addRefusal min_X2_addRefusal mse_X2_addRefusal (by decide) q18 rfl (Nat.le_of_ble_eq_true rfl) (by omega) (ok_mono h (fun w14 S15 F16 G17 h => ?_))
            obtain ⟨z19, e9, h⟩ := h
            subst e9
            show Go d MX9_add 61 [some (vR a0), some (vI a1), some (vI a2), some (vI a3), some (vI a4), some (vI a5), some (vI a6), none] [vI z19] S15 F16 G17 Q
            refine go_istore (show decode cX9_add 61 = .ok (.istore 7, 2) by decide +kernel) (by decide) ?_
            show Go d MX9_add 63 [some (vR a0), some (vI a1), some (vI a2), some (vI a3), some (vI a4), some (vI a5), some (vI a6), some (vI z19)] [] S15 F16 G17 Q
            refine go_iload (show decode cX9_add 63 = .ok (.iload 7, 2) by decide +kernel) (by rfl) ?_
            obtain ⟨ht, hf⟩ := h
            refine go_ifeq (tgt := 72) (show decode cX9_add 65 = .ok (.ifCond .eq 7, 3) by decide +kernel) (by decide) (fun hc => ?_) (fun hc => ?_)
            · have h := ht hc
              refine go_aload_n (show decode cX9_add 72 = .ok (.aload_n 0, 1) by decide +kernel) (by rfl) ?_
              obtain ⟨q20, h⟩ := h
              refine go_getR (show decode cX9_add 73 = .ok (.getfield 12, 3) by decide +kernel) fl_X9_12 rfl q20 ?_
              refine go_aload_n (show decode cX9_add 76 = .ok (.aload_n 0, 1) by decide +kernel) (by rfl) ?_
              refine go_getR (show decode cX9_add 77 = .ok (.getfield 42, 3) by decide +kernel) fl_X9_42 rfl q20 ?_
              obtain ⟨q25, h⟩ := h
              refine go_callV (d2 := d - 1) (M2 := MX2_plan) (n := 1) (ci := 2) (av := [vR (sR S15 a0 4)]) (st := []) (show decode cX9_add 80 = .ok (.invokevirtual 82, 3) by decide +kernel) ml_X9_82 mt_X2_plan min_X2_plan mse_X2_plan (by decide) q25 rfl (Nat.le_of_ble_eq_true rfl) (by omega) (ok_mono h (fun w21 S22 F23 G24 h => ?_))
              obtain ⟨e9, h⟩ := h
              subst e9
              show Go d MX9_add 83 [some (vR a0), some (vI a1), some (vI a2), some (vI a3), some (vI a4), some (vI a5), some (vI a6), some (vI z19)] [] S22 F23 G24 Q
              refine go_aload_n (show decode cX9_add 83 = .ok (.aload_n 0, 1) by decide +kernel) (by rfl) ?_
              obtain ⟨q26, h⟩ := h
              refine go_getR (show decode cX9_add 84 = .ok (.getfield 12, 3) by decide +kernel) fl_X9_12 rfl q26 ?_
              obtain ⟨q31, h⟩ := h
              refine go_callV (d2 := d - 1) (M2 := MX2_plansTooMany) (n := 0) (ci := 2) (av := []) (st := []) (show decode cX9_add 87 = .ok (.invokevirtual 86, 3) by decide +kernel) ml_X9_86 mt_X2_plansTooMany min_X2_plansTooMany mse_X2_plansTooMany (by decide) q31 rfl (Nat.le_of_ble_eq_true rfl) (by omega) (ok_mono h (fun w27 S28 F29 G30 h => ?_))
              obtain ⟨z32, e9, h⟩ := h
              subst e9
              show Go d MX9_add 90 [some (vR a0), some (vI a1), some (vI a2), some (vI a3), some (vI a4), some (vI a5), some (vI a6), some (vI z19)] [vI z32] S28 F29 G30 Q
              obtain ⟨ht, hf⟩ := h
              refine go_ifeq (tgt := 97) (show decode cX9_add 90 = .ok (.ifCond .eq 7, 3) by decide +kernel) (by decide) (fun hc => ?_) (fun hc => ?_)
              · have h := ht hc
                refine go_aload_n (show decode cX9_add 97 = .ok (.aload_n 0, 1) by decide +kernel) (by rfl) ?_
                obtain ⟨q33, h⟩ := h
                refine go_getR (show decode cX9_add 98 = .ok (.getfield 12, 3) by decide +kernel) fl_X9_12 rfl q33 ?_
                refine go_iload_n (show decode cX9_add 101 = .ok (.iload_n 1, 1) by decide +kernel) (by rfl) ?_
                obtain ⟨q38, h⟩ := h
                refine go_callV (d2 := d - 1) (M2 := MX2_startTrial) (n := 1) (ci := 2) (av := [vI a1]) (st := []) (show decode cX9_add 102 = .ok (.invokevirtual 92, 3) by decide +kernel) ml_X9_92 mt_X2_startTrial min_X2_startTrial mse_X2_startTrial (by decide) q38 rfl (Nat.le_of_ble_eq_true rfl) (by omega) (ok_mono h (fun w34 S35 F36 G37 h => ?_))
                obtain ⟨e9, h⟩ := h
                subst e9
                show Go d MX9_add 105 [some (vR a0), some (vI a1), some (vI a2), some (vI a3), some (vI a4), some (vI a5), some (vI a6), some (vI z19)] [] S35 F36 G37 Q
                refine go_aload_n (show decode cX9_add 105 = .ok (.aload_n 0, 1) by decide +kernel) (by rfl) ?_
                obtain ⟨q39, h⟩ := h
                refine go_getR (show decode cX9_add 106 = .ok (.getfield 12, 3) by decide +kernel) fl_X9_12 rfl q39 ?_
                refine go_aload_n (show decode cX9_add 109 = .ok (.aload_n 0, 1) by decide +kernel) (by rfl) ?_
                refine go_getR (show decode cX9_add 110 = .ok (.getfield 42, 3) by decide +kernel) fl_X9_42 rfl q39 ?_
                refine go_iload (show decode cX9_add 113 = .ok (.iload 6, 2) by decide +kernel) (by rfl) ?_
                refine go_i2l (show decode cX9_add 115 = .ok (.i2l, 1) by decide +kernel) ?_
                obtain ⟨q44, h⟩ := h
                refine go_callV (d2 := d - 1) (M2 := MX2_raise) (n := 2) (ci := 2) (av := [vR (sR S35 a0 4), vJ a6]) (st := []) (show decode cX9_add 116 = .ok (.invokevirtual 96, 3) by decide +kernel) ml_X9_96 mt_X2_raise min_X2_raise mse_X2_raise (by decide) q44 rfl (Nat.le_of_ble_eq_true rfl) (by omega) (ok_mono h (fun w40 S41 F42 G43 h => ?_))
                obtain ⟨e9, h⟩ := h
                subst e9
                show Go d MX9_add 119 [some (vR a0), some (vI a1), some (vI a2), some (vI a3), some (vI a4), some (vI a5), some (vI a6), some (vI z19)] [] S41 F42 G43 Q
                refine go_aload_n (show decode cX9_add 119 = .ok (.aload_n 0, 1) by decide +kernel) (by rfl) ?_
                refine go_iconst (show decode cX9_add 120 = .ok (.iconst 0, 1) by decide +kernel) (by decide) ?_
                refine go_iload_n (show decode cX9_add 121 = .ok (.iload_n 1, 1) by decide +kernel) (by rfl) ?_
                refine go_iload (show decode cX9_add 122 = .ok (.iload 6, 2) by decide +kernel) (by rfl) ?_
                refine go_i2l (show decode cX9_add 124 = .ok (.i2l, 1) by decide +kernel) ?_
                obtain ⟨q49, h⟩ := h
                refine go_callV (d2 := d - 1) (M2 := MX9_keep) (n := 3) (ci := 9) (av := [vI 0, vI a1, vJ a6]) (st := []) (show decode cX9_add 125 = .ok (.invokevirtual 100, 3) by decide +kernel) ml_X9_100 mt_X9_keep min_X9_keep mse_X9_keep (by decide) q49 rfl (Nat.le_of_ble_eq_true rfl) (by omega) (ok_mono h (fun w45 S46 F47 G48 h => ?_))
                obtain ⟨e9, h⟩ := h
                subst e9
                show Go d MX9_add 128 [some (vR a0), some (vI a1), some (vI a2), some (vI a3), some (vI a4), some (vI a5), some (vI a6), some (vI z19)] [] S46 F47 G48 Q
                refine go_aload_n (show decode cX9_add 128 = .ok (.aload_n 0, 1) by decide +kernel) (by rfl) ?_
                obtain ⟨q50, h⟩ := h
                refine go_getR (show decode cX9_add 129 = .ok (.getfield 12, 3) by decide +kernel) fl_X9_12 rfl q50 ?_
                refine go_iload_n (show decode cX9_add 132 = .ok (.iload_n 1, 1) by decide +kernel) (by rfl) ?_
                refine go_aload_n (show decode cX9_add 133 = .ok (.aload_n 0, 1) by decide +kernel) (by rfl) ?_
                refine go_getR (show decode cX9_add 134 = .ok (.getfield 12, 3) by decide +kernel) fl_X9_12 rfl q50 ?_
                obtain ⟨q51, h⟩ := h
                refine go_getR (show decode cX9_add 137 = .ok (.getfield 59, 3) by decide +kernel) fl_X9_59 rfl q51 ?_
                refine go_callV (d2 := d - 1) (M2 := MX2_sumOf) (n := 2) (ci := 2) (av := [vI a1, vR (sR S46 (sR S46 a0 0) 2)]) (st := []) (show decode cX9_add 140 = .ok (.invokevirtual 103, 3) by decide +kernel) ml_X9_103 mt_X2_sumOf min_X2_sumOf mse_X2_sumOf (by decide) q51 rfl (Nat.le_of_ble_eq_true rfl) (by omega) (ok_mono h (fun w52 S53 F54 G55 h => ?_))
                obtain ⟨z56, e9, h⟩ := h
                subst e9
                show Go d MX9_add 143 [some (vR a0), some (vI a1), some (vI a2), some (vI a3), some (vI a4), some (vI a5), some (vI a6), some (vI z19)] [vJ z56] S53 F54 G55 Q
                exact go_lret (show decode cX9_add 143 = .ok (.lreturn, 1) by decide +kernel) rfl h
              · have h := hf hc
                refine go_ldc2 (show decode cX9_add 93 = .ok (.ldc2_w 90, 3) by decide +kernel) lc_X9_90 (by decide) ?_
                exact go_lret (show decode cX9_add 96 = .ok (.lreturn, 1) by decide +kernel) rfl h
            · have h := hf hc
              refine go_iload (show decode cX9_add 68 = .ok (.iload 7, 2) by decide +kernel) (by rfl) ?_
              refine go_i2l (show decode cX9_add 70 = .ok (.i2l, 1) by decide +kernel) ?_
              exact go_lret (show decode cX9_add 71 = .ok (.lreturn, 1) by decide +kernel) rfl h
          · have h := hf hc
            refine go_ldc2 (show decode cX9_add 43 = .ok (.ldc2_w 55, 3) by decide +kernel) lc_X9_55 (by decide) ?_
            exact go_lret (show decode cX9_add 46 = .ok (.lreturn, 1) by decide +kernel) rfl h
    · have h := hf hc
      refine go_ldc2 (show decode cX9_add 20 = .ok (.ldc2_w 74, 3) by decide +kernel) lc_X9_74 (by decide) ?_
      exact go_lret (show decode cX9_add 23 = .ok (.lreturn, 1) by decide +kernel) rfl h
def V_X9_isGood_0 (d : Nat) (S : AS) (F : AF) (G : AG) (Q : AQ) (a0 : Int) : Prop :=
  ((a0 < 0) →
    Q (some (vI 0)) S F G) ∧
  ((¬ a0 < 0) →
    ((3 ≤ a0) →
      Q (some (vI 0)) S F G) ∧
    ((¬ 3 ≤ a0) →
      Q (some (vI 1)) S F G))
theorem R_X9_isGood_0 {d : Nat} {S : AS} {F : AF} {G : AG} {Q : AQ} {a0 : Int} (h : V_X9_isGood_0 d S F G Q a0) : Go d MX9_isGood 0 [some (vI a0)] [] S F G Q := by
  unfold V_X9_isGood_0 at h
  refine go_iload_n (show decode cX9_isGood 0 = .ok (.iload_n 0, 1) by decide +kernel) (by rfl) ?_
  obtain ⟨ht, hf⟩ := h
  refine go_iflt (tgt := 13) (show decode cX9_isGood 1 = .ok (.ifCond .lt 12, 3) by decide +kernel) (by decide) (fun hc => ?_) (fun hc => ?_)
  · have h := ht hc
    refine go_iconst (show decode cX9_isGood 13 = .ok (.iconst 0, 1) by decide +kernel) (by decide) ?_
    exact go_zret (show decode cX9_isGood 14 = .ok (.ireturn, 1) by decide +kernel) rfl (by decide) h
  · have h := hf hc
    refine go_iload_n (show decode cX9_isGood 4 = .ok (.iload_n 0, 1) by decide +kernel) (by rfl) ?_
    refine go_iconst (show decode cX9_isGood 5 = .ok (.iconst 3, 1) by decide +kernel) (by decide) ?_
    obtain ⟨ht, hf⟩ := h
    refine go_icmpge (tgt := 13) (show decode cX9_isGood 6 = .ok (.if_icmp .ge 7, 3) by decide +kernel) (by decide) (fun hc => ?_) (fun hc => ?_)
    · have h := ht hc
      refine go_iconst (show decode cX9_isGood 13 = .ok (.iconst 0, 1) by decide +kernel) (by decide) ?_
      exact go_zret (show decode cX9_isGood 14 = .ok (.ireturn, 1) by decide +kernel) rfl (by decide) h
    · have h := hf hc
      refine go_iconst (show decode cX9_isGood 9 = .ok (.iconst 1, 1) by decide +kernel) (by decide) ?_
      refine go_goto (tgt := 14) (show decode cX9_isGood 10 = .ok (.goto 4, 3) by decide +kernel) (by decide) ?_
      exact go_zret (show decode cX9_isGood 14 = .ok (.ireturn, 1) by decide +kernel) rfl (by decide) h
def V_X9_ask_0 (d : Nat) (S : AS) (F : AF) (G : AG) (Q : AQ) (a0 : Nat) (a1 : Int) (a2 : Int) (a3 : Int) (a4 : Int) : Prop :=
  (sK S a0 = 9) ∧
  (1 ≤ d) ∧
  (sK S (sR S a0 4) = 3) ∧
  Ok (d - 1) MX3_set [vR (sR S a0 4), vI a1, vI a2, vI a3, vI a4] S F G (fun w3 S4 F5 G6 =>
  w3 = none ∧
  (sK S4 a0 = 9) ∧
  (sK S4 (sR S4 a0 0) = 2) ∧
  Ok (d - 1) MX2_holds [vR (sR S4 a0 0), vR (sR S4 a0 4)] S4 F5 G6 (fun w9 S10 F11 G12 =>
  ∃ z14 : Int, w9 = some (vI z14) ∧
  (z14 = 0 ∨ z14 = 1) ∧
  Q (some (vI z14)) S10 F11 G12))
theorem R_X9_ask_0 {d : Nat} {S : AS} {F : AF} {G : AG} {Q : AQ} {a0 : Nat} {a1 : Int} {a2 : Int} {a3 : Int} {a4 : Int} (h : V_X9_ask_0 d S F G Q a0 a1 a2 a3 a4) : Go d MX9_ask 0 [some (vR a0), some (vI a1), some (vI a2), some (vI a3), some (vI a4)] [] S F G Q := by
  unfold V_X9_ask_0 at h
  refine go_aload_n (show decode cX9_ask 0 = .ok (.aload_n 0, 1) by decide +kernel) (by rfl) ?_
  obtain ⟨q1, h⟩ := h
  refine go_getR (show decode cX9_ask 1 = .ok (.getfield 42, 3) by decide +kernel) fl_X9_42 rfl q1 ?_
  refine go_iload_n (show decode cX9_ask 4 = .ok (.iload_n 1, 1) by decide +kernel) (by rfl) ?_
  refine go_iload_n (show decode cX9_ask 5 = .ok (.iload_n 2, 1) by decide +kernel) (by rfl) ?_
  refine go_iload_n (show decode cX9_ask 6 = .ok (.iload_n 3, 1) by decide +kernel) (by rfl) ?_
  refine go_iload (show decode cX9_ask 7 = .ok (.iload 4, 2) by decide +kernel) (by rfl) ?_
  obtain ⟨q2, h⟩ := h
  obtain ⟨q7, h⟩ := h
  refine go_callV (d2 := d - 1) (M2 := MX3_set) (n := 4) (ci := 3) (av := [vI a1, vI a2, vI a3, vI a4]) (st := []) (show decode cX9_ask 9 = .ok (.invokevirtual 150, 3) by decide +kernel) ml_X9_150 mt_X3_set min_X3_set mse_X3_set (by decide) q7 rfl (Nat.le_of_ble_eq_true rfl) (by omega) (ok_mono h (fun w3 S4 F5 G6 h => ?_))
  obtain ⟨e9, h⟩ := h
  subst e9
  show Go d MX9_ask 12 [some (vR a0), some (vI a1), some (vI a2), some (vI a3), some (vI a4)] [] S4 F5 G6 Q
  refine go_aload_n (show decode cX9_ask 12 = .ok (.aload_n 0, 1) by decide +kernel) (by rfl) ?_
  obtain ⟨q8, h⟩ := h
  refine go_getR (show decode cX9_ask 13 = .ok (.getfield 12, 3) by decide +kernel) fl_X9_12 rfl q8 ?_
  refine go_aload_n (show decode cX9_ask 16 = .ok (.aload_n 0, 1) by decide +kernel) (by rfl) ?_
  refine go_getR (show decode cX9_ask 17 = .ok (.getfield 42, 3) by decide +kernel) fl_X9_42 rfl q8 ?_
  obtain ⟨q13, h⟩ := h
  refine go_callV (d2 := d - 1) (M2 := MX2_holds) (n := 1) (ci := 2) (av := [vR (sR S4 a0 4)]) (st := []) (show decode cX9_ask 20 = .ok (.invokevirtual 154, 3) by decide +kernel) ml_X9_154 mt_X2_holds min_X2_holds mse_X2_holds (by decide) q13 rfl (Nat.le_of_ble_eq_true rfl) (by omega) (ok_mono h (fun w9 S10 F11 G12 h => ?_))
  obtain ⟨z14, e9, h⟩ := h
  subst e9
  show Go d MX9_ask 23 [some (vR a0), some (vI a1), some (vI a2), some (vI a3), some (vI a4)] [vI z14] S10 F11 G12 Q
  obtain ⟨q15, h⟩ := h
  exact go_zret (show decode cX9_ask 23 = .ok (.ireturn, 1) by decide +kernel) rfl q15 h
def V_X9_keep_0 (d : Nat) (S : AS) (F : AF) (G : AG) (Q : AQ) (a0 : Nat) (a1 : Int) (a2 : Int) (a3 : Int) : Prop :=
  (sK S a0 = 9) ∧
  (1 ≤ d) ∧
  (sK S (sR S a0 0) = 2) ∧
  Ok (d - 1) MX2_adopt [vR (sR S a0 0), vI a2] S F G (fun w3 S4 F5 G6 =>
  w3 = none ∧
  (sK S4 a0 = 9) ∧
  (sK S4 (sR S4 a0 2) = 6) ∧
  Ok (d - 1) MX6_put [vR (sR S4 a0 2), vI a1, vI a2, vR (sR S4 a0 4), vJ a3] S4 F5 G6 (fun w9 S10 F11 G12 =>
  w9 = none ∧
  Q none S10 F11 G12))
theorem R_X9_keep_0 {d : Nat} {S : AS} {F : AF} {G : AG} {Q : AQ} {a0 : Nat} {a1 : Int} {a2 : Int} {a3 : Int} (h : V_X9_keep_0 d S F G Q a0 a1 a2 a3) : Go d MX9_keep 0 [some (vR a0), some (vI a1), some (vI a2), some (vJ a3), none] [] S F G Q := by
  unfold V_X9_keep_0 at h
  refine go_aload_n (show decode cX9_keep 0 = .ok (.aload_n 0, 1) by decide +kernel) (by rfl) ?_
  obtain ⟨q1, h⟩ := h
  refine go_getR (show decode cX9_keep 1 = .ok (.getfield 12, 3) by decide +kernel) fl_X9_12 rfl q1 ?_
  refine go_iload_n (show decode cX9_keep 4 = .ok (.iload_n 2, 1) by decide +kernel) (by rfl) ?_
  obtain ⟨q2, h⟩ := h
  obtain ⟨q7, h⟩ := h
  refine go_callV (d2 := d - 1) (M2 := MX2_adopt) (n := 1) (ci := 2) (av := [vI a2]) (st := []) (show decode cX9_keep 5 = .ok (.invokevirtual 359, 3) by decide +kernel) ml_X9_359 mt_X2_adopt min_X2_adopt mse_X2_adopt (by decide) q7 rfl (Nat.le_of_ble_eq_true rfl) (by omega) (ok_mono h (fun w3 S4 F5 G6 h => ?_))
  obtain ⟨e9, h⟩ := h
  subst e9
  show Go d MX9_keep 8 [some (vR a0), some (vI a1), some (vI a2), some (vJ a3), none] [] S4 F5 G6 Q
  refine go_aload_n (show decode cX9_keep 8 = .ok (.aload_n 0, 1) by decide +kernel) (by rfl) ?_
  obtain ⟨q8, h⟩ := h
  refine go_getR (show decode cX9_keep 9 = .ok (.getfield 28, 3) by decide +kernel) fl_X9_28 rfl q8 ?_
  refine go_iload_n (show decode cX9_keep 12 = .ok (.iload_n 1, 1) by decide +kernel) (by rfl) ?_
  refine go_iload_n (show decode cX9_keep 13 = .ok (.iload_n 2, 1) by decide +kernel) (by rfl) ?_
  refine go_aload_n (show decode cX9_keep 14 = .ok (.aload_n 0, 1) by decide +kernel) (by rfl) ?_
  refine go_getR (show decode cX9_keep 15 = .ok (.getfield 42, 3) by decide +kernel) fl_X9_42 rfl q8 ?_
  refine go_lload_n (show decode cX9_keep 18 = .ok (.lload_n 3, 1) by decide +kernel) (by rfl) ?_
  obtain ⟨q13, h⟩ := h
  refine go_callV (d2 := d - 1) (M2 := MX6_put) (n := 4) (ci := 6) (av := [vI a1, vI a2, vR (sR S4 a0 4), vJ a3]) (st := []) (show decode cX9_keep 19 = .ok (.invokevirtual 362, 3) by decide +kernel) ml_X9_362 mt_X6_put min_X6_put mse_X6_put (by decide) q13 rfl (Nat.le_of_ble_eq_true rfl) (by omega) (ok_mono h (fun w9 S10 F11 G12 h => ?_))
  obtain ⟨e9, h⟩ := h
  subst e9
  show Go d MX9_keep 22 [some (vR a0), some (vI a1), some (vI a2), some (vJ a3), none] [] S10 F11 G12 Q
  exact go_vret (show decode cX9_keep 22 = .ok (.return_, 1) by decide +kernel) rfl h
def V_X9_pick_0 (d : Nat) (S : AS) (F : AF) (G : AG) (Q : AQ) (a0 : Nat) (a1 : Int) (a2 : Int) (a3 : Int) (a4 : Int) (a5 : Int) (a6 : Int) : Prop :=
  (1 ≤ d) ∧
  Ok (d - 1) MX9_isGood [vI a1] S F G (fun w2 S3 F4 G5 =>
  ∃ z6 : Int, w2 = some (vI z6) ∧
  ((z6 = 0) →
    Q (some (vJ (-2))) S3 F4 G5) ∧
  ((¬ z6 = 0) →
    (sK S3 a0 = 9) ∧
    Ok (d - 1) MX9_ask [vR a0, vI a2, vI a3, vI a4, vI a5] S3 F4 G5 (fun w7 S8 F9 G10 =>
    ∃ z12 : Int, w7 = some (vI z12) ∧
    ((¬ z12 = 0) →
      ((a6 < 1) →
        Q (some (vJ (-3))) S8 F9 G10) ∧
      ((¬ a6 < 1) →
        ((a6 ≤ 3000000000000000000) →
          (sK S8 a0 = 9) ∧
          (sK S8 (sR S8 a0 1) = 7) ∧
          Ok (d - 1) MX7_locate [vR (sR S8 a0 1), vI a1, vI 0, vR (sR S8 a0 4), vJ a6] S8 F9 G10 (fun w14 S15 F16 G17 =>
          ∃ z19 : Int, w14 = some (vI z19) ∧
          ((¬ z19 = 0) →
            (sK S15 a0 = 9) ∧
            (sK S15 (sR S15 a0 1) = 7) ∧
            ∀ x22 : Int, x22 = F16 (sR S15 a0 1) 4 →
            ∀ x23 : Int, x23 = F16 (sR S15 a0 1) 5 →
            (sK S15 (sR S15 a0 0) = 2) ∧
            Ok (d - 1) MX2_plan [vR (sR S15 a0 0), vR (sR S15 a0 4)] S15 F16 G17 (fun w24 S25 F26 G27 =>
            w24 = none ∧
            (sK S25 a0 = 9) ∧
            (sK S25 (sR S25 a0 0) = 2) ∧
            (sK S25 (sR S25 (sR S25 a0 0) 0) = 0) ∧
            Ok (d - 1) MX0_planSpan [vR (sR S25 (sR S25 a0 0) 0), vI x22, vI x22] S25 F26 G27 (fun w31 S32 F33 G34 =>
            w31 = none ∧
            (sK S32 a0 = 9) ∧
            (sK S32 (sR S32 a0 0) = 2) ∧
            (sK S32 (sR S32 (sR S32 a0 0) 1) = 0) ∧
            Ok (d - 1) MX0_planSpan [vR (sR S32 (sR S32 a0 0) 1), vI x23, vI x23] S32 F33 G34 (fun w38 S39 F40 G41 =>
            w38 = none ∧
            (sK S39 a0 = 9) ∧
            (sK S39 (sR S39 a0 0) = 2) ∧
            Ok (d - 1) MX2_plansTooMany [vR (sR S39 a0 0)] S39 F40 G41 (fun w44 S45 F46 G47 =>
            ∃ z49 : Int, w44 = some (vI z49) ∧
            ((z49 = 0) →
              (sK S45 a0 = 9) ∧
              (sK S45 (sR S45 a0 0) = 2) ∧
              Ok (d - 1) MX2_startTrial [vR (sR S45 a0 0), vI a1] S45 F46 G47 (fun w51 S52 F53 G54 =>
              w51 = none ∧
              (sK S52 a0 = 9) ∧
              (r32 (x23 - 1)) ∧
              (sK S52 (sR S52 a0 0) = 2) ∧
              Ok (d - 1) MX2_fill [vR (sR S52 a0 0), vI a2, vI a3, vI a4, vI (x23 - 1), vJ 0] S52 F53 G54 (fun w58 S59 F60 G61 =>
              w58 = none ∧
              (sK S59 a0 = 9) ∧
              (r32 (x22 - 1)) ∧
              (sK S59 (sR S59 a0 0) = 2) ∧
              Ok (d - 1) MX2_fill [vR (sR S59 a0 0), vI a2, vI x23, vI (x22 - 1), vI x23, vJ 0] S59 F60 G61 (fun w65 S66 F67 G68 =>
              w65 = none ∧
              (sK S66 a0 = 9) ∧
              (sK S66 (sR S66 a0 1) = 7) ∧
              (sK S66 (sR S66 a0 0) = 2) ∧
              Ok (d - 1) MX2_fill [vR (sR S66 a0 0), vI x22, vI x23, vI x22, vI x23, vJ (F67 (sR S66 a0 1) 6)] S66 F67 G68 (fun w72 S73 F74 G75 =>
              w72 = none ∧
              (sK S73 a0 = 9) ∧
              Ok (d - 1) MX9_keep [vR a0, vI 1, vI a1, vJ a6] S73 F74 G75 (fun w77 S78 F79 G80 =>
              w77 = none ∧
              (sK S78 a0 = 9) ∧
              (sK S78 (sR S78 a0 0) = 2) ∧
              Ok (d - 1) MX2_number [vR (sR S78 a0 0), vI x22, vI x23] S78 F79 G80 (fun w83 S84 F85 G86 =>
              ∃ z88 : Int, w83 = some (vJ z88) ∧
              Q (some (vJ z88)) S84 F85 G86))))))) ∧
            ((¬ z49 = 0) →
              Q (some (vJ (-4))) S45 F46 G47)))))) ∧
          ((z19 = 0) →
            Q (some (vJ (-5))) S15 F16 G17))) ∧
        ((¬ a6 ≤ 3000000000000000000) →
          Q (some (vJ (-3))) S8 F9 G10))) ∧
    ((z12 = 0) →
      Q (some (vJ (-2))) S8 F9 G10))))
theorem R_X9_pick_0 {d : Nat} {S : AS} {F : AF} {G : AG} {Q : AQ} {a0 : Nat} {a1 : Int} {a2 : Int} {a3 : Int} {a4 : Int} {a5 : Int} {a6 : Int} (h : V_X9_pick_0 d S F G Q a0 a1 a2 a3 a4 a5 a6) : Go d MX9_pick 0 [some (vR a0), some (vI a1), some (vI a2), some (vI a3), some (vI a4), some (vI a5), some (vJ a6), none, none, none] [] S F G Q := by
  unfold V_X9_pick_0 at h
  refine go_iload_n (show decode cX9_pick 0 = .ok (.iload_n 1, 1) by decide +kernel) (by rfl) ?_
  obtain ⟨q1, h⟩ := h
  refine go_callS (d2 := d - 1) (M2 := MX9_isGood) (n := 1) (av := [vI a1]) (st := []) (show decode cX9_pick 1 = .ok (.invokestatic 66, 3) by decide +kernel) ml_X9_66 mt_X9_isGood mst_X9_isGood rfl (Nat.le_of_ble_eq_true rfl) (by omega) (ok_mono h (fun w2 S3 F4 G5 h => ?_))
  obtain ⟨z6, e9, h⟩ := h
  subst e9
  show Go d MX9_pick 4 [some (vR a0), some (vI a1), some (vI a2), some (vI a3), some (vI a4), some (vI a5), some (vJ a6), none, none, none] [vI z6] S3 F4 G5 Q
  obtain ⟨ht, hf⟩ := h
  refine go_ifeq (tgt := 20) (show decode cX9_pick 4 = .ok (.ifCond .eq 16, 3) by decide +kernel) (by decide) (fun hc => ?_) (fun hc => ?_)
  · have h := ht hc
    refine go_ldc2 (show decode cX9_pick 20 = .ok (.ldc2_w 74, 3) by decide +kernel) lc_X9_74 (by decide) ?_
    exact go_lret (show decode cX9_pick 23 = .ok (.lreturn, 1) by decide +kernel) rfl h
  · have h := hf hc
    refine go_aload_n (show decode cX9_pick 7 = .ok (.aload_n 0, 1) by decide +kernel) (by rfl) ?_
    refine go_iload_n (show decode cX9_pick 8 = .ok (.iload_n 2, 1) by decide +kernel) (by rfl) ?_
    refine go_iload_n (show decode cX9_pick 9 = .ok (.iload_n 3, 1) by decide +kernel) (by rfl) ?_
    refine go_iload (show decode cX9_pick 10 = .ok (.iload 4, 2) by decide +kernel) (by rfl) ?_
    refine go_iload (show decode cX9_pick 12 = .ok (.iload 5, 2) by decide +kernel) (by rfl) ?_
    obtain ⟨q11, h⟩ := h
    refine go_callV (d2 := d - 1) (M2 := MX9_ask) (n := 4) (ci := 9) (av := [vI a2, vI a3, vI a4, vI a5]) (st := []) (show decode cX9_pick 14 = .ok (.invokevirtual 70, 3) by decide +kernel) ml_X9_70 mt_X9_ask min_X9_ask mse_X9_ask (by decide) q11 rfl (Nat.le_of_ble_eq_true rfl) (by omega) (ok_mono h (fun w7 S8 F9 G10 h => ?_))
    obtain ⟨z12, e9, h⟩ := h
    subst e9
    show Go d MX9_pick 17 [some (vR a0), some (vI a1), some (vI a2), some (vI a3), some (vI a4), some (vI a5), some (vJ a6), none, none, none] [vI z12] S8 F9 G10 Q
    obtain ⟨ht, hf⟩ := h
    refine go_ifne (tgt := 24) (show decode cX9_pick 17 = .ok (.ifCond .ne 7, 3) by decide +kernel) (by decide) (fun hc => ?_) (fun hc => ?_)
    · have h := ht hc
      refine go_lload (show decode cX9_pick 24 = .ok (.lload 6, 2) by decide +kernel) (by rfl) ?_
      refine go_lconst (n := 1) (show decode cX9_pick 26 = .ok (.lconst 1, 1) by decide +kernel) ?_
      show Go d MX9_pick 27 [some (vR a0), some (vI a1), some (vI a2), some (vI a3), some (vI a4), some (vI a5), some (vJ a6), none, none, none] [vJ 1, vJ a6] S8 F9 G10 Q
      obtain ⟨ht, hf⟩ := h
      refine go_jlt (tgt := 40) (show decode cX9_pick 27 = .ok (.lcmp, 1) by decide +kernel) (show decode cX9_pick 28 = .ok (.ifCond .lt 12, 3) by decide +kernel) (by decide) (fun hc => ?_) (fun hc => ?_)
      · have h := ht hc
        refine go_ldc2 (show decode cX9_pick 40 = .ok (.ldc2_w 55, 3) by decide +kernel) lc_X9_55 (by decide) ?_
        exact go_lret (show decode cX9_pick 43 = .ok (.lreturn, 1) by decide +kernel) rfl h
      · have h := hf hc
        refine go_lload (show decode cX9_pick 31 = .ok (.lload 6, 2) by decide +kernel) (by rfl) ?_
        refine go_ldc2 (show decode cX9_pick 33 = .ok (.ldc2_w 107, 3) by decide +kernel) lc_X9_107 (by decide) ?_
        obtain ⟨ht, hf⟩ := h
        refine go_jle (tgt := 44) (show decode cX9_pick 36 = .ok (.lcmp, 1) by decide +kernel) (show decode cX9_pick 37 = .ok (.ifCond .le 7, 3) by decide +kernel) (by decide) (fun hc => ?_) (fun hc => ?_)
        · have h := ht hc
          refine go_aload_n (show decode cX9_pick 44 = .ok (.aload_n 0, 1) by decide +kernel) (by rfl) ?_
          obtain ⟨q13, h⟩ := h
          refine go_getR (show decode cX9_pick 45 = .ok (.getfield 21, 3) by decide +kernel) fl_X9_21 rfl q13 ?_
          refine go_iload_n (show decode cX9_pick 48 = .ok (.iload_n 1, 1) by decide +kernel) (by rfl) ?_
          refine go_iconst (show decode cX9_pick 49 = .ok (.iconst 0, 1) by decide +kernel) (by decide) ?_
          refine go_aload_n (show decode cX9_pick 50 = .ok (.aload_n 0, 1) by decide +kernel) (by rfl) ?_
          refine go_getR (show decode cX9_pick 51 = .ok (.getfield 42, 3) by decide +kernel) fl_X9_42 rfl q13 ?_
          refine go_lload (show decode cX9_pick 54 = .ok (.lload 6, 2) by decide +kernel) (by rfl) ?_
          obtain ⟨q18, h⟩ := h
          refine go_callV (d2 := d - 1) (M2 := MX7_locate) (n := 4) (ci := 7) (av := [vI a1, vI 0, vR (sR S8 a0 4), vJ a6]) (st := []) (show decode cX9_pick 56 = .ok (.invokevirtual 109, 3) by decide +kernel) ml_X9_109 mt_X7_locate min_X7_locate mse_X7_locate (by decide) q18 rfl (Nat.le_of_ble_eq_true rfl) (by omega) (ok_mono h (fun w14 S15 F16 G17 h => ?_))
          obtain ⟨z19, e9, h⟩ := h
          subst e9
          show Go d MX9_pick 59 [some (vR a0), some (vI a1), some (vI a2), some (vI a3), some (vI a4), some (vI a5), some (vJ a6), none, none, none] [vI z19] S15 F16 G17 Q
          obtain ⟨ht, hf⟩ := h
          refine go_ifne (tgt := 66) (show decode cX9_pick 59 = .ok (.ifCond .ne 7, 3) by decide +kernel) (by decide) (fun hc => ?_) (fun hc => ?_)
          · have h := ht hc
            refine go_aload_n (show decode cX9_pick 66 = .ok (.aload_n 0, 1) by decide +kernel) (by rfl) ?_
            obtain ⟨q20, h⟩ := h
            refine go_getR (show decode cX9_pick 67 = .ok (.getfield 21, 3) by decide +kernel) fl_X9_21 rfl q20 ?_
            obtain ⟨q21, h⟩ := h
            refine go_getI (show decode cX9_pick 70 = .ok (.getfield 115, 3) by decide +kernel) fl_X9_115 (Or.inl rfl) q21 ?_
            obtain ⟨x22, x22e⟩ : ∃ x22 : Int, x22 = F16 (sR S15 a0 1) 4 := ⟨_, rfl⟩
            have h := h x22 x22e
            rw [← x22e]
            refine go_istore (show decode cX9_pick 73 = .ok (.istore 8, 2) by decide +kernel) (by decide) ?_
            show Go d MX9_pick 75 [some (vR a0), some (vI a1), some (vI a2), some (vI a3), some (vI a4), some (vI a5), some (vJ a6), none, some (vI x22), none] [] S15 F16 G17 Q
            refine go_aload_n (show decode cX9_pick 75 = .ok (.aload_n 0, 1) by decide +kernel) (by rfl) ?_
            refine go_getR (show decode cX9_pick 76 = .ok (.getfield 21, 3) by decide +kernel) fl_X9_21 rfl q20 ?_
            refine go_getI (show decode cX9_pick 79 = .ok (.getfield 119, 3) by decide +kernel) fl_X9_119 (Or.inl rfl) q21 ?_
            obtain ⟨x23, x23e⟩ : ∃ x23 : Int, x23 = F16 (sR S15 a0 1) 5 := ⟨_, rfl⟩
            have h := h x23 x23e
            rw [← x23e]
            refine go_istore (show decode cX9_pick 82 = .ok (.istore 9, 2) by decide +kernel) (by decide) ?_
            show Go d MX9_pick 84 [some (vR a0), some (vI a1), some (vI a2), some (vI a3), some (vI a4), some (vI a5), some (vJ a6), none, some (vI x22), some (vI x23)] [] S15 F16 G17 Q
            refine go_aload_n (show decode cX9_pick 84 = .ok (.aload_n 0, 1) by decide +kernel) (by rfl) ?_
            refine go_getR (show decode cX9_pick 85 = .ok (.getfield 12, 3) by decide +kernel) fl_X9_12 rfl q20 ?_
            refine go_aload_n (show decode cX9_pick 88 = .ok (.aload_n 0, 1) by decide +kernel) (by rfl) ?_
            refine go_getR (show decode cX9_pick 89 = .ok (.getfield 42, 3) by decide +kernel) fl_X9_42 rfl q20 ?_
            obtain ⟨q28, h⟩ := h
            refine go_callV (d2 := d - 1) (M2 := MX2_plan) (n := 1) (ci := 2) (av := [vR (sR S15 a0 4)]) (st := []) (show decode cX9_pick 92 = .ok (.invokevirtual 82, 3) by decide +kernel) ml_X9_82 mt_X2_plan min_X2_plan mse_X2_plan (by decide) q28 rfl (Nat.le_of_ble_eq_true rfl) (by omega) (ok_mono h (fun w24 S25 F26 G27 h => ?_))
            obtain ⟨e9, h⟩ := h
            subst e9
            show Go d MX9_pick 95 [some (vR a0), some (vI a1), some (vI a2), some (vI a3), some (vI a4), some (vI a5), some (vJ a6), none, some (vI x22), some (vI x23)] [] S25 F26 G27 Q
            refine go_aload_n (show decode cX9_pick 95 = .ok (.aload_n 0, 1) by decide +kernel) (by rfl) ?_
            obtain ⟨q29, h⟩ := h
            refine go_getR (show decode cX9_pick 96 = .ok (.getfield 12, 3) by decide +kernel) fl_X9_12 rfl q29 ?_
            obtain ⟨q30, h⟩ := h
            refine go_getR (show decode cX9_pick 99 = .ok (.getfield 122, 3) by decide +kernel) fl_X9_122 rfl q30 ?_
            refine go_iload (show decode cX9_pick 102 = .ok (.iload 8, 2) by decide +kernel) (by rfl) ?_
            refine go_iload (show decode cX9_pick 104 = .ok (.iload 8, 2) by decide +kernel) (by rfl) ?_
            obtain ⟨q35, h⟩ := h
            refine go_callV (d2 := d - 1) (M2 := MX0_planSpan) (n := 2) (ci := 0) (av := [vI x22, vI x22]) (st := []) (show decode cX9_pick 106 = .ok (.invokevirtual 126, 3) by decide +kernel) ml_X9_126 mt_X0_planSpan min_X0_planSpan mse_X0_planSpan (by decide) q35 rfl (Nat.le_of_ble_eq_true rfl) (by omega) (ok_mono h (fun w31 S32 F33 G34 h => ?_))
            obtain ⟨e9, h⟩ := h
            subst e9
            show Go d MX9_pick 109 [some (vR a0), some (vI a1), some (vI a2), some (vI a3), some (vI a4), some (vI a5), some (vJ a6), none, some (vI x22), some (vI x23)] [] S32 F33 G34 Q
            refine go_aload_n (show decode cX9_pick 109 = .ok (.aload_n 0, 1) by decide +kernel) (by rfl) ?_
            obtain ⟨q36, h⟩ := h
            refine go_getR (show decode cX9_pick 110 = .ok (.getfield 12, 3) by decide +kernel) fl_X9_12 rfl q36 ?_
            obtain ⟨q37, h⟩ := h
            refine go_getR (show decode cX9_pick 113 = .ok (.getfield 132, 3) by decide +kernel) fl_X9_132 rfl q37 ?_
            refine go_iload (show decode cX9_pick 116 = .ok (.iload 9, 2) by decide +kernel) (by rfl) ?_
            refine go_iload (show decode cX9_pick 118 = .ok (.iload 9, 2) by decide +kernel) (by rfl) ?_
            obtain ⟨q42, h⟩ := h
            refine go_callV (d2 := d - 1) (M2 := MX0_planSpan) (n := 2) (ci := 0) (av := [vI x23, vI x23]) (st := []) (show decode cX9_pick 120 = .ok (.invokevirtual 126, 3) by decide +kernel) ml_X9_126 mt_X0_planSpan min_X0_planSpan mse_X0_planSpan (by decide) q42 rfl (Nat.le_of_ble_eq_true rfl) (by omega) (ok_mono h (fun w38 S39 F40 G41 h => ?_))
            obtain ⟨e9, h⟩ := h
            subst e9
            show Go d MX9_pick 123 [some (vR a0), some (vI a1), some (vI a2), some (vI a3), some (vI a4), some (vI a5), some (vJ a6), none, some (vI x22), some (vI x23)] [] S39 F40 G41 Q
            refine go_aload_n (show decode cX9_pick 123 = .ok (.aload_n 0, 1) by decide +kernel) (by rfl) ?_
            obtain ⟨q43, h⟩ := h
            refine go_getR (show decode cX9_pick 124 = .ok (.getfield 12, 3) by decide +kernel) fl_X9_12 rfl q43 ?_
            obtain ⟨q48, h⟩ := h
            refine go_callV (d2 := d - 1) (M2 := MX2_plansTooMany) (n := 0) (ci := 2) (av := []) (st := []) (show decode cX9_pick 127 = .ok (.invokevirtual 86, 3) by decide +kernel) ml_X9_86 mt_X2_plansTooMany min_X2_plansTooMany mse_X2_plansTooMany (by decide) q48 rfl (Nat.le_of_ble_eq_true rfl) (by omega) (ok_mono h (fun w44 S45 F46 G47 h => ?_))
            obtain ⟨z49, e9, h⟩ := h
            subst e9
            show Go d MX9_pick 130 [some (vR a0), some (vI a1), some (vI a2), some (vI a3), some (vI a4), some (vI a5), some (vJ a6), none, some (vI x22), some (vI x23)] [vI z49] S45 F46 G47 Q
            obtain ⟨ht, hf⟩ := h
            refine go_ifeq (tgt := 137) (show decode cX9_pick 130 = .ok (.ifCond .eq 7, 3) by decide +kernel) (by decide) (fun hc => ?_) (fun hc => ?_)
            · have h := ht hc
              refine go_aload_n (show decode cX9_pick 137 = .ok (.aload_n 0, 1) by decide +kernel) (by rfl) ?_
              obtain ⟨q50, h⟩ := h
              refine go_getR (show decode cX9_pick 138 = .ok (.getfield 12, 3) by decide +kernel) fl_X9_12 rfl q50 ?_
              refine go_iload_n (show decode cX9_pick 141 = .ok (.iload_n 1, 1) by decide +kernel) (by rfl) ?_
              obtain ⟨q55, h⟩ := h
              refine go_callV (d2 := d - 1) (M2 := MX2_startTrial) (n := 1) (ci := 2) (av := [vI a1]) (st := []) (show decode cX9_pick 142 = .ok (.invokevirtual 92, 3) by decide +kernel) ml_X9_92 mt_X2_startTrial min_X2_startTrial mse_X2_startTrial (by decide) q55 rfl (Nat.le_of_ble_eq_true rfl) (by omega) (ok_mono h (fun w51 S52 F53 G54 h => ?_))
              obtain ⟨e9, h⟩ := h
              subst e9
              show Go d MX9_pick 145 [some (vR a0), some (vI a1), some (vI a2), some (vI a3), some (vI a4), some (vI a5), some (vJ a6), none, some (vI x22), some (vI x23)] [] S52 F53 G54 Q
              refine go_aload_n (show decode cX9_pick 145 = .ok (.aload_n 0, 1) by decide +kernel) (by rfl) ?_
              obtain ⟨q56, h⟩ := h
              refine go_getR (show decode cX9_pick 146 = .ok (.getfield 12, 3) by decide +kernel) fl_X9_12 rfl q56 ?_
              refine go_iload_n (show decode cX9_pick 149 = .ok (.iload_n 2, 1) by decide +kernel) (by rfl) ?_
              refine go_iload_n (show decode cX9_pick 150 = .ok (.iload_n 3, 1) by decide +kernel) (by rfl) ?_
              refine go_iload (show decode cX9_pick 151 = .ok (.iload 4, 2) by decide +kernel) (by rfl) ?_
              refine go_iload (show decode cX9_pick 153 = .ok (.iload 9, 2) by decide +kernel) (by rfl) ?_
              refine go_iconst (show decode cX9_pick 155 = .ok (.iconst 1, 1) by decide +kernel) (by decide) ?_
              obtain ⟨q57, h⟩ := h
              refine go_isub (show decode cX9_pick 156 = .ok (.isub, 1) by decide +kernel) q57 ?_
              refine go_lconst (n := 0) (show decode cX9_pick 157 = .ok (.lconst 0, 1) by decide +kernel) ?_
              show Go d MX9_pick 158 [some (vR a0), some (vI a1), some (vI a2), some (vI a3), some (vI a4), some (vI a5), some (vJ a6), none, some (vI x22), some (vI x23)] [vJ 0, vI (x23 - 1), vI a4, vI a3, vI a2, vR (sR S52 a0 0)] S52 F53 G54 Q
              obtain ⟨q62, h⟩ := h
              refine go_callV (d2 := d - 1) (M2 := MX2_fill) (n := 5) (ci := 2) (av := [vI a2, vI a3, vI a4, vI (x23 - 1), vJ 0]) (st := []) (show decode cX9_pick 158 = .ok (.invokevirtual 135, 3) by decide +kernel) ml_X9_135 mt_X2_fill min_X2_fill mse_X2_fill (by decide) q62 rfl (Nat.le_of_ble_eq_true rfl) (by omega) (ok_mono h (fun w58 S59 F60 G61 h => ?_))
              obtain ⟨e9, h⟩ := h
              subst e9
              show Go d MX9_pick 161 [some (vR a0), some (vI a1), some (vI a2), some (vI a3), some (vI a4), some (vI a5), some (vJ a6), none, some (vI x22), some (vI x23)] [] S59 F60 G61 Q
              refine go_aload_n (show decode cX9_pick 161 = .ok (.aload_n 0, 1) by decide +kernel) (by rfl) ?_
              obtain ⟨q63, h⟩ := h
              refine go_getR (show decode cX9_pick 162 = .ok (.getfield 12, 3) by decide +kernel) fl_X9_12 rfl q63 ?_
              refine go_iload_n (show decode cX9_pick 165 = .ok (.iload_n 2, 1) by decide +kernel) (by rfl) ?_
              refine go_iload (show decode cX9_pick 166 = .ok (.iload 9, 2) by decide +kernel) (by rfl) ?_
              refine go_iload (show decode cX9_pick 168 = .ok (.iload 8, 2) by decide +kernel) (by rfl) ?_
              refine go_iconst (show decode cX9_pick 170 = .ok (.iconst 1, 1) by decide +kernel) (by decide) ?_
              obtain ⟨q64, h⟩ := h
              refine go_isub (show decode cX9_pick 171 = .ok (.isub, 1) by decide +kernel) q64 ?_
              refine go_iload (show decode cX9_pick 172 = .ok (.iload 9, 2) by decide +kernel) (by rfl) ?_
              refine go_lconst (n := 0) (show decode cX9_pick 174 = .ok (.lconst 0, 1) by decide +kernel) ?_
              show Go d MX9_pick 175 [some (vR a0), some (vI a1), some (vI a2), some (vI a3), some (vI a4), some (vI a5), some (vJ a6), none, some (vI x22), some (vI x23)] [vJ 0, vI x23, vI (x22 - 1), vI x23, vI a2, vR (sR S59 a0 0)] S59 F60 G61 Q
              obtain ⟨q69, h⟩ := h
              refine go_callV (d2 := d - 1) (M2 := MX2_fill) (n := 5) (ci := 2) (av := [vI a2, vI x23, vI (x22 - 1), vI x23, vJ 0]) (st := []) (show decode cX9_pick 175 = .ok (.invokevirtual 135, 3) by decide +kernel) ml_X9_135 mt_X2_fill min_X2_fill mse_X2_fill (by decide) q69 rfl (Nat.le_of_ble_eq_true rfl) (by omega) (ok_mono h (fun w65 S66 F67 G68 h => ?_))
              obtain ⟨e9, h⟩ := h
              subst e9
              show Go d MX9_pick 178 [some (vR a0), some (vI a1), some (vI a2), some (vI a3), some (vI a4), some (vI a5), some (vJ a6), none, some (vI x22), some (vI x23)] [] S66 F67 G68 Q
              refine go_aload_n (show decode cX9_pick 178 = .ok (.aload_n 0, 1) by decide +kernel) (by rfl) ?_
              obtain ⟨q70, h⟩ := h
              refine go_getR (show decode cX9_pick 179 = .ok (.getfield 12, 3) by decide +kernel) fl_X9_12 rfl q70 ?_
              refine go_iload (show decode cX9_pick 182 = .ok (.iload 8, 2) by decide +kernel) (by rfl) ?_
              refine go_iload (show decode cX9_pick 184 = .ok (.iload 9, 2) by decide +kernel) (by rfl) ?_
              refine go_iload (show decode cX9_pick 186 = .ok (.iload 8, 2) by decide +kernel) (by rfl) ?_
              refine go_iload (show decode cX9_pick 188 = .ok (.iload 9, 2) by decide +kernel) (by rfl) ?_
              refine go_aload_n (show decode cX9_pick 190 = .ok (.aload_n 0, 1) by decide +kernel) (by rfl) ?_
              refine go_getR (show decode cX9_pick 191 = .ok (.getfield 21, 3) by decide +kernel) fl_X9_21 rfl q70 ?_
              obtain ⟨q71, h⟩ := h
              refine go_getJ (show decode cX9_pick 194 = .ok (.getfield 139, 3) by decide +kernel) fl_X9_139 rfl q71 ?_
              obtain ⟨q76, h⟩ := h
              refine go_callV (d2 := d - 1) (M2 := MX2_fill) (n := 5) (ci := 2) (av := [vI x22, vI x23, vI x22, vI x23, vJ (F67 (sR S66 a0 1) 6)]) (st := []) (show decode cX9_pick 197 = .ok (.invokevirtual 135, 3) by decide +kernel) ml_X9_135 mt_X2_fill min_X2_fill mse_X2_fill (by decide) q76 rfl (Nat.le_of_ble_eq_true rfl) (by omega) (ok_mono h (fun w72 S73 F74 G75 h => ?_))
              obtain ⟨e9, h⟩ := h
              subst e9
              show Go d MX9_pick 200 [some (vR a0), some (vI a1), some (vI a2), some (vI a3), some (vI a4), some (vI a5), some (vJ a6), none, some (vI x22), some (vI x23)] [] S73 F74 G75 Q
              refine go_aload_n (show decode cX9_pick 200 = .ok (.aload_n 0, 1) by decide +kernel) (by rfl) ?_
              refine go_iconst (show decode cX9_pick 201 = .ok (.iconst 1, 1) by decide +kernel) (by decide) ?_
              refine go_iload_n (show decode cX9_pick 202 = .ok (.iload_n 1, 1) by decide +kernel) (by rfl) ?_
              refine go_lload (show decode cX9_pick 203 = .ok (.lload 6, 2) by decide +kernel) (by rfl) ?_
              obtain ⟨q81, h⟩ := h
              refine go_callV (d2 := d - 1) (M2 := MX9_keep) (n := 3) (ci := 9) (av := [vI 1, vI a1, vJ a6]) (st := []) (show decode cX9_pick 205 = .ok (.invokevirtual 100, 3) by decide +kernel) ml_X9_100 mt_X9_keep min_X9_keep mse_X9_keep (by decide) q81 rfl (Nat.le_of_ble_eq_true rfl) (by omega) (ok_mono h (fun w77 S78 F79 G80 h => ?_))
              obtain ⟨e9, h⟩ := h
              subst e9
              show Go d MX9_pick 208 [some (vR a0), some (vI a1), some (vI a2), some (vI a3), some (vI a4), some (vI a5), some (vJ a6), none, some (vI x22), some (vI x23)] [] S78 F79 G80 Q
              refine go_aload_n (show decode cX9_pick 208 = .ok (.aload_n 0, 1) by decide +kernel) (by rfl) ?_
              obtain ⟨q82, h⟩ := h
              refine go_getR (show decode cX9_pick 209 = .ok (.getfield 12, 3) by decide +kernel) fl_X9_12 rfl q82 ?_
              refine go_iload (show decode cX9_pick 212 = .ok (.iload 8, 2) by decide +kernel) (by rfl) ?_
              refine go_iload (show decode cX9_pick 214 = .ok (.iload 9, 2) by decide +kernel) (by rfl) ?_
              obtain ⟨q87, h⟩ := h
              refine go_callV (d2 := d - 1) (M2 := MX2_number) (n := 2) (ci := 2) (av := [vI x22, vI x23]) (st := []) (show decode cX9_pick 216 = .ok (.invokevirtual 143, 3) by decide +kernel) ml_X9_143 mt_X2_number min_X2_number mse_X2_number (by decide) q87 rfl (Nat.le_of_ble_eq_true rfl) (by omega) (ok_mono h (fun w83 S84 F85 G86 h => ?_))
              obtain ⟨z88, e9, h⟩ := h
              subst e9
              show Go d MX9_pick 219 [some (vR a0), some (vI a1), some (vI a2), some (vI a3), some (vI a4), some (vI a5), some (vJ a6), none, some (vI x22), some (vI x23)] [vJ z88] S84 F85 G86 Q
              exact go_lret (show decode cX9_pick 219 = .ok (.lreturn, 1) by decide +kernel) rfl h
            · have h := hf hc
              refine go_ldc2 (show decode cX9_pick 133 = .ok (.ldc2_w 90, 3) by decide +kernel) lc_X9_90 (by decide) ?_
              exact go_lret (show decode cX9_pick 136 = .ok (.lreturn, 1) by decide +kernel) rfl h
          · have h := hf hc
            refine go_ldc2 (show decode cX9_pick 62 = .ok (.ldc2_w 113, 3) by decide +kernel) lc_X9_113 (by decide) ?_
            exact go_lret (show decode cX9_pick 65 = .ok (.lreturn, 1) by decide +kernel) rfl h
        · have h := hf hc
          refine go_ldc2 (show decode cX9_pick 40 = .ok (.ldc2_w 55, 3) by decide +kernel) lc_X9_55 (by decide) ?_
          exact go_lret (show decode cX9_pick 43 = .ok (.lreturn, 1) by decide +kernel) rfl h
    · have h := hf hc
      refine go_ldc2 (show decode cX9_pick 20 = .ok (.ldc2_w 74, 3) by decide +kernel) lc_X9_74 (by decide) ?_
      exact go_lret (show decode cX9_pick 23 = .ok (.lreturn, 1) by decide +kernel) rfl h
def V_X9_move_54 (d : Nat) (S : AS) (F : AF) (G : AG) (Q : AQ) (a0 : Nat) (a1 : Int) (a2 : Int) (a3 : Int) (a4 : Int) (a5 : Int) (a6 : Int) (a7 : Int) : Prop :=
  (sK S a0 = 9) ∧
  (r32 (a2 + a6)) ∧
  (r32 (a3 + a7)) ∧
  (r32 (a4 + a6)) ∧
  (r32 (a5 + a7)) ∧
  (1 ≤ d) ∧
  (sK S (sR S a0 5) = 3) ∧
  Ok (d - 1) MX3_set [vR (sR S a0 5), vI (a2 + a6), vI (a3 + a7), vI (a4 + a6), vI (a5 + a7)] S F G (fun w7 S8 F9 G10 =>
  w7 = none ∧
  (sK S8 a0 = 9) ∧
  (sK S8 (sR S8 a0 0) = 2) ∧
  Ok (d - 1) MX2_holds [vR (sR S8 a0 0), vR (sR S8 a0 5)] S8 F9 G10 (fun w13 S14 F15 G16 =>
  ∃ z18 : Int, w13 = some (vI z18) ∧
  ((¬ z18 = 0) →
    (sK S14 a0 = 9) ∧
    (sK S14 (sR S14 a0 0) = 2) ∧
    Ok (d - 1) MX2_plan [vR (sR S14 a0 0), vR (sR S14 a0 4)] S14 F15 G16 (fun w20 S21 F22 G23 =>
    w20 = none ∧
    (sK S21 a0 = 9) ∧
    (sK S21 (sR S21 a0 0) = 2) ∧
    Ok (d - 1) MX2_planMore [vR (sR S21 a0 0), vR (sR S21 a0 5)] S21 F22 G23 (fun w26 S27 F28 G29 =>
    w26 = none ∧
    (sK S27 a0 = 9) ∧
    (sK S27 (sR S27 a0 0) = 2) ∧
    (sK S27 (sR S27 (sR S27 a0 0) 0) = 0) ∧
    Ok (d - 1) MX0_planShifted [vR (sR S27 (sR S27 a0 0) 0), vI a2, vI a4, vI a6] S27 F28 G29 (fun w33 S34 F35 G36 =>
    w33 = none ∧
    (sK S34 a0 = 9) ∧
    (sK S34 (sR S34 a0 0) = 2) ∧
    (sK S34 (sR S34 (sR S34 a0 0) 1) = 0) ∧
    Ok (d - 1) MX0_planShifted [vR (sR S34 (sR S34 a0 0) 1), vI a3, vI a5, vI a7] S34 F35 G36 (fun w40 S41 F42 G43 =>
    w40 = none ∧
    (sK S41 a0 = 9) ∧
    (sK S41 (sR S41 a0 0) = 2) ∧
    Ok (d - 1) MX2_plansTooMany [vR (sR S41 a0 0)] S41 F42 G43 (fun w46 S47 F48 G49 =>
    ∃ z51 : Int, w46 = some (vI z51) ∧
    ((z51 = 0) →
      (sK S47 a0 = 9) ∧
      (sK S47 (sR S47 a0 0) = 2) ∧
      Ok (d - 1) MX2_sumOf [vR (sR S47 a0 0), vI a1, vR (sR S47 a0 4)] S47 F48 G49 (fun w53 S54 F55 G56 =>
      ∃ z58 : Int, w53 = some (vJ z58) ∧
      (sK S54 a0 = 9) ∧
      (sK S54 (sR S54 a0 0) = 2) ∧
      Ok (d - 1) MX2_startTrial [vR (sR S54 a0 0), vI a1] S54 F55 G56 (fun w60 S61 F62 G63 =>
      w60 = none ∧
      (sK S61 a0 = 9) ∧
      (sK S61 (sR S61 a0 0) = 2) ∧
      Ok (d - 1) MX2_fill [vR (sR S61 a0 0), vI a2, vI a3, vI a4, vI a5, vJ 0] S61 F62 G63 (fun w66 S67 F68 G69 =>
      w66 = none ∧
      (sK S67 a0 = 9) ∧
      (sK S67 (sR S67 a0 0) = 2) ∧
      (sK S67 (sR S67 (sR S67 a0 0) 0) = 0) ∧
      Ok (d - 1) MX0_traceSources [vR (sR S67 (sR S67 a0 0) 0), vI a2, vI a4, vI a6] S67 F68 G69 (fun w73 S74 F75 G76 =>
      w73 = none ∧
      (sK S74 a0 = 9) ∧
      (sK S74 (sR S74 a0 0) = 2) ∧
      (sK S74 (sR S74 (sR S74 a0 0) 1) = 0) ∧
      Ok (d - 1) MX0_traceSources [vR (sR S74 (sR S74 a0 0) 1), vI a3, vI a5, vI a7] S74 F75 G76 (fun w80 S81 F82 G83 =>
      w80 = none ∧
      (sK S81 a0 = 9) ∧
      (sK S81 (sR S81 a0 0) = 2) ∧
      Ok (d - 1) MX2_bring [vR (sR S81 a0 0), vI a1, vR (sR S81 a0 5)] S81 F82 G83 (fun w86 S87 F88 G89 =>
      w86 = none ∧
      (sK S87 a0 = 9) ∧
      (sK S87 (sR S87 a0 0) = 2) ∧
      Ok (d - 1) MX2_trialRefusal [vR (sR S87 a0 0), vI a1] S87 F88 G89 (fun w92 S93 F94 G95 =>
      ∃ z97 : Int, w92 = some (vI z97) ∧
      ((z97 = 0) →
        (r64 (100000 * a6)) ∧
        (r64 ((100000 * a6) + a7)) ∧
        (sK S93 a0 = 9) ∧
        Ok (d - 1) MX9_keep [vR a0, vI 2, vI a1, vJ ((100000 * a6) + a7)] S93 F94 G95 (fun w100 S101 F102 G103 =>
        w100 = none ∧
        Q (some (vJ z58)) S101 F102 G103)) ∧
      ((¬ z97 = 0) →
        Q (some (vJ z97)) S93 F94 G95))))))))) ∧
    ((¬ z51 = 0) →
      Q (some (vJ (-4))) S47 F48 G49))))))) ∧
  ((z18 = 0) →
    Q (some (vJ (-2))) S14 F15 G16)))
theorem R_X9_move_54 {d : Nat} {S : AS} {F : AF} {G : AG} {Q : AQ} {a0 : Nat} {a1 : Int} {a2 : Int} {a3 : Int} {a4 : Int} {a5 : Int} {a6 : Int} {a7 : Int} (h : V_X9_move_54 d S F G Q a0 a1 a2 a3 a4 a5 a6 a7) : Go d MX9_move 54 [some (vR a0), some (vI a1), some (vI a2), some (vI a3), some (vI a4), some (vI a5), some (vI a6), some (vI a7), none, none, none] [] S F G Q := by
  unfold V_X9_move_54 at h
  refine go_aload_n (show decode cX9_move 54 = .ok (.aload_n 0, 1) by decide +kernel) (by rfl) ?_
  obtain ⟨q1, h⟩ := h
  refine go_getR (show decode cX9_move 55 = .ok (.getfield 46, 3) by decide +kernel) fl_X9_46 rfl q1 ?_
  refine go_iload_n (show decode cX9_move 58 = .ok (.iload_n 2, 1) by decide +kernel) (by rfl) ?_
  refine go_iload (show decode cX9_move 59 = .ok (.iload 6, 2) by decide +kernel) (by rfl) ?_
  obtain ⟨q2, h⟩ := h
  refine go_iadd (show decode cX9_move 61 = .ok (.iadd, 1) by decide +kernel) q2 ?_
  refine go_iload_n (show decode cX9_move 62 = .ok (.iload_n 3, 1) by decide +kernel) (by rfl) ?_
  refine go_iload (show decode cX9_move 63 = .ok (.iload 7, 2) by decide +kernel) (by rfl) ?_
  obtain ⟨q3, h⟩ := h
  refine go_iadd (show decode cX9_move 65 = .ok (.iadd, 1) by decide +kernel) q3 ?_
  refine go_iload (show decode cX9_move 66 = .ok (.iload 4, 2) by decide +kernel) (by rfl) ?_
  refine go_iload (show decode cX9_move 68 = .ok (.iload 6, 2) by decide +kernel) (by rfl) ?_
  obtain ⟨q4, h⟩ := h
  refine go_iadd (show decode cX9_move 70 = .ok (.iadd, 1) by decide +kernel) q4 ?_
  refine go_iload (show decode cX9_move 71 = .ok (.iload 5, 2) by decide +kernel) (by rfl) ?_
  refine go_iload (show decode cX9_move 73 = .ok (.iload 7, 2) by decide +kernel) (by rfl) ?_
  obtain ⟨q5, h⟩ := h
  refine go_iadd (show decode cX9_move 75 = .ok (.iadd, 1) by decide +kernel) q5 ?_
  obtain ⟨q6, h⟩ := h
  obtain ⟨q11, h⟩ := h
  refine go_callV (d2 := d - 1) (M2 := MX3_set) (n := 4) (ci := 3) (av := [vI (a2 + a6), vI (a3 + a7), vI (a4 + a6), vI (a5 + a7)]) (st := []) (show decode cX9_move 76 = .ok (.invokevirtual 150, 3) by decide +kernel) ml_X9_150 mt_X3_set min_X3_set mse_X3_set (by decide) q11 rfl (Nat.le_of_ble_eq_true rfl) (by omega) (ok_mono h (fun w7 S8 F9 G10 h => ?_))
  obtain ⟨e9, h⟩ := h
  subst e9
  show Go d MX9_move 79 [some (vR a0), some (vI a1), some (vI a2), some (vI a3), some (vI a4), some (vI a5), some (vI a6), some (vI a7), none, none, none] [] S8 F9 G10 Q
  refine go_aload_n (show decode cX9_move 79 = .ok (.aload_n 0, 1) by decide +kernel) (by rfl) ?_
  obtain ⟨q12, h⟩ := h
  refine go_getR (show decode cX9_move 80 = .ok (.getfield 12, 3) by decide +kernel) fl_X9_12 rfl q12 ?_
  refine go_aload_n (show decode cX9_move 83 = .ok (.aload_n 0, 1) by decide +kernel) (by rfl) ?_
  refine go_getR (show decode cX9_move 84 = .ok (.getfield 46, 3) by decide +kernel) fl_X9_46 rfl q12 ?_
  obtain ⟨q17, h⟩ := h
  refine go_callV (d2 := d - 1) (M2 := MX2_holds) (n := 1) (ci := 2) (av := [vR (sR S8 a0 5)]) (st := []) (show decode cX9_move 87 = .ok (.invokevirtual 154, 3) by decide +kernel) ml_X9_154 mt_X2_holds min_X2_holds mse_X2_holds (by decide) q17 rfl (Nat.le_of_ble_eq_true rfl) (by omega) (ok_mono h (fun w13 S14 F15 G16 h => ?_))
  obtain ⟨z18, e9, h⟩ := h
  subst e9
  show Go d MX9_move 90 [some (vR a0), some (vI a1), some (vI a2), some (vI a3), some (vI a4), some (vI a5), some (vI a6), some (vI a7), none, none, none] [vI z18] S14 F15 G16 Q
  obtain ⟨ht, hf⟩ := h
  refine go_ifne (tgt := 97) (show decode cX9_move 90 = .ok (.ifCond .ne 7, 3) by decide +kernel) (by decide) (fun hc => ?_) (fun hc => ?_)
  · have h := ht hc
    refine go_aload_n (show decode cX9_move 97 = .ok (.aload_n 0, 1) by decide +kernel) (by rfl) ?_
    obtain ⟨q19, h⟩ := h
    refine go_getR (show decode cX9_move 98 = .ok (.getfield 12, 3) by decide +kernel) fl_X9_12 rfl q19 ?_
    refine go_aload_n (show decode cX9_move 101 = .ok (.aload_n 0, 1) by decide +kernel) (by rfl) ?_
    refine go_getR (show decode cX9_move 102 = .ok (.getfield 42, 3) by decide +kernel) fl_X9_42 rfl q19 ?_
    obtain ⟨q24, h⟩ := h
    refine go_callV (d2 := d - 1) (M2 := MX2_plan) (n := 1) (ci := 2) (av := [vR (sR S14 a0 4)]) (st := []) (show decode cX9_move 105 = .ok (.invokevirtual 82, 3) by decide +kernel) ml_X9_82 mt_X2_plan min_X2_plan mse_X2_plan (by decide) q24 rfl (Nat.le_of_ble_eq_true rfl) (by omega) (ok_mono h (fun w20 S21 F22 G23 h => ?_))
    obtain ⟨e9, h⟩ := h
    subst e9
    show Go d MX9_move 108 [some (vR a0), some (vI a1), some (vI a2), some (vI a3), some (vI a4), some (vI a5), some (vI a6), some (vI a7), none, none, none] [] S21 F22 G23 Q
    refine go_aload_n (show decode cX9_move 108 = .ok (.aload_n 0, 1) by decide +kernel) (by rfl) ?_
    obtain ⟨q25, h⟩ := h
    refine go_getR (show decode cX9_move 109 = .ok (.getfield 12, 3) by decide +kernel) fl_X9_12 rfl q25 ?_
    refine go_aload_n (show decode cX9_move 112 = .ok (.aload_n 0, 1) by decide +kernel) (by rfl) ?_
    refine go_getR (show decode cX9_move 113 = .ok (.getfield 46, 3) by decide +kernel) fl_X9_46 rfl q25 ?_
    obtain ⟨q30, h⟩ := h
    refine go_callV (d2 := d - 1) (M2 := MX2_planMore) (n := 1) (ci := 2) (av := [vR (sR S21 a0 5)]) (st := []) (show decode cX9_move 116 = .ok (.invokevirtual 158, 3) by decide +kernel) ml_X9_158 mt_X2_planMore min_X2_planMore mse_X2_planMore (by decide) q30 rfl (Nat.le_of_ble_eq_true rfl) (by omega) (ok_mono h (fun w26 S27 F28 G29 h => ?_))
    obtain ⟨e9, h⟩ := h
    subst e9
    show Go d MX9_move 119 [some (vR a0), some (vI a1), some (vI a2), some (vI a3), some (vI a4), some (vI a5), some (vI a6), some (vI a7), none, none, none] [] S27 F28 G29 Q
    refine go_aload_n (show decode cX9_move 119 = .ok (.aload_n 0, 1) by decide +kernel) (by rfl) ?_
    obtain ⟨q31, h⟩ := h
    refine go_getR (show decode cX9_move 120 = .ok (.getfield 12, 3) by decide +kernel) fl_X9_12 rfl q31 ?_
    obtain ⟨q32, h⟩ := h
    refine go_getR (show decode cX9_move 123 = .ok (.getfield 122, 3) by decide +kernel) fl_X9_122 rfl q32 ?_
    refine go_iload_n (show decode cX9_move 126 = .ok (.iload_n 2, 1) by decide +kernel) (by rfl) ?_
    refine go_iload (show decode cX9_move 127 = .ok (.iload 4, 2) by decide +kernel) (by rfl) ?_
    refine go_iload (show decode cX9_move 129 = .ok (.iload 6, 2) by decide +kernel) (by rfl) ?_
    obtain ⟨q37, h⟩ := h
    refine go_callV (d2 := d - 1) (M2 := MX0_planShifted) (n := 3) (ci := 0) (av := [vI a2, vI a4, vI a6]) (st := []) (show decode cX9_move 131 = .ok (.invokevirtual 161, 3) by decide +kernel) ml_X9_161 mt_X0_planShifted min_X0_planShifted mse_X0_planShifted (by decide) q37 rfl (Nat.le_of_ble_eq_true rfl) (by omega) (ok_mono h (fun w33 S34 F35 G36 h => ?_))
    obtain ⟨e9, h⟩ := h
    subst e9
    show Go d MX9_move 134 [some (vR a0), some (vI a1), some (vI a2), some (vI a3), some (vI a4), some (vI a5), some (vI a6), some (vI a7), none, none, none] [] S34 F35 G36 Q
    refine go_aload_n (show decode cX9_move 134 = .ok (.aload_n 0, 1) by decide +kernel) (by rfl) ?_
    obtain ⟨q38, h⟩ := h
    refine go_getR (show decode cX9_move 135 = .ok (.getfield 12, 3) by decide +kernel) fl_X9_12 rfl q38 ?_
    obtain ⟨q39, h⟩ := h
    refine go_getR (show decode cX9_move 138 = .ok (.getfield 132, 3) by decide +kernel) fl_X9_132 rfl q39 ?_
    refine go_iload_n (show decode cX9_move 141 = .ok (.iload_n 3, 1) by decide +kernel) (by rfl) ?_
    refine go_iload (show decode cX9_move 142 = .ok (.iload 5, 2) by decide +kernel) (by rfl) ?_
    refine go_iload (show decode cX9_move 144 = .ok (.iload 7, 2) by decide +kernel) (by rfl) ?_
    obtain ⟨q44, h⟩ := h
    refine go_callV (d2 := d - 1) (M2 := MX0_planShifted) (n := 3) (ci := 0) (av := [vI a3, vI a5, vI a7]) (st := []) (show decode cX9_move 146 = .ok (.invokevirtual 161, 3) by decide +kernel) ml_X9_161 mt_X0_planShifted min_X0_planShifted mse_X0_planShifted (by decide) q44 rfl (Nat.le_of_ble_eq_true rfl) (by omega) (ok_mono h (fun w40 S41 F42 G43 h => ?_))
    obtain ⟨e9, h⟩ := h
    subst e9
    show Go d MX9_move 149 [some (vR a0), some (vI a1), some (vI a2), some (vI a3), some (vI a4), some (vI a5), some (vI a6), some (vI a7), none, none, none] [] S41 F42 G43 Q
    refine go_aload_n (show decode cX9_move 149 = .ok (.aload_n 0, 1) by decide +kernel) (by rfl) ?_
    obtain ⟨q45, h⟩ := h
    refine go_getR (show decode cX9_move 150 = .ok (.getfield 12, 3) by decide +kernel) fl_X9_12 rfl q45 ?_
    obtain ⟨q50, h⟩ := h
    refine go_callV (d2 := d - 1) (M2 := MX2_plansTooMany) (n := 0) (ci := 2) (av := []) (st := []) (show decode cX9_move 153 = .ok (.invokevirtual 86, 3) by decide +kernel) ml_X9_86 mt_X2_plansTooMany min_X2_plansTooMany mse_X2_plansTooMany (by decide) q50 rfl (Nat.le_of_ble_eq_true rfl) (by omega) (ok_mono h (fun w46 S47 F48 G49 h => ?_))
    obtain ⟨z51, e9, h⟩ := h
    subst e9
    show Go d MX9_move 156 [some (vR a0), some (vI a1), some (vI a2), some (vI a3), some (vI a4), some (vI a5), some (vI a6), some (vI a7), none, none, none] [vI z51] S47 F48 G49 Q
    obtain ⟨ht, hf⟩ := h
    refine go_ifeq (tgt := 163) (show decode cX9_move 156 = .ok (.ifCond .eq 7, 3) by decide +kernel) (by decide) (fun hc => ?_) (fun hc => ?_)
    · have h := ht hc
      refine go_aload_n (show decode cX9_move 163 = .ok (.aload_n 0, 1) by decide +kernel) (by rfl) ?_
      obtain ⟨q52, h⟩ := h
      refine go_getR (show decode cX9_move 164 = .ok (.getfield 12, 3) by decide +kernel) fl_X9_12 rfl q52 ?_
      refine go_iload_n (show decode cX9_move 167 = .ok (.iload_n 1, 1) by decide +kernel) (by rfl) ?_
      refine go_aload_n (show decode cX9_move 168 = .ok (.aload_n 0, 1) by decide +kernel) (by rfl) ?_
      refine go_getR (show decode cX9_move 169 = .ok (.getfield 42, 3) by decide +kernel) fl_X9_42 rfl q52 ?_
      obtain ⟨q57, h⟩ := h
      refine go_callV (d2 := d - 1) (M2 := MX2_sumOf) (n := 2) (ci := 2) (av := [vI a1, vR (sR S47 a0 4)]) (st := []) (show decode cX9_move 172 = .ok (.invokevirtual 103, 3) by decide +kernel) ml_X9_103 mt_X2_sumOf min_X2_sumOf mse_X2_sumOf (by decide) q57 rfl (Nat.le_of_ble_eq_true rfl) (by omega) (ok_mono h (fun w53 S54 F55 G56 h => ?_))
      obtain ⟨z58, e9, h⟩ := h
      subst e9
      show Go d MX9_move 175 [some (vR a0), some (vI a1), some (vI a2), some (vI a3), some (vI a4), some (vI a5), some (vI a6), some (vI a7), none, none, none] [vJ z58] S54 F55 G56 Q
      refine go_lstore (show decode cX9_move 175 = .ok (.lstore 8, 2) by decide +kernel) (by decide) ?_
      show Go d MX9_move 177 [some (vR a0), some (vI a1), some (vI a2), some (vI a3), some (vI a4), some (vI a5), some (vI a6), some (vI a7), some (vJ z58), none, none] [] S54 F55 G56 Q
      refine go_aload_n (show decode cX9_move 177 = .ok (.aload_n 0, 1) by decide +kernel) (by rfl) ?_
      obtain ⟨q59, h⟩ := h
      refine go_getR (show decode cX9_move 178 = .ok (.getfield 12, 3) by decide +kernel) fl_X9_12 rfl q59 ?_
      refine go_iload_n (show decode cX9_move 181 = .ok (.iload_n 1, 1) by decide +kernel) (by rfl) ?_
      obtain ⟨q64, h⟩ := h
      refine go_callV (d2 := d - 1) (M2 := MX2_startTrial) (n := 1) (ci := 2) (av := [vI a1]) (st := []) (show decode cX9_move 182 = .ok (.invokevirtual 92, 3) by decide +kernel) ml_X9_92 mt_X2_startTrial min_X2_startTrial mse_X2_startTrial (by decide) q64 rfl (Nat.le_of_ble_eq_true rfl) (by omega) (ok_mono h (fun w60 S61 F62 G63 h => ?_))
      obtain ⟨e9, h⟩ := h
      subst e9
      show Go d MX9_move 185 [some (vR a0), some (vI a1), some (vI a2), some (vI a3), some (vI a4), some (vI a5), some (vI a6), some (vI a7), some (vJ z58), none, none] [] S61 F62 G63 Q
      refine go_aload_n (show decode cX9_move 185 = .ok (.aload_n 0, 1) by decide +kernel) (by rfl) ?_
      obtain ⟨q65, h⟩ := h
      refine go_getR (show decode cX9_move 186 = .ok (.getfield 12, 3) by decide +kernel) fl_X9_12 rfl q65 ?_
      refine go_iload_n (show decode cX9_move 189 = .ok (.iload_n 2, 1) by decide +kernel) (by rfl) ?_
      refine go_iload_n (show decode cX9_move 190 = .ok (.iload_n 3, 1) by decide +kernel) (by rfl) ?_
      refine go_iload (show decode cX9_move 191 = .ok (.iload 4, 2) by decide +kernel) (by rfl) ?_
      refine go_iload (show decode cX9_move 193 = .ok (.iload 5, 2) by decide +kernel) (by rfl) ?_
      refine go_lconst (n := 0) (show decode cX9_move 195 = .ok (.lconst 0, 1) by decide +kernel) ?_
      show Go d MX9_move 196 [some (vR a0), some (vI a1), some (vI a2), some (vI a3), some (vI a4), some (vI a5), some (vI a6), some (vI a7), some (vJ z58), none, none] [vJ 0, vI a5, vI a4, vI a3, vI a2, vR (sR S61 a0 0)] S61 F62 G63 Q
      obtain ⟨q70, h⟩ := h
      refine go_callV (d2 := d - 1) (M2 := MX2_fill) (n := 5) (ci := 2) (av := [vI a2, vI a3, vI a4, vI a5, vJ 0]) (st := []) (show decode cX9_move 196 = .ok (.invokevirtual 135, 3) by decide +kernel) ml_X9_135 mt_X2_fill min_X2_fill mse_X2_fill (by decide) q70 rfl (Nat.le_of_ble_eq_true rfl) (by omega) (ok_mono h (fun w66 S67 F68 G69 h => ?_))
      obtain ⟨e9, h⟩ := h
      subst e9
      show Go d MX9_move 199 [some (vR a0), some (vI a1), some (vI a2), some (vI a3), some (vI a4), some (vI a5), some (vI a6), some (vI a7), some (vJ z58), none, none] [] S67 F68 G69 Q
      refine go_aload_n (show decode cX9_move 199 = .ok (.aload_n 0, 1) by decide +kernel) (by rfl) ?_
      obtain ⟨q71, h⟩ := h
      refine go_getR (show decode cX9_move 200 = .ok (.getfield 12, 3) by decide +kernel) fl_X9_12 rfl q71 ?_
      obtain ⟨q72, h⟩ := h
      refine go_getR (show decode cX9_move 203 = .ok (.getfield 122, 3) by decide +kernel) fl_X9_122 rfl q72 ?_
      refine go_iload_n (show decode cX9_move 206 = .ok (.iload_n 2, 1) by decide +kernel) (by rfl) ?_
      refine go_iload (show decode cX9_move 207 = .ok (.iload 4, 2) by decide +kernel) (by rfl) ?_
      refine go_iload (show decode cX9_move 209 = .ok (.iload 6, 2) by decide +kernel) (by rfl) ?_
      obtain ⟨q77, h⟩ := h
      refine go_callV (d2 := d - 1) (M2 := MX0_traceSources) (n := 3) (ci := 0) (av := [vI a2, vI a4, vI a6]) (st := []) (show decode cX9_move 211 = .ok (.invokevirtual 165, 3) by decide +kernel) ml_X9_165 mt_X0_traceSources min_X0_traceSources mse_X0_traceSources (by decide) q77 rfl (Nat.le_of_ble_eq_true rfl) (by omega) (ok_mono h (fun w73 S74 F75 G76 h => ?_))
      obtain ⟨e9, h⟩ := h
      subst e9
      show Go d MX9_move 214 [some (vR a0), some (vI a1), some (vI a2), some (vI a3), some (vI a4), some (vI a5), some (vI a6), some (vI a7), some (vJ z58), none, none] [] S74 F75 G76 Q
      refine go_aload_n (show decode cX9_move 214 = .ok (.aload_n 0, 1) by decide +kernel) (by rfl) ?_
      obtain ⟨q78, h⟩ := h
      refine go_getR (show decode cX9_move 215 = .ok (.getfield 12, 3) by decide +kernel) fl_X9_12 rfl q78 ?_
      obtain ⟨q79, h⟩ := h
      refine go_getR (show decode cX9_move 218 = .ok (.getfield 132, 3) by decide +kernel) fl_X9_132 rfl q79 ?_
      refine go_iload_n (show decode cX9_move 221 = .ok (.iload_n 3, 1) by decide +kernel) (by rfl) ?_
      refine go_iload (show decode cX9_move 222 = .ok (.iload 5, 2) by decide +kernel) (by rfl) ?_
      refine go_iload (show decode cX9_move 224 = .ok (.iload 7, 2) by decide +kernel) (by rfl) ?_
      obtain ⟨q84, h⟩ := h
      refine go_callV (d2 := d - 1) (M2 := MX0_traceSources) (n := 3) (ci := 0) (av := [vI a3, vI a5, vI a7]) (st := []) (show decode cX9_move 226 = .ok (.invokevirtual 165, 3) by decide +kernel) ml_X9_165 mt_X0_traceSources min_X0_traceSources mse_X0_traceSources (by decide) q84 rfl (Nat.le_of_ble_eq_true rfl) (by omega) (ok_mono h (fun w80 S81 F82 G83 h => ?_))
      obtain ⟨e9, h⟩ := h
      subst e9
      show Go d MX9_move 229 [some (vR a0), some (vI a1), some (vI a2), some (vI a3), some (vI a4), some (vI a5), some (vI a6), some (vI a7), some (vJ z58), none, none] [] S81 F82 G83 Q
      refine go_aload_n (show decode cX9_move 229 = .ok (.aload_n 0, 1) by decide +kernel) (by rfl) ?_
      obtain ⟨q85, h⟩ := h
      refine go_getR (show decode cX9_move 230 = .ok (.getfield 12, 3) by decide +kernel) fl_X9_12 rfl q85 ?_
      refine go_iload_n (show decode cX9_move 233 = .ok (.iload_n 1, 1) by decide +kernel) (by rfl) ?_
      refine go_aload_n (show decode cX9_move 234 = .ok (.aload_n 0, 1) by decide +kernel) (by rfl) ?_
      refine go_getR (show decode cX9_move 235 = .ok (.getfield 46, 3) by decide +kernel) fl_X9_46 rfl q85 ?_
      obtain ⟨q90, h⟩ := h
      refine go_callV (d2 := d - 1) (M2 := MX2_bring) (n := 2) (ci := 2) (av := [vI a1, vR (sR S81 a0 5)]) (st := []) (show decode cX9_move 238 = .ok (.invokevirtual 168, 3) by decide +kernel) ml_X9_168 mt_X2_bring min_X2_bring mse_X2_bring (by decide) q90 rfl (Nat.le_of_ble_eq_true rfl) (by omega) (ok_mono h (fun w86 S87 F88 G89 h => ?_))
      obtain ⟨e9, h⟩ := h
      subst e9
      show Go d MX9_move 241 [some (vR a0), some (vI a1), some (vI a2), some (vI a3), some (vI a4), some (vI a5), some (vI a6), some (vI a7), some (vJ z58), none, none] [] S87 F88 G89 Q
      refine go_aload_n (show decode cX9_move 241 = .ok (.aload_n 0, 1) by decide +kernel) (by rfl) ?_
      obtain ⟨q91, h⟩ := h
      refine go_getR (show decode cX9_move 242 = .ok (.getfield 12, 3) by decide +kernel) fl_X9_12 rfl q91 ?_
      refine go_iload_n (show decode cX9_move 245 = .ok (.iload_n 1, 1) by decide +kernel) (by rfl) ?_
      obtain ⟨q96, h⟩ := h
      refine go_callV (d2 := d - 1) (M2 := MX2_trialRefusal) (n := 1) (ci := 2) (av := [vI a1]) (st := []) (show decode cX9_move 246 = .ok (.invokevirtual 172, 3) by decide +kernel) ml_X9_172 mt_X2_trialRefusal min_X2_trialRefusal mse_X2_trialRefusal (by decide) q96 rfl (Nat.le_of_ble_eq_true rfl) (by omega) (ok_mono h (fun w92 S93 F94 G95 h => ?_))
      obtain ⟨z97, e9, h⟩ := h
      subst e9
      show Go d MX9_move 249 [some (vR a0), some (vI a1), some (vI a2), some (vI a3), some (vI a4), some (vI a5), some (vI a6), some (vI a7), some (vJ z58), none, none] [vI z97] S93 F94 G95 Q
      refine go_istore (show decode cX9_move 249 = .ok (.istore 10, 2) by decide +kernel) (by decide) ?_
      show Go d MX9_move 251 [some (vR a0), some (vI a1), some (vI a2), some (vI a3), some (vI a4), some (vI a5), some (vI a6), some (vI a7), some (vJ z58), none, some (vI z97)] [] S93 F94 G95 Q
      refine go_iload (show decode cX9_move 251 = .ok (.iload 10, 2) by decide +kernel) (by rfl) ?_
      obtain ⟨ht, hf⟩ := h
      refine go_ifeq (tgt := 260) (show decode cX9_move 253 = .ok (.ifCond .eq 7, 3) by decide +kernel) (by decide) (fun hc => ?_) (fun hc => ?_)
      · have h := ht hc
        refine go_aload_n (show decode cX9_move 260 = .ok (.aload_n 0, 1) by decide +kernel) (by rfl) ?_
        refine go_iconst (show decode cX9_move 261 = .ok (.iconst 2, 1) by decide +kernel) (by decide) ?_
        refine go_iload_n (show decode cX9_move 262 = .ok (.iload_n 1, 1) by decide +kernel) (by rfl) ?_
        refine go_ldc2 (show decode cX9_move 263 = .ok (.ldc2_w 176, 3) by decide +kernel) lc_X9_176 (by decide) ?_
        refine go_iload (show decode cX9_move 266 = .ok (.iload 6, 2) by decide +kernel) (by rfl) ?_
        refine go_i2l (show decode cX9_move 268 = .ok (.i2l, 1) by decide +kernel) ?_
        obtain ⟨q98, h⟩ := h
        refine go_lmul (show decode cX9_move 269 = .ok (.lmul, 1) by decide +kernel) q98 ?_
        refine go_iload (show decode cX9_move 270 = .ok (.iload 7, 2) by decide +kernel) (by rfl) ?_
        refine go_i2l (show decode cX9_move 272 = .ok (.i2l, 1) by decide +kernel) ?_
        obtain ⟨q99, h⟩ := h
        refine go_ladd (show decode cX9_move 273 = .ok (.ladd, 1) by decide +kernel) q99 ?_
        obtain ⟨q104, h⟩ := h
        refine go_callV (d2 := d - 1) (M2 := MX9_keep) (n := 3) (ci := 9) (av := [vI 2, vI a1, vJ ((100000 * a6) + a7)]) (st := []) (show decode cX9_move 274 = .ok (.invokevirtual 100, 3) by decide +kernel) ml_X9_100 mt_X9_keep min_X9_keep mse_X9_keep (by decide) q104 rfl (Nat.le_of_ble_eq_true rfl) (by omega) (ok_mono h (fun w100 S101 F102 G103 h => ?_))
        obtain ⟨e9, h⟩ := h
        subst e9
        show Go d MX9_move 277 [some (vR a0), some (vI a1), some (vI a2), some (vI a3), some (vI a4), some (vI a5), some (vI a6), some (vI a7), some (vJ z58), none, some (vI z97)] [] S101 F102 G103 Q
        refine go_lload (show decode cX9_move 277 = .ok (.lload 8, 2) by decide +kernel) (by rfl) ?_
        exact go_lret (show decode cX9_move 279 = .ok (.lreturn, 1) by decide +kernel) rfl h
      · have h := hf hc
        refine go_iload (show decode cX9_move 256 = .ok (.iload 10, 2) by decide +kernel) (by rfl) ?_
        refine go_i2l (show decode cX9_move 258 = .ok (.i2l, 1) by decide +kernel) ?_
        exact go_lret (show decode cX9_move 259 = .ok (.lreturn, 1) by decide +kernel) rfl h
    · have h := hf hc
      refine go_ldc2 (show decode cX9_move 159 = .ok (.ldc2_w 90, 3) by decide +kernel) lc_X9_90 (by decide) ?_
      exact go_lret (show decode cX9_move 162 = .ok (.lreturn, 1) by decide +kernel) rfl h
  · have h := hf hc
    refine go_ldc2 (show decode cX9_move 93 = .ok (.ldc2_w 74, 3) by decide +kernel) lc_X9_74 (by decide) ?_
    exact go_lret (show decode cX9_move 96 = .ok (.lreturn, 1) by decide +kernel) rfl h
def V_X9_move_0 (d : Nat) (S : AS) (F : AF) (G : AG) (Q : AQ) (a0 : Nat) (a1 : Int) (a2 : Int) (a3 : Int) (a4 : Int) (a5 : Int) (a6 : Int) (a7 : Int) : Prop :=
  (1 ≤ d) ∧
  Ok (d - 1) MX9_isGood [vI a1] S F G (fun w2 S3 F4 G5 =>
  ∃ z6 : Int, w2 = some (vI z6) ∧
  ((z6 = 0) →
    Q (some (vJ (-2))) S3 F4 G5) ∧
  ((¬ z6 = 0) →
    (sK S3 a0 = 9) ∧
    Ok (d - 1) MX9_ask [vR a0, vI a2, vI a3, vI a4, vI a5] S3 F4 G5 (fun w7 S8 F9 G10 =>
    ∃ z12 : Int, w7 = some (vI z12) ∧
    ((¬ z12 = 0) →
      Ok (d - 1) MX9_isShift [vI a6] S8 F9 G10 (fun w13 S14 F15 G16 =>
      ∃ z17 : Int, w13 = some (vI z17) ∧
      ((z17 = 0) →
        Q (some (vJ (-3))) S14 F15 G16) ∧
      ((¬ z17 = 0) →
        Ok (d - 1) MX9_isShift [vI a7] S14 F15 G16 (fun w18 S19 F20 G21 =>
        ∃ z22 : Int, w18 = some (vI z22) ∧
        ((z22 = 0) →
          Q (some (vJ (-3))) S19 F20 G21) ∧
        ((¬ z22 = 0) →
          ((¬ a6 = 0) →
            V_X9_move_54 d S19 F20 G21 Q a0 a1 a2 a3 a4 a5 a6 a7) ∧
          ((a6 = 0) →
            ((¬ a7 = 0) →
              V_X9_move_54 d S19 F20 G21 Q a0 a1 a2 a3 a4 a5 a6 a7) ∧
            ((a7 = 0) →
              Q (some (vJ (-3))) S19 F20 G21))))))) ∧
    ((z12 = 0) →
      Q (some (vJ (-2))) S8 F9 G10))))
theorem R_X9_move_0 {d : Nat} {S : AS} {F : AF} {G : AG} {Q : AQ} {a0 : Nat} {a1 : Int} {a2 : Int} {a3 : Int} {a4 : Int} {a5 : Int} {a6 : Int} {a7 : Int} (h : V_X9_move_0 d S F G Q a0 a1 a2 a3 a4 a5 a6 a7) : Go d MX9_move 0 [some (vR a0), some (vI a1), some (vI a2), some (vI a3), some (vI a4), some (vI a5), some (vI a6), some (vI a7), none, none, none] [] S F G Q := by
  unfold V_X9_move_0 at h
  refine go_iload_n (show decode cX9_move 0 = .ok (.iload_n 1, 1) by decide +kernel) (by rfl) ?_
  obtain ⟨q1, h⟩ := h
  refine go_callS (d2 := d - 1) (M2 := MX9_isGood) (n := 1) (av := [vI a1]) (st := []) (show decode cX9_move 1 = .ok (.invokestatic 66, 3) by decide +kernel) ml_X9_66 mt_X9_isGood mst_X9_isGood rfl (Nat.le_of_ble_eq_true rfl) (by omega) (ok_mono h (fun w2 S3 F4 G5 h => ?_))
  obtain ⟨z6, e9, h⟩ := h
  subst e9
  show Go d MX9_move 4 [some (vR a0), some (vI a1), some (vI a2), some (vI a3), some (vI a4), some (vI a5), some (vI a6), some (vI a7), none, none, none] [vI z6] S3 F4 G5 Q
  obtain ⟨ht, hf⟩ := h
  refine go_ifeq (tgt := 20) (show decode cX9_move 4 = .ok (.ifCond .eq 16, 3) by decide +kernel) (by decide) (fun hc => ?_) (fun hc => ?_)
  · have h := ht hc
    refine go_ldc2 (show decode cX9_move 20 = .ok (.ldc2_w 74, 3) by decide +kernel) lc_X9_74 (by decide) ?_
    exact go_lret (show decode cX9_move 23 = .ok (.lreturn, 1) by decide +kernel) rfl h
  · have h := hf hc
    refine go_aload_n (show decode cX9_move 7 = .ok (.aload_n 0, 1) by decide +kernel) (by rfl) ?_
    refine go_iload_n (show decode cX9_move 8 = .ok (.iload_n 2, 1) by decide +kernel) (by rfl) ?_
    refine go_iload_n (show decode cX9_move 9 = .ok (.iload_n 3, 1) by decide +kernel) (by rfl) ?_
    refine go_iload (show decode cX9_move 10 = .ok (.iload 4, 2) by decide +kernel) (by rfl) ?_
    refine go_iload (show decode cX9_move 12 = .ok (.iload 5, 2) by decide +kernel) (by rfl) ?_
    obtain ⟨q11, h⟩ := h
    refine go_callV (d2 := d - 1) (M2 := MX9_ask) (n := 4) (ci := 9) (av := [vI a2, vI a3, vI a4, vI a5]) (st := []) (show decode cX9_move 14 = .ok (.invokevirtual 70, 3) by decide +kernel) ml_X9_70 mt_X9_ask min_X9_ask mse_X9_ask (by decide) q11 rfl (Nat.le_of_ble_eq_true rfl) (by omega) (ok_mono h (fun w7 S8 F9 G10 h => ?_))
    obtain ⟨z12, e9, h⟩ := h
    subst e9
    show Go d MX9_move 17 [some (vR a0), some (vI a1), some (vI a2), some (vI a3), some (vI a4), some (vI a5), some (vI a6), some (vI a7), none, none, none] [vI z12] S8 F9 G10 Q
    obtain ⟨ht, hf⟩ := h
    refine go_ifne (tgt := 24) (show decode cX9_move 17 = .ok (.ifCond .ne 7, 3) by decide +kernel) (by decide) (fun hc => ?_) (fun hc => ?_)
    · have h := ht hc
      refine go_iload (show decode cX9_move 24 = .ok (.iload 6, 2) by decide +kernel) (by rfl) ?_
      refine go_callS (d2 := d - 1) (M2 := MX9_isShift) (n := 1) (av := [vI a6]) (st := []) (show decode cX9_move 26 = .ok (.invokestatic 147, 3) by decide +kernel) ml_X9_147 mt_X9_isShift mst_X9_isShift rfl (Nat.le_of_ble_eq_true rfl) (by omega) (ok_mono h (fun w13 S14 F15 G16 h => ?_))
      obtain ⟨z17, e9, h⟩ := h
      subst e9
      show Go d MX9_move 29 [some (vR a0), some (vI a1), some (vI a2), some (vI a3), some (vI a4), some (vI a5), some (vI a6), some (vI a7), none, none, none] [vI z17] S14 F15 G16 Q
      obtain ⟨ht, hf⟩ := h
      refine go_ifeq (tgt := 50) (show decode cX9_move 29 = .ok (.ifCond .eq 21, 3) by decide +kernel) (by decide) (fun hc => ?_) (fun hc => ?_)
      · have h := ht hc
        refine go_ldc2 (show decode cX9_move 50 = .ok (.ldc2_w 55, 3) by decide +kernel) lc_X9_55 (by decide) ?_
        exact go_lret (show decode cX9_move 53 = .ok (.lreturn, 1) by decide +kernel) rfl h
      · have h := hf hc
        refine go_iload (show decode cX9_move 32 = .ok (.iload 7, 2) by decide +kernel) (by rfl) ?_
        refine go_callS (d2 := d - 1) (M2 := MX9_isShift) (n := 1) (av := [vI a7]) (st := []) (show decode cX9_move 34 = .ok (.invokestatic 147, 3) by decide +kernel) ml_X9_147 mt_X9_isShift mst_X9_isShift rfl (Nat.le_of_ble_eq_true rfl) (by omega) (ok_mono h (fun w18 S19 F20 G21 h => ?_))
        obtain ⟨z22, e9, h⟩ := h
        subst e9
        show Go d MX9_move 37 [some (vR a0), some (vI a1), some (vI a2), some (vI a3), some (vI a4), some (vI a5), some (vI a6), some (vI a7), none, none, none] [vI z22] S19 F20 G21 Q
        obtain ⟨ht, hf⟩ := h
        refine go_ifeq (tgt := 50) (show decode cX9_move 37 = .ok (.ifCond .eq 13, 3) by decide +kernel) (by decide) (fun hc => ?_) (fun hc => ?_)
        · have h := ht hc
          refine go_ldc2 (show decode cX9_move 50 = .ok (.ldc2_w 55, 3) by decide +kernel) lc_X9_55 (by decide) ?_
          exact go_lret (show decode cX9_move 53 = .ok (.lreturn, 1) by decide +kernel) rfl h
        · have h := hf hc
          refine go_iload (show decode cX9_move 40 = .ok (.iload 6, 2) by decide +kernel) (by rfl) ?_
          obtain ⟨ht, hf⟩ := h
          refine go_ifne (tgt := 54) (show decode cX9_move 42 = .ok (.ifCond .ne 12, 3) by decide +kernel) (by decide) (fun hc => ?_) (fun hc => ?_)
          · have h := ht hc
            exact R_X9_move_54 h
          · have h := hf hc
            refine go_iload (show decode cX9_move 45 = .ok (.iload 7, 2) by decide +kernel) (by rfl) ?_
            obtain ⟨ht, hf⟩ := h
            refine go_ifne (tgt := 54) (show decode cX9_move 47 = .ok (.ifCond .ne 7, 3) by decide +kernel) (by decide) (fun hc => ?_) (fun hc => ?_)
            · have h := ht hc
              exact R_X9_move_54 h
            · have h := hf hc
              refine go_ldc2 (show decode cX9_move 50 = .ok (.ldc2_w 55, 3) by decide +kernel) lc_X9_55 (by decide) ?_
              exact go_lret (show decode cX9_move 53 = .ok (.lreturn, 1) by decide +kernel) rfl h
    · have h := hf hc
      refine go_ldc2 (show decode cX9_move 20 = .ok (.ldc2_w 74, 3) by decide +kernel) lc_X9_74 (by decide) ?_
      exact go_lret (show decode cX9_move 23 = .ok (.lreturn, 1) by decide +kernel) rfl h
def V_X9_isShift_0 (d : Nat) (S : AS) (F : AF) (G : AG) (Q : AQ) (a0 : Int) : Prop :=
  ((a0 < -9999) →
    Q (some (vI 0)) S F G) ∧
  ((¬ a0 < -9999) →
    ((9999 < a0) →
      Q (some (vI 0)) S F G) ∧
    ((¬ 9999 < a0) →
      Q (some (vI 1)) S F G))
theorem R_X9_isShift_0 {d : Nat} {S : AS} {F : AF} {G : AG} {Q : AQ} {a0 : Int} (h : V_X9_isShift_0 d S F G Q a0) : Go d MX9_isShift 0 [some (vI a0)] [] S F G Q := by
  unfold V_X9_isShift_0 at h
  refine go_iload_n (show decode cX9_isShift 0 = .ok (.iload_n 0, 1) by decide +kernel) (by rfl) ?_
  refine go_sipush (show decode cX9_isShift 1 = .ok (.sipush (-9999), 3) by decide +kernel) (by decide) ?_
  obtain ⟨ht, hf⟩ := h
  refine go_icmplt (tgt := 18) (show decode cX9_isShift 4 = .ok (.if_icmp .lt 14, 3) by decide +kernel) (by decide) (fun hc => ?_) (fun hc => ?_)
  · have h := ht hc
    refine go_iconst (show decode cX9_isShift 18 = .ok (.iconst 0, 1) by decide +kernel) (by decide) ?_
    exact go_zret (show decode cX9_isShift 19 = .ok (.ireturn, 1) by decide +kernel) rfl (by decide) h
  · have h := hf hc
    refine go_iload_n (show decode cX9_isShift 7 = .ok (.iload_n 0, 1) by decide +kernel) (by rfl) ?_
    refine go_sipush (show decode cX9_isShift 8 = .ok (.sipush 9999, 3) by decide +kernel) (by decide) ?_
    obtain ⟨ht, hf⟩ := h
    refine go_icmpgt (tgt := 18) (show decode cX9_isShift 11 = .ok (.if_icmp .gt 7, 3) by decide +kernel) (by decide) (fun hc => ?_) (fun hc => ?_)
    · have h := ht hc
      refine go_iconst (show decode cX9_isShift 18 = .ok (.iconst 0, 1) by decide +kernel) (by decide) ?_
      exact go_zret (show decode cX9_isShift 19 = .ok (.ireturn, 1) by decide +kernel) rfl (by decide) h
    · have h := hf hc
      refine go_iconst (show decode cX9_isShift 14 = .ok (.iconst 1, 1) by decide +kernel) (by decide) ?_
      refine go_goto (tgt := 19) (show decode cX9_isShift 15 = .ok (.goto 4, 3) by decide +kernel) (by decide) ?_
      exact go_zret (show decode cX9_isShift 19 = .ok (.ireturn, 1) by decide +kernel) rfl (by decide) h
def V_X9_level_259 (d : Nat) (S : AS) (F : AF) (G : AG) (Q : AQ) (a0 : Nat) (a1 : Int) (a2 : Int) (a3 : Int) (a4 : Int) (a5 : Int) (a6 : Int) (a8 : Int) (a10 : Int) (a12 : Int) (a14 : Int) (a16 : Int) (a17 : Int) : Prop :=
  (sK S a0 = 9) ∧
  (1 ≤ d) ∧
  (sK S (sR S a0 0) = 2) ∧
  Ok (d - 1) MX2_trialRefusal [vR (sR S a0 0), vI a1] S F G (fun w3 S4 F5 G6 =>
  ∃ z8 : Int, w3 = some (vI z8) ∧
  ((z8 = 0) →
    (sK S4 a0 = 9) ∧
    Ok (d - 1) MX9_keep [vR a0, vI 3, vI a1, vJ a6] S4 F5 G6 (fun w9 S10 F11 G12 =>
    w9 = none ∧
    Q (some (vJ a12)) S10 F11 G12)) ∧
  ((¬ z8 = 0) →
    Q (some (vJ z8)) S4 F5 G6))
theorem R_X9_level_259 {d : Nat} {S : AS} {F : AF} {G : AG} {Q : AQ} {a0 : Nat} {a1 : Int} {a2 : Int} {a3 : Int} {a4 : Int} {a5 : Int} {a6 : Int} {a8 : Int} {a10 : Int} {a12 : Int} {a14 : Int} {a16 : Int} {a17 : Int} (h : V_X9_level_259 d S F G Q a0 a1 a2 a3 a4 a5 a6 a8 a10 a12 a14 a16 a17) : Go d MX9_level 259 [some (vR a0), some (vI a1), some (vI a2), some (vI a3), some (vI a4), some (vI a5), some (vJ a6), none, some (vJ a8), none, some (vJ a10), none, some (vJ a12), none, some (vJ a14), none, some (vI a16), some (vI a17), none] [] S F G Q := by
  unfold V_X9_level_259 at h
  refine go_aload_n (show decode cX9_level 259 = .ok (.aload_n 0, 1) by decide +kernel) (by rfl) ?_
  obtain ⟨q1, h⟩ := h
  refine go_getR (show decode cX9_level 260 = .ok (.getfield 12, 3) by decide +kernel) fl_X9_12 rfl q1 ?_
  refine go_iload_n (show decode cX9_level 263 = .ok (.iload_n 1, 1) by decide +kernel) (by rfl) ?_
  obtain ⟨q2, h⟩ := h
  obtain ⟨q7, h⟩ := h
  refine go_callV (d2 := d - 1) (M2 := MX2_trialRefusal) (n := 1) (ci := 2) (av := [vI a1]) (st := []) (show decode cX9_level 264 = .ok (.invokevirtual 172, 3) by decide +kernel) ml_X9_172 mt_X2_trialRefusal min_X2_trialRefusal mse_X2_trialRefusal (by decide) q7 rfl (Nat.le_of_ble_eq_true rfl) (by omega) (ok_mono h (fun w3 S4 F5 G6 h => ?_))
  obtain ⟨z8, e9, h⟩ := h
  subst e9
  show Go d MX9_level 267 [some (vR a0), some (vI a1), some (vI a2), some (vI a3), some (vI a4), some (vI a5), some (vJ a6), none, some (vJ a8), none, some (vJ a10), none, some (vJ a12), none, some (vJ a14), none, some (vI a16), some (vI a17), none] [vI z8] S4 F5 G6 Q
  refine go_istore (show decode cX9_level 267 = .ok (.istore 18, 2) by decide +kernel) (by decide) ?_
  show Go d MX9_level 269 [some (vR a0), some (vI a1), some (vI a2), some (vI a3), some (vI a4), some (vI a5), some (vJ a6), none, some (vJ a8), none, some (vJ a10), none, some (vJ a12), none, some (vJ a14), none, some (vI a16), some (vI a17), some (vI z8)] [] S4 F5 G6 Q
  refine go_iload (show decode cX9_level 269 = .ok (.iload 18, 2) by decide +kernel) (by rfl) ?_
  obtain ⟨ht, hf⟩ := h
  refine go_ifeq (tgt := 278) (show decode cX9_level 271 = .ok (.ifCond .eq 7, 3) by decide +kernel) (by decide) (fun hc => ?_) (fun hc => ?_)
  · have h := ht hc
    refine go_aload_n (show decode cX9_level 278 = .ok (.aload_n 0, 1) by decide +kernel) (by rfl) ?_
    refine go_iconst (show decode cX9_level 279 = .ok (.iconst 3, 1) by decide +kernel) (by decide) ?_
    refine go_iload_n (show decode cX9_level 280 = .ok (.iload_n 1, 1) by decide +kernel) (by rfl) ?_
    refine go_lload (show decode cX9_level 281 = .ok (.lload 6, 2) by decide +kernel) (by rfl) ?_
    obtain ⟨q13, h⟩ := h
    refine go_callV (d2 := d - 1) (M2 := MX9_keep) (n := 3) (ci := 9) (av := [vI 3, vI a1, vJ a6]) (st := []) (show decode cX9_level 283 = .ok (.invokevirtual 100, 3) by decide +kernel) ml_X9_100 mt_X9_keep min_X9_keep mse_X9_keep (by decide) q13 rfl (Nat.le_of_ble_eq_true rfl) (by omega) (ok_mono h (fun w9 S10 F11 G12 h => ?_))
    obtain ⟨e9, h⟩ := h
    subst e9
    show Go d MX9_level 286 [some (vR a0), some (vI a1), some (vI a2), some (vI a3), some (vI a4), some (vI a5), some (vJ a6), none, some (vJ a8), none, some (vJ a10), none, some (vJ a12), none, some (vJ a14), none, some (vI a16), some (vI a17), some (vI z8)] [] S10 F11 G12 Q
    refine go_lload (show decode cX9_level 286 = .ok (.lload 12, 2) by decide +kernel) (by rfl) ?_
    exact go_lret (show decode cX9_level 288 = .ok (.lreturn, 1) by decide +kernel) rfl h
  · have h := hf hc
    refine go_iload (show decode cX9_level 274 = .ok (.iload 18, 2) by decide +kernel) (by rfl) ?_
    refine go_i2l (show decode cX9_level 276 = .ok (.i2l, 1) by decide +kernel) ?_
    exact go_lret (show decode cX9_level 277 = .ok (.lreturn, 1) by decide +kernel) rfl h
def V_X9_level_178 (d : Nat) (S : AS) (F : AF) (G : AG) (Q : AQ) (a0 : Nat) (a1 : Int) (a2 : Int) (a3 : Int) (a4 : Int) (a5 : Int) (a6 : Int) (a8 : Int) (a10 : Int) (a12 : Int) (a14 : Int) (a16 : Int) (a17 : Int) : Prop :=
  (sK S a0 = 9) ∧
  (1 ≤ d) ∧
  (sK S (sR S a0 0) = 2) ∧
  Ok (d - 1) MX2_plansTooMany [vR (sR S a0 0)] S F G (fun w3 S4 F5 G6 =>
  ∃ z8 : Int, w3 = some (vI z8) ∧
  ((z8 = 0) →
    (sK S4 a0 = 9) ∧
    (sK S4 (sR S4 a0 0) = 2) ∧
    Ok (d - 1) MX2_startTrial [vR (sR S4 a0 0), vI a1] S4 F5 G6 (fun w10 S11 F12 G13 =>
    w10 = none ∧
    (sK S11 a0 = 9) ∧
    (sK S11 (sR S11 a0 0) = 2) ∧
    Ok (d - 1) MX2_fill [vR (sR S11 a0 0), vI a2, vI a3, vI a4, vI a5, vJ a12] S11 F12 G13 (fun w16 S17 F18 G19 =>
    w16 = none ∧
    ((a14 ≤ 0) →
      V_X9_level_259 d S17 F18 G19 Q a0 a1 a2 a3 a4 a5 a6 a8 a10 a12 a14 a16 a17) ∧
    ((¬ a14 ≤ 0) →
      (sK S17 a0 = 9) ∧
      (r32 (a17 - 1)) ∧
      (r64 (a12 + 1)) ∧
      (sK S17 (sR S17 a0 0) = 2) ∧
      Ok (d - 1) MX2_fill [vR (sR S17 a0 0), vI a2, vI a3, vI a4, vI (a17 - 1), vJ (a12 + 1)] S17 F18 G19 (fun w24 S25 F26 G27 =>
      w24 = none ∧
      (sK S25 a0 = 9) ∧
      (r64 (a12 + 1)) ∧
      (sK S25 (sR S25 a0 0) = 2) ∧
      Ok (d - 1) MX2_fill [vR (sR S25 a0 0), vI a2, vI a17, vI a16, vI a17, vJ (a12 + 1)] S25 F26 G27 (fun w31 S32 F33 G34 =>
      w31 = none ∧
      V_X9_level_259 d S32 F33 G34 Q a0 a1 a2 a3 a4 a5 a6 a8 a10 a12 a14 a16 a17)))))) ∧
  ((¬ z8 = 0) →
    Q (some (vJ (-4))) S4 F5 G6))
theorem R_X9_level_178 {d : Nat} {S : AS} {F : AF} {G : AG} {Q : AQ} {a0 : Nat} {a1 : Int} {a2 : Int} {a3 : Int} {a4 : Int} {a5 : Int} {a6 : Int} {a8 : Int} {a10 : Int} {a12 : Int} {a14 : Int} {a16 : Int} {a17 : Int} (h : V_X9_level_178 d S F G Q a0 a1 a2 a3 a4 a5 a6 a8 a10 a12 a14 a16 a17) : Go d MX9_level 178 [some (vR a0), some (vI a1), some (vI a2), some (vI a3), some (vI a4), some (vI a5), some (vJ a6), none, some (vJ a8), none, some (vJ a10), none, some (vJ a12), none, some (vJ a14), none, some (vI a16), some (vI a17), none] [] S F G Q := by
  unfold V_X9_level_178 at h
  refine go_aload_n (show decode cX9_level 178 = .ok (.aload_n 0, 1) by decide +kernel) (by rfl) ?_
  obtain ⟨q1, h⟩ := h
  refine go_getR (show decode cX9_level 179 = .ok (.getfield 12, 3) by decide +kernel) fl_X9_12 rfl q1 ?_
  obtain ⟨q2, h⟩ := h
  obtain ⟨q7, h⟩ := h
  refine go_callV (d2 := d - 1) (M2 := MX2_plansTooMany) (n := 0) (ci := 2) (av := []) (st := []) (show decode cX9_level 182 = .ok (.invokevirtual 86, 3) by decide +kernel) ml_X9_86 mt_X2_plansTooMany min_X2_plansTooMany mse_X2_plansTooMany (by decide) q7 rfl (Nat.le_of_ble_eq_true rfl) (by omega) (ok_mono h (fun w3 S4 F5 G6 h => ?_))
  obtain ⟨z8, e9, h⟩ := h
  subst e9
  show Go d MX9_level 185 [some (vR a0), some (vI a1), some (vI a2), some (vI a3), some (vI a4), some (vI a5), some (vJ a6), none, some (vJ a8), none, some (vJ a10), none, some (vJ a12), none, some (vJ a14), none, some (vI a16), some (vI a17), none] [vI z8] S4 F5 G6 Q
  obtain ⟨ht, hf⟩ := h
  refine go_ifeq (tgt := 192) (show decode cX9_level 185 = .ok (.ifCond .eq 7, 3) by decide +kernel) (by decide) (fun hc => ?_) (fun hc => ?_)
  · have h := ht hc
    refine go_aload_n (show decode cX9_level 192 = .ok (.aload_n 0, 1) by decide +kernel) (by rfl) ?_
    obtain ⟨q9, h⟩ := h
    refine go_getR (show decode cX9_level 193 = .ok (.getfield 12, 3) by decide +kernel) fl_X9_12 rfl q9 ?_
    refine go_iload_n (show decode cX9_level 196 = .ok (.iload_n 1, 1) by decide +kernel) (by rfl) ?_
    obtain ⟨q14, h⟩ := h
    refine go_callV (d2 := d - 1) (M2 := MX2_startTrial) (n := 1) (ci := 2) (av := [vI a1]) (st := []) (show decode cX9_level 197 = .ok (.invokevirtual 92, 3) by decide +kernel) ml_X9_92 mt_X2_startTrial min_X2_startTrial mse_X2_startTrial (by decide) q14 rfl (Nat.le_of_ble_eq_true rfl) (by omega) (ok_mono h (fun w10 S11 F12 G13 h => ?_))
    obtain ⟨e9, h⟩ := h
    subst e9
    show Go d MX9_level 200 [some (vR a0), some (vI a1), some (vI a2), some (vI a3), some (vI a4), some (vI a5), some (vJ a6), none, some (vJ a8), none, some (vJ a10), none, some (vJ a12), none, some (vJ a14), none, some (vI a16), some (vI a17), none] [] S11 F12 G13 Q
    refine go_aload_n (show decode cX9_level 200 = .ok (.aload_n 0, 1) by decide +kernel) (by rfl) ?_
    obtain ⟨q15, h⟩ := h
    refine go_getR (show decode cX9_level 201 = .ok (.getfield 12, 3) by decide +kernel) fl_X9_12 rfl q15 ?_
    refine go_iload_n (show decode cX9_level 204 = .ok (.iload_n 2, 1) by decide +kernel) (by rfl) ?_
    refine go_iload_n (show decode cX9_level 205 = .ok (.iload_n 3, 1) by decide +kernel) (by rfl) ?_
    refine go_iload (show decode cX9_level 206 = .ok (.iload 4, 2) by decide +kernel) (by rfl) ?_
    refine go_iload (show decode cX9_level 208 = .ok (.iload 5, 2) by decide +kernel) (by rfl) ?_
    refine go_lload (show decode cX9_level 210 = .ok (.lload 12, 2) by decide +kernel) (by rfl) ?_
    obtain ⟨q20, h⟩ := h
    refine go_callV (d2 := d - 1) (M2 := MX2_fill) (n := 5) (ci := 2) (av := [vI a2, vI a3, vI a4, vI a5, vJ a12]) (st := []) (show decode cX9_level 212 = .ok (.invokevirtual 135, 3) by decide +kernel) ml_X9_135 mt_X2_fill min_X2_fill mse_X2_fill (by decide) q20 rfl (Nat.le_of_ble_eq_true rfl) (by omega) (ok_mono h (fun w16 S17 F18 G19 h => ?_))
    obtain ⟨e9, h⟩ := h
    subst e9
    show Go d MX9_level 215 [some (vR a0), some (vI a1), some (vI a2), some (vI a3), some (vI a4), some (vI a5), some (vJ a6), none, some (vJ a8), none, some (vJ a10), none, some (vJ a12), none, some (vJ a14), none, some (vI a16), some (vI a17), none] [] S17 F18 G19 Q
    refine go_lload (show decode cX9_level 215 = .ok (.lload 14, 2) by decide +kernel) (by rfl) ?_
    refine go_lconst (n := 0) (show decode cX9_level 217 = .ok (.lconst 0, 1) by decide +kernel) ?_
    show Go d MX9_level 218 [some (vR a0), some (vI a1), some (vI a2), some (vI a3), some (vI a4), some (vI a5), some (vJ a6), none, some (vJ a8), none, some (vJ a10), none, some (vJ a12), none, some (vJ a14), none, some (vI a16), some (vI a17), none] [vJ 0, vJ a14] S17 F18 G19 Q
    obtain ⟨ht, hf⟩ := h
    refine go_jle (tgt := 259) (show decode cX9_level 218 = .ok (.lcmp, 1) by decide +kernel) (show decode cX9_level 219 = .ok (.ifCond .le 40, 3) by decide +kernel) (by decide) (fun hc => ?_) (fun hc => ?_)
    · have h := ht hc
      exact R_X9_level_259 h
    · have h := hf hc
      refine go_aload_n (show decode cX9_level 222 = .ok (.aload_n 0, 1) by decide +kernel) (by rfl) ?_
      obtain ⟨q21, h⟩ := h
      refine go_getR (show decode cX9_level 223 = .ok (.getfield 12, 3) by decide +kernel) fl_X9_12 rfl q21 ?_
      refine go_iload_n (show decode cX9_level 226 = .ok (.iload_n 2, 1) by decide +kernel) (by rfl) ?_
      refine go_iload_n (show decode cX9_level 227 = .ok (.iload_n 3, 1) by decide +kernel) (by rfl) ?_
      refine go_iload (show decode cX9_level 228 = .ok (.iload 4, 2) by decide +kernel) (by rfl) ?_
      refine go_iload (show decode cX9_level 230 = .ok (.iload 17, 2) by decide +kernel) (by rfl) ?_
      refine go_iconst (show decode cX9_level 232 = .ok (.iconst 1, 1) by decide +kernel) (by decide) ?_
      obtain ⟨q22, h⟩ := h
      refine go_isub (show decode cX9_level 233 = .ok (.isub, 1) by decide +kernel) q22 ?_
      refine go_lload (show decode cX9_level 234 = .ok (.lload 12, 2) by decide +kernel) (by rfl) ?_
      refine go_lconst (n := 1) (show decode cX9_level 236 = .ok (.lconst 1, 1) by decide +kernel) ?_
      show Go d MX9_level 237 [some (vR a0), some (vI a1), some (vI a2), some (vI a3), some (vI a4), some (vI a5), some (vJ a6), none, some (vJ a8), none, some (vJ a10), none, some (vJ a12), none, some (vJ a14), none, some (vI a16), some (vI a17), none] [vJ 1, vJ a12, vI (a17 - 1), vI a4, vI a3, vI a2, vR (sR S17 a0 0)] S17 F18 G19 Q
      obtain ⟨q23, h⟩ := h
      refine go_ladd (show decode cX9_level 237 = .ok (.ladd, 1) by decide +kernel) q23 ?_
      obtain ⟨q28, h⟩ := h
      refine go_callV (d2 := d - 1) (M2 := MX2_fill) (n := 5) (ci := 2) (av := [vI a2, vI a3, vI a4, vI (a17 - 1), vJ (a12 + 1)]) (st := []) (show decode cX9_level 238 = .ok (.invokevirtual 135, 3) by decide +kernel) ml_X9_135 mt_X2_fill min_X2_fill mse_X2_fill (by decide) q28 rfl (Nat.le_of_ble_eq_true rfl) (by omega) (ok_mono h (fun w24 S25 F26 G27 h => ?_))
      obtain ⟨e9, h⟩ := h
      subst e9
      show Go d MX9_level 241 [some (vR a0), some (vI a1), some (vI a2), some (vI a3), some (vI a4), some (vI a5), some (vJ a6), none, some (vJ a8), none, some (vJ a10), none, some (vJ a12), none, some (vJ a14), none, some (vI a16), some (vI a17), none] [] S25 F26 G27 Q
      refine go_aload_n (show decode cX9_level 241 = .ok (.aload_n 0, 1) by decide +kernel) (by rfl) ?_
      obtain ⟨q29, h⟩ := h
      refine go_getR (show decode cX9_level 242 = .ok (.getfield 12, 3) by decide +kernel) fl_X9_12 rfl q29 ?_
      refine go_iload_n (show decode cX9_level 245 = .ok (.iload_n 2, 1) by decide +kernel) (by rfl) ?_
      refine go_iload (show decode cX9_level 246 = .ok (.iload 17, 2) by decide +kernel) (by rfl) ?_
      refine go_iload (show decode cX9_level 248 = .ok (.iload 16, 2) by decide +kernel) (by rfl) ?_
      refine go_iload (show decode cX9_level 250 = .ok (.iload 17, 2) by decide +kernel) (by rfl) ?_
      refine go_lload (show decode cX9_level 252 = .ok (.lload 12, 2) by decide +kernel) (by rfl) ?_
      refine go_lconst (n := 1) (show decode cX9_level 254 = .ok (.lconst 1, 1) by decide +kernel) ?_
      show Go d MX9_level 255 [some (vR a0), some (vI a1), some (vI a2), some (vI a3), some (vI a4), some (vI a5), some (vJ a6), none, some (vJ a8), none, some (vJ a10), none, some (vJ a12), none, some (vJ a14), none, some (vI a16), some (vI a17), none] [vJ 1, vJ a12, vI a17, vI a16, vI a17, vI a2, vR (sR S25 a0 0)] S25 F26 G27 Q
      obtain ⟨q30, h⟩ := h
      refine go_ladd (show decode cX9_level 255 = .ok (.ladd, 1) by decide +kernel) q30 ?_
      obtain ⟨q35, h⟩ := h
      refine go_callV (d2 := d - 1) (M2 := MX2_fill) (n := 5) (ci := 2) (av := [vI a2, vI a17, vI a16, vI a17, vJ (a12 + 1)]) (st := []) (show decode cX9_level 256 = .ok (.invokevirtual 135, 3) by decide +kernel) ml_X9_135 mt_X2_fill min_X2_fill mse_X2_fill (by decide) q35 rfl (Nat.le_of_ble_eq_true rfl) (by omega) (ok_mono h (fun w31 S32 F33 G34 h => ?_))
      obtain ⟨e9, h⟩ := h
      subst e9
      show Go d MX9_level 259 [some (vR a0), some (vI a1), some (vI a2), some (vI a3), some (vI a4), some (vI a5), some (vJ a6), none, some (vJ a8), none, some (vJ a10), none, some (vJ a12), none, some (vJ a14), none, some (vI a16), some (vI a17), none] [] S32 F33 G34 Q
      exact R_X9_level_259 h
  · have h := hf hc
    refine go_ldc2 (show decode cX9_level 188 = .ok (.ldc2_w 90, 3) by decide +kernel) lc_X9_90 (by decide) ?_
    exact go_lret (show decode cX9_level 191 = .ok (.lreturn, 1) by decide +kernel) rfl h
def V_X9_level_127 (d : Nat) (S : AS) (F : AF) (G : AG) (Q : AQ) (a0 : Nat) (a1 : Int) (a2 : Int) (a3 : Int) (a4 : Int) (a5 : Int) (a6 : Int) (a8 : Int) (a10 : Int) (a12 : Int) (a14 : Int) (a16 : Int) (s0 : Int) : Prop :=
  (sK S a0 = 9) ∧
  (1 ≤ d) ∧
  (sK S (sR S a0 0) = 2) ∧
  Ok (d - 1) MX2_plan [vR (sR S a0 0), vR (sR S a0 4)] S F G (fun w3 S4 F5 G6 =>
  w3 = none ∧
  ((a14 ≤ 0) →
    V_X9_level_178 d S4 F5 G6 Q a0 a1 a2 a3 a4 a5 a6 a8 a10 a12 a14 a16 s0) ∧
  ((¬ a14 ≤ 0) →
    (sK S4 a0 = 9) ∧
    (sK S4 (sR S4 a0 0) = 2) ∧
    (sK S4 (sR S4 (sR S4 a0 0) 0) = 0) ∧
    (r32 (a16 + 1)) ∧
    (sK S4 (sR S4 (sR S4 (sR S4 a0 0) 0) 1) = 1) ∧
    Ok (d - 1) MX1_put [vR (sR S4 (sR S4 (sR S4 a0 0) 0) 1), vI (a16 + 1)] S4 F5 G6 (fun w12 S13 F14 G15 =>
    w12 = none ∧
    (sK S13 a0 = 9) ∧
    (sK S13 (sR S13 a0 0) = 2) ∧
    (sK S13 (sR S13 (sR S13 a0 0) 1) = 0) ∧
    Ok (d - 1) MX0_planSpan [vR (sR S13 (sR S13 a0 0) 1), vI s0, vI s0] S13 F14 G15 (fun w19 S20 F21 G22 =>
    w19 = none ∧
    V_X9_level_178 d S20 F21 G22 Q a0 a1 a2 a3 a4 a5 a6 a8 a10 a12 a14 a16 s0))))
theorem R_X9_level_127 {d : Nat} {S : AS} {F : AF} {G : AG} {Q : AQ} {a0 : Nat} {a1 : Int} {a2 : Int} {a3 : Int} {a4 : Int} {a5 : Int} {a6 : Int} {a8 : Int} {a10 : Int} {a12 : Int} {a14 : Int} {a16 : Int} {s0 : Int} (h : V_X9_level_127 d S F G Q a0 a1 a2 a3 a4 a5 a6 a8 a10 a12 a14 a16 s0) : Go d MX9_level 127 [some (vR a0), some (vI a1), some (vI a2), some (vI a3), some (vI a4), some (vI a5), some (vJ a6), none, some (vJ a8), none, some (vJ a10), none, some (vJ a12), none, some (vJ a14), none, some (vI a16), none, none] [vI s0] S F G Q := by
  unfold V_X9_level_127 at h
  refine go_istore (show decode cX9_level 127 = .ok (.istore 17, 2) by decide +kernel) (by decide) ?_
  show Go d MX9_level 129 [some (vR a0), some (vI a1), some (vI a2), some (vI a3), some (vI a4), some (vI a5), some (vJ a6), none, some (vJ a8), none, some (vJ a10), none, some (vJ a12), none, some (vJ a14), none, some (vI a16), some (vI s0), none] [] S F G Q
  refine go_aload_n (show decode cX9_level 129 = .ok (.aload_n 0, 1) by decide +kernel) (by rfl) ?_
  obtain ⟨q1, h⟩ := h
  refine go_getR (show decode cX9_level 130 = .ok (.getfield 12, 3) by decide +kernel) fl_X9_12 rfl q1 ?_
  refine go_aload_n (show decode cX9_level 133 = .ok (.aload_n 0, 1) by decide +kernel) (by rfl) ?_
  refine go_getR (show decode cX9_level 134 = .ok (.getfield 42, 3) by decide +kernel) fl_X9_42 rfl q1 ?_
  obtain ⟨q2, h⟩ := h
  obtain ⟨q7, h⟩ := h
  refine go_callV (d2 := d - 1) (M2 := MX2_plan) (n := 1) (ci := 2) (av := [vR (sR S a0 4)]) (st := []) (show decode cX9_level 137 = .ok (.invokevirtual 82, 3) by decide +kernel) ml_X9_82 mt_X2_plan min_X2_plan mse_X2_plan (by decide) q7 rfl (Nat.le_of_ble_eq_true rfl) (by omega) (ok_mono h (fun w3 S4 F5 G6 h => ?_))
  obtain ⟨e9, h⟩ := h
  subst e9
  show Go d MX9_level 140 [some (vR a0), some (vI a1), some (vI a2), some (vI a3), some (vI a4), some (vI a5), some (vJ a6), none, some (vJ a8), none, some (vJ a10), none, some (vJ a12), none, some (vJ a14), none, some (vI a16), some (vI s0), none] [] S4 F5 G6 Q
  refine go_lload (show decode cX9_level 140 = .ok (.lload 14, 2) by decide +kernel) (by rfl) ?_
  refine go_lconst (n := 0) (show decode cX9_level 142 = .ok (.lconst 0, 1) by decide +kernel) ?_
  show Go d MX9_level 143 [some (vR a0), some (vI a1), some (vI a2), some (vI a3), some (vI a4), some (vI a5), some (vJ a6), none, some (vJ a8), none, some (vJ a10), none, some (vJ a12), none, some (vJ a14), none, some (vI a16), some (vI s0), none] [vJ 0, vJ a14] S4 F5 G6 Q
  obtain ⟨ht, hf⟩ := h
  refine go_jle (tgt := 178) (show decode cX9_level 143 = .ok (.lcmp, 1) by decide +kernel) (show decode cX9_level 144 = .ok (.ifCond .le 34, 3) by decide +kernel) (by decide) (fun hc => ?_) (fun hc => ?_)
  · have h := ht hc
    exact R_X9_level_178 h
  · have h := hf hc
    refine go_aload_n (show decode cX9_level 147 = .ok (.aload_n 0, 1) by decide +kernel) (by rfl) ?_
    obtain ⟨q8, h⟩ := h
    refine go_getR (show decode cX9_level 148 = .ok (.getfield 12, 3) by decide +kernel) fl_X9_12 rfl q8 ?_
    obtain ⟨q9, h⟩ := h
    refine go_getR (show decode cX9_level 151 = .ok (.getfield 122, 3) by decide +kernel) fl_X9_122 rfl q9 ?_
    obtain ⟨q10, h⟩ := h
    refine go_getR (show decode cX9_level 154 = .ok (.getfield 191, 3) by decide +kernel) fl_X9_191 rfl q10 ?_
    refine go_iload (show decode cX9_level 157 = .ok (.iload 16, 2) by decide +kernel) (by rfl) ?_
    refine go_iconst (show decode cX9_level 159 = .ok (.iconst 1, 1) by decide +kernel) (by decide) ?_
    obtain ⟨q11, h⟩ := h
    refine go_iadd (show decode cX9_level 160 = .ok (.iadd, 1) by decide +kernel) q11 ?_
    obtain ⟨q16, h⟩ := h
    refine go_callV (d2 := d - 1) (M2 := MX1_put) (n := 1) (ci := 1) (av := [vI (a16 + 1)]) (st := []) (show decode cX9_level 161 = .ok (.invokevirtual 195, 3) by decide +kernel) ml_X9_195 mt_X1_put min_X1_put mse_X1_put (by decide) q16 rfl (Nat.le_of_ble_eq_true rfl) (by omega) (ok_mono h (fun w12 S13 F14 G15 h => ?_))
    obtain ⟨e9, h⟩ := h
    subst e9
    show Go d MX9_level 164 [some (vR a0), some (vI a1), some (vI a2), some (vI a3), some (vI a4), some (vI a5), some (vJ a6), none, some (vJ a8), none, some (vJ a10), none, some (vJ a12), none, some (vJ a14), none, some (vI a16), some (vI s0), none] [] S13 F14 G15 Q
    refine go_aload_n (show decode cX9_level 164 = .ok (.aload_n 0, 1) by decide +kernel) (by rfl) ?_
    obtain ⟨q17, h⟩ := h
    refine go_getR (show decode cX9_level 165 = .ok (.getfield 12, 3) by decide +kernel) fl_X9_12 rfl q17 ?_
    obtain ⟨q18, h⟩ := h
    refine go_getR (show decode cX9_level 168 = .ok (.getfield 132, 3) by decide +kernel) fl_X9_132 rfl q18 ?_
    refine go_iload (show decode cX9_level 171 = .ok (.iload 17, 2) by decide +kernel) (by rfl) ?_
    refine go_iload (show decode cX9_level 173 = .ok (.iload 17, 2) by decide +kernel) (by rfl) ?_
    obtain ⟨q23, h⟩ := h
    refine go_callV (d2 := d - 1) (M2 := MX0_planSpan) (n := 2) (ci := 0) (av := [vI s0, vI s0]) (st := []) (show decode cX9_level 175 = .ok (.invokevirtual 126, 3) by decide +kernel) ml_X9_126 mt_X0_planSpan min_X0_planSpan mse_X0_planSpan (by decide) q23 rfl (Nat.le_of_ble_eq_true rfl) (by omega) (ok_mono h (fun w19 S20 F21 G22 h => ?_))
    obtain ⟨e9, h⟩ := h
    subst e9
    show Go d MX9_level 178 [some (vR a0), some (vI a1), some (vI a2), some (vI a3), some (vI a4), some (vI a5), some (vJ a6), none, some (vJ a8), none, some (vJ a10), none, some (vJ a12), none, some (vJ a14), none, some (vI a16), some (vI s0), none] [] S20 F21 G22 Q
    exact R_X9_level_178 h
def V_X9_level_102 (d : Nat) (S : AS) (F : AF) (G : AG) (Q : AQ) (a0 : Nat) (a1 : Int) (a2 : Int) (a3 : Int) (a4 : Int) (a5 : Int) (a6 : Int) (a8 : Int) (a10 : Int) (a12 : Int) (a14 : Int) (s0 : Int) : Prop :=
  ((a14 ≤ 0) →
    V_X9_level_127 d S F G Q a0 a1 a2 a3 a4 a5 a6 a8 a10 a12 a14 s0 a5) ∧
  ((¬ a14 ≤ 0) →
    (r64 (a14 - 1)) ∧
    (¬ a10 = 0) ∧
    (r64 (Int.tdiv (a14 - 1) a10)) ∧
    (r64 (a3 + (Int.tdiv (a14 - 1) a10))) ∧
    (r32 (a3 + (Int.tdiv (a14 - 1) a10))) ∧
    V_X9_level_127 d S F G Q a0 a1 a2 a3 a4 a5 a6 a8 a10 a12 a14 s0 (a3 + (Int.tdiv (a14 - 1) a10)))
theorem R_X9_level_102 {d : Nat} {S : AS} {F : AF} {G : AG} {Q : AQ} {a0 : Nat} {a1 : Int} {a2 : Int} {a3 : Int} {a4 : Int} {a5 : Int} {a6 : Int} {a8 : Int} {a10 : Int} {a12 : Int} {a14 : Int} {s0 : Int} (h : V_X9_level_102 d S F G Q a0 a1 a2 a3 a4 a5 a6 a8 a10 a12 a14 s0) : Go d MX9_level 102 [some (vR a0), some (vI a1), some (vI a2), some (vI a3), some (vI a4), some (vI a5), some (vJ a6), none, some (vJ a8), none, some (vJ a10), none, some (vJ a12), none, some (vJ a14), none, none, none, none] [vI s0] S F G Q := by
  unfold V_X9_level_102 at h
  refine go_istore (show decode cX9_level 102 = .ok (.istore 16, 2) by decide +kernel) (by decide) ?_
  show Go d MX9_level 104 [some (vR a0), some (vI a1), some (vI a2), some (vI a3), some (vI a4), some (vI a5), some (vJ a6), none, some (vJ a8), none, some (vJ a10), none, some (vJ a12), none, some (vJ a14), none, some (vI s0), none, none] [] S F G Q
  refine go_lload (show decode cX9_level 104 = .ok (.lload 14, 2) by decide +kernel) (by rfl) ?_
  refine go_lconst (n := 0) (show decode cX9_level 106 = .ok (.lconst 0, 1) by decide +kernel) ?_
  show Go d MX9_level 107 [some (vR a0), some (vI a1), some (vI a2), some (vI a3), some (vI a4), some (vI a5), some (vJ a6), none, some (vJ a8), none, some (vJ a10), none, some (vJ a12), none, some (vJ a14), none, some (vI s0), none, none] [vJ 0, vJ a14] S F G Q
  obtain ⟨ht, hf⟩ := h
  refine go_jle (tgt := 125) (show decode cX9_level 107 = .ok (.lcmp, 1) by decide +kernel) (show decode cX9_level 108 = .ok (.ifCond .le 17, 3) by decide +kernel) (by decide) (fun hc => ?_) (fun hc => ?_)
  · have h := ht hc
    refine go_iload (show decode cX9_level 125 = .ok (.iload 5, 2) by decide +kernel) (by rfl) ?_
    exact R_X9_level_127 h
  · have h := hf hc
    refine go_iload_n (show decode cX9_level 111 = .ok (.iload_n 3, 1) by decide +kernel) (by rfl) ?_
    refine go_i2l (show decode cX9_level 112 = .ok (.i2l, 1) by decide +kernel) ?_
    refine go_lload (show decode cX9_level 113 = .ok (.lload 14, 2) by decide +kernel) (by rfl) ?_
    refine go_lconst (n := 1) (show decode cX9_level 115 = .ok (.lconst 1, 1) by decide +kernel) ?_
    show Go d MX9_level 116 [some (vR a0), some (vI a1), some (vI a2), some (vI a3), some (vI a4), some (vI a5), some (vJ a6), none, some (vJ a8), none, some (vJ a10), none, some (vJ a12), none, some (vJ a14), none, some (vI s0), none, none] [vJ 1, vJ a14, vJ a3] S F G Q
    obtain ⟨q1, h⟩ := h
    refine go_lsub (show decode cX9_level 116 = .ok (.lsub, 1) by decide +kernel) q1 ?_
    refine go_lload (show decode cX9_level 117 = .ok (.lload 10, 2) by decide +kernel) (by rfl) ?_
    obtain ⟨q2, h⟩ := h
    obtain ⟨q3, h⟩ := h
    refine go_ldiv (show decode cX9_level 119 = .ok (.ldiv, 1) by decide +kernel) q2 q3 ?_
    obtain ⟨q4, h⟩ := h
    refine go_ladd (show decode cX9_level 120 = .ok (.ladd, 1) by decide +kernel) q4 ?_
    obtain ⟨q5, h⟩ := h
    refine go_l2i (show decode cX9_level 121 = .ok (.l2i, 1) by decide +kernel) q5 ?_
    refine go_goto (tgt := 127) (show decode cX9_level 122 = .ok (.goto 5, 3) by decide +kernel) (by decide) ?_
    exact R_X9_level_127 h
def V_X9_level_0 (d : Nat) (S : AS) (F : AF) (G : AG) (Q : AQ) (a0 : Nat) (a1 : Int) (a2 : Int) (a3 : Int) (a4 : Int) (a5 : Int) : Prop :=
  (1 ≤ d) ∧
  Ok (d - 1) MX9_isGood [vI a1] S F G (fun w2 S3 F4 G5 =>
  ∃ z6 : Int, w2 = some (vI z6) ∧
  ((z6 = 0) →
    Q (some (vJ (-2))) S3 F4 G5) ∧
  ((¬ z6 = 0) →
    (sK S3 a0 = 9) ∧
    Ok (d - 1) MX9_ask [vR a0, vI a2, vI a3, vI a4, vI a5] S3 F4 G5 (fun w7 S8 F9 G10 =>
    ∃ z12 : Int, w7 = some (vI z12) ∧
    ((¬ z12 = 0) →
      (sK S8 a0 = 9) ∧
      (sK S8 (sR S8 a0 0) = 2) ∧
      Ok (d - 1) MX2_sumOf [vR (sR S8 a0 0), vI a1, vR (sR S8 a0 4)] S8 F9 G10 (fun w14 S15 F16 G17 =>
      ∃ z19 : Int, w14 = some (vJ z19) ∧
      (sK S15 a0 = 9) ∧
      (sK S15 (sR S15 a0 4) = 3) ∧
      Ok (d - 1) MX3_cells [vR (sR S15 a0 4)] S15 F16 G17 (fun w21 S22 F23 G24 =>
      ∃ z26 : Int, w21 = some (vJ z26) ∧
      ∀ x27 : Int, x27 = max 1 z26 →
      (sK S22 a0 = 9) ∧
      (sK S22 (sR S22 a0 4) = 3) ∧
      Ok (d - 1) MX3_width [vR (sR S22 a0 4)] S22 F23 G24 (fun w29 S30 F31 G32 =>
      ∃ z34 : Int, w29 = some (vI z34) ∧
      ∀ x35 : Int, x35 = max 1 z34 →
      (¬ x27 = 0) ∧
      (r64 (Int.tdiv z19 x27)) ∧
      ∀ x38 : Int, x38 = Int.tdiv z19 x27 →
      (r64 (Int.tmod z19 x27)) ∧
      ∀ x40 : Int, x40 = Int.tmod z19 x27 →
      ((x40 ≤ 0) →
        V_X9_level_102 d S30 F31 G32 Q a0 a1 a2 a3 a4 a5 z19 x27 x35 x38 x40 a4) ∧
      ((¬ x40 ≤ 0) →
        (r64 (x40 - 1)) ∧
        (¬ x35 = 0) ∧
        (r64 (Int.tdiv (x40 - 1) x35)) ∧
        (r64 (Int.tmod (x40 - 1) x35)) ∧
        (r64 (a2 + (Int.tmod (x40 - 1) x35))) ∧
        (r32 (a2 + (Int.tmod (x40 - 1) x35))) ∧
        V_X9_level_102 d S30 F31 G32 Q a0 a1 a2 a3 a4 a5 z19 x27 x35 x38 x40 (a2 + (Int.tmod (x40 - 1) x35))))))) ∧
    ((z12 = 0) →
      Q (some (vJ (-2))) S8 F9 G10))))
theorem R_X9_level_0 {d : Nat} {S : AS} {F : AF} {G : AG} {Q : AQ} {a0 : Nat} {a1 : Int} {a2 : Int} {a3 : Int} {a4 : Int} {a5 : Int} (h : V_X9_level_0 d S F G Q a0 a1 a2 a3 a4 a5) : Go d MX9_level 0 [some (vR a0), some (vI a1), some (vI a2), some (vI a3), some (vI a4), some (vI a5), none, none, none, none, none, none, none, none, none, none, none, none, none] [] S F G Q := by
  unfold V_X9_level_0 at h
  refine go_iload_n (show decode cX9_level 0 = .ok (.iload_n 1, 1) by decide +kernel) (by rfl) ?_
  obtain ⟨q1, h⟩ := h
  refine go_callS (d2 := d - 1) (M2 := MX9_isGood) (n := 1) (av := [vI a1]) (st := []) (show decode cX9_level 1 = .ok (.invokestatic 66, 3) by decide +kernel) ml_X9_66 mt_X9_isGood mst_X9_isGood rfl (Nat.le_of_ble_eq_true rfl) (by omega) (ok_mono h (fun w2 S3 F4 G5 h => ?_))
  obtain ⟨z6, e9, h⟩ := h
  subst e9
  show Go d MX9_level 4 [some (vR a0), some (vI a1), some (vI a2), some (vI a3), some (vI a4), some (vI a5), none, none, none, none, none, none, none, none, none, none, none, none, none] [vI z6] S3 F4 G5 Q
  obtain ⟨ht, hf⟩ := h
  refine go_ifeq (tgt := 20) (show decode cX9_level 4 = .ok (.ifCond .eq 16, 3) by decide +kernel) (by decide) (fun hc => ?_) (fun hc => ?_)
  · have h := ht hc
    refine go_ldc2 (show decode cX9_level 20 = .ok (.ldc2_w 74, 3) by decide +kernel) lc_X9_74 (by decide) ?_
    exact go_lret (show decode cX9_level 23 = .ok (.lreturn, 1) by decide +kernel) rfl h
  · have h := hf hc
    refine go_aload_n (show decode cX9_level 7 = .ok (.aload_n 0, 1) by decide +kernel) (by rfl) ?_
    refine go_iload_n (show decode cX9_level 8 = .ok (.iload_n 2, 1) by decide +kernel) (by rfl) ?_
    refine go_iload_n (show decode cX9_level 9 = .ok (.iload_n 3, 1) by decide +kernel) (by rfl) ?_
    refine go_iload (show decode cX9_level 10 = .ok (.iload 4, 2) by decide +kernel) (by rfl) ?_
    refine go_iload (show decode cX9_level 12 = .ok (.iload 5, 2) by decide +kernel) (by rfl) ?_
    obtain ⟨q11, h⟩ := h
    refine go_callV (d2 := d - 1) (M2 := MX9_ask) (n := 4) (ci := 9) (av := [vI a2, vI a3, vI a4, vI a5]) (st := []) (show decode cX9_level 14 = .ok (.invokevirtual 70, 3) by decide +kernel) ml_X9_70 mt_X9_ask min_X9_ask mse_X9_ask (by decide) q11 rfl (Nat.le_of_ble_eq_true rfl) (by omega) (ok_mono h (fun w7 S8 F9 G10 h => ?_))
    obtain ⟨z12, e9, h⟩ := h
    subst e9
    show Go d MX9_level 17 [some (vR a0), some (vI a1), some (vI a2), some (vI a3), some (vI a4), some (vI a5), none, none, none, none, none, none, none, none, none, none, none, none, none] [vI z12] S8 F9 G10 Q
    obtain ⟨ht, hf⟩ := h
    refine go_ifne (tgt := 24) (show decode cX9_level 17 = .ok (.ifCond .ne 7, 3) by decide +kernel) (by decide) (fun hc => ?_) (fun hc => ?_)
    · have h := ht hc
      refine go_aload_n (show decode cX9_level 24 = .ok (.aload_n 0, 1) by decide +kernel) (by rfl) ?_
      obtain ⟨q13, h⟩ := h
      refine go_getR (show decode cX9_level 25 = .ok (.getfield 12, 3) by decide +kernel) fl_X9_12 rfl q13 ?_
      refine go_iload_n (show decode cX9_level 28 = .ok (.iload_n 1, 1) by decide +kernel) (by rfl) ?_
      refine go_aload_n (show decode cX9_level 29 = .ok (.aload_n 0, 1) by decide +kernel) (by rfl) ?_
      refine go_getR (show decode cX9_level 30 = .ok (.getfield 42, 3) by decide +kernel) fl_X9_42 rfl q13 ?_
      obtain ⟨q18, h⟩ := h
      refine go_callV (d2 := d - 1) (M2 := MX2_sumOf) (n := 2) (ci := 2) (av := [vI a1, vR (sR S8 a0 4)]) (st := []) (show decode cX9_level 33 = .ok (.invokevirtual 103, 3) by decide +kernel) ml_X9_103 mt_X2_sumOf min_X2_sumOf mse_X2_sumOf (by decide) q18 rfl (Nat.le_of_ble_eq_true rfl) (by omega) (ok_mono h (fun w14 S15 F16 G17 h => ?_))
      obtain ⟨z19, e9, h⟩ := h
      subst e9
      show Go d MX9_level 36 [some (vR a0), some (vI a1), some (vI a2), some (vI a3), some (vI a4), some (vI a5), none, none, none, none, none, none, none, none, none, none, none, none, none] [vJ z19] S15 F16 G17 Q
      refine go_lstore (show decode cX9_level 36 = .ok (.lstore 6, 2) by decide +kernel) (by decide) ?_
      show Go d MX9_level 38 [some (vR a0), some (vI a1), some (vI a2), some (vI a3), some (vI a4), some (vI a5), some (vJ z19), none, none, none, none, none, none, none, none, none, none, none, none] [] S15 F16 G17 Q
      refine go_lconst (n := 1) (show decode cX9_level 38 = .ok (.lconst 1, 1) by decide +kernel) ?_
      show Go d MX9_level 39 [some (vR a0), some (vI a1), some (vI a2), some (vI a3), some (vI a4), some (vI a5), some (vJ z19), none, none, none, none, none, none, none, none, none, none, none, none] [vJ 1] S15 F16 G17 Q
      refine go_aload_n (show decode cX9_level 39 = .ok (.aload_n 0, 1) by decide +kernel) (by rfl) ?_
      obtain ⟨q20, h⟩ := h
      refine go_getR (show decode cX9_level 40 = .ok (.getfield 42, 3) by decide +kernel) fl_X9_42 rfl q20 ?_
      obtain ⟨q25, h⟩ := h
      refine go_callV (d2 := d - 1) (M2 := MX3_cells) (n := 0) (ci := 3) (av := []) (st := [vJ 1]) (show decode cX9_level 43 = .ok (.invokevirtual 62, 3) by decide +kernel) ml_X9_62 mt_X3_cells min_X3_cells mse_X3_cells (by decide) q25 rfl (Nat.le_of_ble_eq_true rfl) (by omega) (ok_mono h (fun w21 S22 F23 G24 h => ?_))
      obtain ⟨z26, e9, h⟩ := h
      subst e9
      show Go d MX9_level 46 [some (vR a0), some (vI a1), some (vI a2), some (vI a3), some (vI a4), some (vI a5), some (vJ z19), none, none, none, none, none, none, none, none, none, none, none, none] [vJ z26, vJ 1] S22 F23 G24 Q
      refine go_maxJm (show decode cX9_level 46 = .ok (.invokestatic 178, 3) by decide +kernel) ml_X9_178 mh_maxJ_s mh_i mh_maxJ_c (Nat.le_of_ble_eq_true rfl) q1 ?_
      obtain ⟨x27, x27e⟩ : ∃ x27 : Int, x27 = max 1 z26 := ⟨_, rfl⟩
      have h := h x27 x27e
      rw [← x27e]
      refine go_lstore (show decode cX9_level 49 = .ok (.lstore 8, 2) by decide +kernel) (by decide) ?_
      show Go d MX9_level 51 [some (vR a0), some (vI a1), some (vI a2), some (vI a3), some (vI a4), some (vI a5), some (vJ z19), none, some (vJ x27), none, none, none, none, none, none, none, none, none, none] [] S22 F23 G24 Q
      refine go_iconst (show decode cX9_level 51 = .ok (.iconst 1, 1) by decide +kernel) (by decide) ?_
      refine go_aload_n (show decode cX9_level 52 = .ok (.aload_n 0, 1) by decide +kernel) (by rfl) ?_
      obtain ⟨q28, h⟩ := h
      refine go_getR (show decode cX9_level 53 = .ok (.getfield 42, 3) by decide +kernel) fl_X9_42 rfl q28 ?_
      obtain ⟨q33, h⟩ := h
      refine go_callV (d2 := d - 1) (M2 := MX3_width) (n := 0) (ci := 3) (av := []) (st := [vI 1]) (show decode cX9_level 56 = .ok (.invokevirtual 184, 3) by decide +kernel) ml_X9_184 mt_X3_width min_X3_width mse_X3_width (by decide) q33 rfl (Nat.le_of_ble_eq_true rfl) (by omega) (ok_mono h (fun w29 S30 F31 G32 h => ?_))
      obtain ⟨z34, e9, h⟩ := h
      subst e9
      show Go d MX9_level 59 [some (vR a0), some (vI a1), some (vI a2), some (vI a3), some (vI a4), some (vI a5), some (vJ z19), none, some (vJ x27), none, none, none, none, none, none, none, none, none, none] [vI z34, vI 1] S30 F31 G32 Q
      refine go_maxIm (show decode cX9_level 59 = .ok (.invokestatic 188, 3) by decide +kernel) ml_X9_188 mh_max_s mh_i mh_max_c (Nat.le_of_ble_eq_true rfl) q1 ?_
      refine go_i2l (show decode cX9_level 62 = .ok (.i2l, 1) by decide +kernel) ?_
      obtain ⟨x35, x35e⟩ : ∃ x35 : Int, x35 = max 1 z34 := ⟨_, rfl⟩
      have h := h x35 x35e
      rw [← x35e]
      refine go_lstore (show decode cX9_level 63 = .ok (.lstore 10, 2) by decide +kernel) (by decide) ?_
      show Go d MX9_level 65 [some (vR a0), some (vI a1), some (vI a2), some (vI a3), some (vI a4), some (vI a5), some (vJ z19), none, some (vJ x27), none, some (vJ x35), none, none, none, none, none, none, none, none] [] S30 F31 G32 Q
      refine go_lload (show decode cX9_level 65 = .ok (.lload 6, 2) by decide +kernel) (by rfl) ?_
      refine go_lload (show decode cX9_level 67 = .ok (.lload 8, 2) by decide +kernel) (by rfl) ?_
      obtain ⟨q36, h⟩ := h
      obtain ⟨q37, h⟩ := h
      refine go_ldiv (show decode cX9_level 69 = .ok (.ldiv, 1) by decide +kernel) q36 q37 ?_
      obtain ⟨x38, x38e⟩ : ∃ x38 : Int, x38 = Int.tdiv z19 x27 := ⟨_, rfl⟩
      have h := h x38 x38e
      rw [← x38e]
      refine go_lstore (show decode cX9_level 70 = .ok (.lstore 12, 2) by decide +kernel) (by decide) ?_
      show Go d MX9_level 72 [some (vR a0), some (vI a1), some (vI a2), some (vI a3), some (vI a4), some (vI a5), some (vJ z19), none, some (vJ x27), none, some (vJ x35), none, some (vJ x38), none, none, none, none, none, none] [] S30 F31 G32 Q
      refine go_lload (show decode cX9_level 72 = .ok (.lload 6, 2) by decide +kernel) (by rfl) ?_
      refine go_lload (show decode cX9_level 74 = .ok (.lload 8, 2) by decide +kernel) (by rfl) ?_
      obtain ⟨q39, h⟩ := h
      refine go_lrem (show decode cX9_level 76 = .ok (.lrem, 1) by decide +kernel) q36 q37 q39 ?_
      obtain ⟨x40, x40e⟩ : ∃ x40 : Int, x40 = Int.tmod z19 x27 := ⟨_, rfl⟩
      have h := h x40 x40e
      rw [← x40e]
      refine go_lstore (show decode cX9_level 77 = .ok (.lstore 14, 2) by decide +kernel) (by decide) ?_
      show Go d MX9_level 79 [some (vR a0), some (vI a1), some (vI a2), some (vI a3), some (vI a4), some (vI a5), some (vJ z19), none, some (vJ x27), none, some (vJ x35), none, some (vJ x38), none, some (vJ x40), none, none, none, none] [] S30 F31 G32 Q
      refine go_lload (show decode cX9_level 79 = .ok (.lload 14, 2) by decide +kernel) (by rfl) ?_
      refine go_lconst (n := 0) (show decode cX9_level 81 = .ok (.lconst 0, 1) by decide +kernel) ?_
      show Go d MX9_level 82 [some (vR a0), some (vI a1), some (vI a2), some (vI a3), some (vI a4), some (vI a5), some (vJ z19), none, some (vJ x27), none, some (vJ x35), none, some (vJ x38), none, some (vJ x40), none, none, none, none] [vJ 0, vJ x40] S30 F31 G32 Q
      obtain ⟨ht, hf⟩ := h
      refine go_jle (tgt := 100) (show decode cX9_level 82 = .ok (.lcmp, 1) by decide +kernel) (show decode cX9_level 83 = .ok (.ifCond .le 17, 3) by decide +kernel) (by decide) (fun hc => ?_) (fun hc => ?_)
      · have h := ht hc
        refine go_iload (show decode cX9_level 100 = .ok (.iload 4, 2) by decide +kernel) (by rfl) ?_
        exact R_X9_level_102 h
      · have h := hf hc
        refine go_iload_n (show decode cX9_level 86 = .ok (.iload_n 2, 1) by decide +kernel) (by rfl) ?_
        refine go_i2l (show decode cX9_level 87 = .ok (.i2l, 1) by decide +kernel) ?_
        refine go_lload (show decode cX9_level 88 = .ok (.lload 14, 2) by decide +kernel) (by rfl) ?_
        refine go_lconst (n := 1) (show decode cX9_level 90 = .ok (.lconst 1, 1) by decide +kernel) ?_
        show Go d MX9_level 91 [some (vR a0), some (vI a1), some (vI a2), some (vI a3), some (vI a4), some (vI a5), some (vJ z19), none, some (vJ x27), none, some (vJ x35), none, some (vJ x38), none, some (vJ x40), none, none, none, none] [vJ 1, vJ x40, vJ a2] S30 F31 G32 Q
        obtain ⟨q41, h⟩ := h
        refine go_lsub (show decode cX9_level 91 = .ok (.lsub, 1) by decide +kernel) q41 ?_
        refine go_lload (show decode cX9_level 92 = .ok (.lload 10, 2) by decide +kernel) (by rfl) ?_
        obtain ⟨q42, h⟩ := h
        obtain ⟨q43, h⟩ := h
        obtain ⟨q44, h⟩ := h
        refine go_lrem (show decode cX9_level 94 = .ok (.lrem, 1) by decide +kernel) q42 q43 q44 ?_
        obtain ⟨q45, h⟩ := h
        refine go_ladd (show decode cX9_level 95 = .ok (.ladd, 1) by decide +kernel) q45 ?_
        obtain ⟨q46, h⟩ := h
        refine go_l2i (show decode cX9_level 96 = .ok (.l2i, 1) by decide +kernel) q46 ?_
        refine go_goto (tgt := 102) (show decode cX9_level 97 = .ok (.goto 5, 3) by decide +kernel) (by decide) ?_
        exact R_X9_level_102 h
    · have h := hf hc
      refine go_ldc2 (show decode cX9_level 20 = .ok (.ldc2_w 74, 3) by decide +kernel) lc_X9_74 (by decide) ?_
      exact go_lret (show decode cX9_level 23 = .ok (.lreturn, 1) by decide +kernel) rfl h
