def V_X1_init_0 (d : Nat) (S : AS) (F : AF) (G : AG) (Q : AQ) (a0 : Nat) : Prop :=
  (1 ≤ d) ∧
  (1 ≤ a0) ∧
  (sn S < 999998) ∧
  ∀ x4 : Nat, x4 = sn S + 1 →
  ∀ S5 : AS, S5 = na S 20 105 105 →
  ∀ F6 : AF, F6 = nF S F →
  ∀ G7 : AG, G7 = nG S G →
  (sK S5 a0 = 1) ∧
  (x4 ≤ sn S5) ∧
  ∀ S10 : AS, S10 = ru S5 a0 0 x4 →
  Q none S10 F6 G7
theorem R_X1_init_0 {d : Nat} {S : AS} {F : AF} {G : AG} {Q : AQ} {a0 : Nat} (h : V_X1_init_0 d S F G Q a0) : Go d MX1_init 0 [some (vR a0)] [] S F G Q := by
  unfold V_X1_init_0 at h
  refine go_aload_n (show decode cX1_init 0 = .ok (.aload_n 0, 1) by decide +kernel) (by rfl) ?_
  obtain ⟨q1, h⟩ := h
  obtain ⟨q2, h⟩ := h
  refine go_objInit (show decode cX1_init 1 = .ok (.invokespecial 3, 3) by decide +kernel) ml_X1_3 oi_1 oi_2 q2 (by decide) q1 ?_
  refine go_aload_n (show decode cX1_init 4 = .ok (.aload_n 0, 1) by decide +kernel) (by rfl) ?_
  refine go_bipush (show decode cX1_init 5 = .ok (.bipush 105, 2) by decide +kernel) (by decide) ?_
  obtain ⟨q3, h⟩ := h
  refine go_newa (K := 20) (show decode cX1_init 7 = .ok (.newarray .int, 2) by decide +kernel) rfl (by decide) ar_20 (by decide) (by decide) q3 ?_
  show Go d MX1_init 9 [some (vR a0)] [vR (sn S + 1), vR a0] (na S 20 105 105) (nF S F) (nG S G) Q
  obtain ⟨x4, x4e⟩ : ∃ x4 : Nat, x4 = sn S + 1 := ⟨_, rfl⟩
  have h := h x4 x4e
  rw [← x4e]
  obtain ⟨S5, S5e⟩ : ∃ S5 : AS, S5 = na S 20 105 105 := ⟨_, rfl⟩
  have h := h S5 S5e
  rw [← S5e]
  obtain ⟨F6, F6e⟩ : ∃ F6 : AF, F6 = nF S F := ⟨_, rfl⟩
  have h := h F6 F6e
  rw [← F6e]
  obtain ⟨G7, G7e⟩ : ∃ G7 : AG, G7 = nG S G := ⟨_, rfl⟩
  have h := h G7 G7e
  rw [← G7e]
  obtain ⟨q8, h⟩ := h
  obtain ⟨q9, h⟩ := h
  refine go_putR (show decode cX1_init 9 = .ok (.putfield 9, 3) by decide +kernel) fl_X1_9 rfl (Or.inr ⟨rfl, rfl⟩) q8 q9 ?_
  obtain ⟨S10, S10e⟩ : ∃ S10 : AS, S10 = ru S5 a0 0 x4 := ⟨_, rfl⟩
  have h := h S10 S10e
  rw [← S10e]
  exact go_vret (show decode cX1_init 12 = .ok (.return_, 1) by decide +kernel) rfl h
def V_X1_clear_0 (d : Nat) (S : AS) (F : AF) (G : AG) (Q : AQ) (a0 : Nat) (a1 : Int) : Prop :=
  (sK S a0 = 1) ∧
  ∀ F2 : AF, F2 = fu F a0 2 a1 →
  ∀ F3 : AF, F3 = fu F2 a0 1 1 →
  (sK S (sR S a0 0) = 20) ∧
  ((0 : Int) < (sN S (sR S a0 0) : Int)) ∧
  ∀ G6 : AG, G6 = gu G (sR S a0 0) 0 0 →
  ((1 : Int) < (sN S (sR S a0 0) : Int)) ∧
  ∀ G8 : AG, G8 = gu G6 (sR S a0 0) 1 a1 →
  Q none S F3 G8
theorem R_X1_clear_0 {d : Nat} {S : AS} {F : AF} {G : AG} {Q : AQ} {a0 : Nat} {a1 : Int} (h : V_X1_clear_0 d S F G Q a0 a1) : Go d MX1_clear 0 [some (vR a0), some (vI a1)] [] S F G Q := by
  unfold V_X1_clear_0 at h
  refine go_aload_n (show decode cX1_clear 0 = .ok (.aload_n 0, 1) by decide +kernel) (by rfl) ?_
  refine go_iload_n (show decode cX1_clear 1 = .ok (.iload_n 1, 1) by decide +kernel) (by rfl) ?_
  obtain ⟨q1, h⟩ := h
  refine go_putI (show decode cX1_clear 2 = .ok (.putfield 15, 3) by decide +kernel) fl_X1_15 rfl (Or.inl rfl) q1 ?_
  obtain ⟨F2, F2e⟩ : ∃ F2 : AF, F2 = fu F a0 2 a1 := ⟨_, rfl⟩
  have h := h F2 F2e
  rw [← F2e]
  refine go_aload_n (show decode cX1_clear 5 = .ok (.aload_n 0, 1) by decide +kernel) (by rfl) ?_
  refine go_iconst (show decode cX1_clear 6 = .ok (.iconst 1, 1) by decide +kernel) (by decide) ?_
  refine go_putI (show decode cX1_clear 7 = .ok (.putfield 19, 3) by decide +kernel) fl_X1_19 rfl (Or.inl rfl) q1 ?_
  obtain ⟨F3, F3e⟩ : ∃ F3 : AF, F3 = fu F2 a0 1 1 := ⟨_, rfl⟩
  have h := h F3 F3e
  rw [← F3e]
  refine go_aload_n (show decode cX1_clear 10 = .ok (.aload_n 0, 1) by decide +kernel) (by rfl) ?_
  refine go_getR (show decode cX1_clear 11 = .ok (.getfield 9, 3) by decide +kernel) fl_X1_9 rfl q1 ?_
  refine go_iconst (show decode cX1_clear 14 = .ok (.iconst 0, 1) by decide +kernel) (by decide) ?_
  refine go_iconst (show decode cX1_clear 15 = .ok (.iconst 0, 1) by decide +kernel) (by decide) ?_
  obtain ⟨q4, h⟩ := h
  obtain ⟨q5, h⟩ := h
  refine go_iastore (show decode cX1_clear 16 = .ok (.iastore, 1) by decide +kernel) q4 (by decide) q5  ?_
  obtain ⟨G6, G6e⟩ : ∃ G6 : AG, G6 = gu G (sR S a0 0) 0 0 := ⟨_, rfl⟩
  have h := h G6 G6e
  rw [← G6e]
  refine go_aload_n (show decode cX1_clear 17 = .ok (.aload_n 0, 1) by decide +kernel) (by rfl) ?_
  refine go_getR (show decode cX1_clear 18 = .ok (.getfield 9, 3) by decide +kernel) fl_X1_9 rfl q1 ?_
  refine go_iconst (show decode cX1_clear 21 = .ok (.iconst 1, 1) by decide +kernel) (by decide) ?_
  refine go_iload_n (show decode cX1_clear 22 = .ok (.iload_n 1, 1) by decide +kernel) (by rfl) ?_
  obtain ⟨q7, h⟩ := h
  refine go_iastore (show decode cX1_clear 23 = .ok (.iastore, 1) by decide +kernel) q4 (by decide) q7  ?_
  obtain ⟨G8, G8e⟩ : ∃ G8 : AG, G8 = gu G6 (sR S a0 0) 1 a1 := ⟨_, rfl⟩
  have h := h G8 G8e
  rw [← G8e]
  exact go_vret (show decode cX1_clear 24 = .ok (.return_, 1) by decide +kernel) rfl h
def V_X1_bandOf_55 (d : Nat) (S : AS) (F : AF) (G : AG) (Q : AQ) (a0 : Nat) (a1 : Int) (a2 : Int) (a3 : Int) (a4 : Int) (a5 : Int) : Prop :=
  (r32 (a4 + 1)) ∧
  Go d MX1_bandOf 12 [some (vR a0), some (vI a1), some (vI a2), some (vI a3), some (vI (a4 + 1)), none] [] S F G Q
theorem R_X1_bandOf_55 {d : Nat} {S : AS} {F : AF} {G : AG} {Q : AQ} {a0 : Nat} {a1 : Int} {a2 : Int} {a3 : Int} {a4 : Int} {a5 : Int} (h : V_X1_bandOf_55 d S F G Q a0 a1 a2 a3 a4 a5) : Go d MX1_bandOf 55 [some (vR a0), some (vI a1), some (vI a2), some (vI a3), some (vI a4), some (vI a5)] [] S F G Q := by
  unfold V_X1_bandOf_55 at h
  obtain ⟨q1, h⟩ := h
  refine go_iinc (show decode cX1_bandOf 55 = .ok (.iinc 4 1, 3) by decide +kernel) (by rfl) q1 (by decide) ?_
  show Go d MX1_bandOf 58 [some (vR a0), some (vI a1), some (vI a2), some (vI a3), some (vI (a4 + 1)), some (vI a5)] [] S F G Q
  refine go_goto (tgt := 12) (show decode cX1_bandOf 58 = .ok (.goto (-46), 3) by decide +kernel) (by decide) ?_
  refine go_clr 5 ?_
  exact h
def V_X1_bandOf_12 (d : Nat) (S : AS) (F : AF) (G : AG) (Q : AQ) (a0 : Nat) (a1 : Int) (a2 : Int) (a3 : Int) (a4 : Int) : Prop :=
  ((104 ≤ a4) →
    Q (some (vI a2)) S F G) ∧
  ((¬ 104 ≤ a4) →
    ((a3 ≤ a2) →
      Q (some (vI a2)) S F G) ∧
    ((¬ a3 ≤ a2) →
      (r32 (a2 + a3)) ∧
      (r32 ((a2 + a3) + 1)) ∧
      (r32 (Int.tdiv ((a2 + a3) + 1) 2)) ∧
      ∀ x4 : Int, x4 = Int.tdiv ((a2 + a3) + 1) 2 →
      (sK S a0 = 1) ∧
      (sK S (sR S a0 0) = 20) ∧
      ((0 : Int) ≤ x4) ∧
      ((x4 : Int) < (sN S (sR S a0 0) : Int)) ∧
      ((a1 < G (sR S a0 0) x4) →
        (r32 (x4 - 1)) ∧
        ∀ x10 : Int, x10 = x4 - 1 →
        V_X1_bandOf_55 d S F G Q a0 a1 a2 x10 a4 x4) ∧
      ((¬ a1 < G (sR S a0 0) x4) →
        V_X1_bandOf_55 d S F G Q a0 a1 x4 a3 a4 x4)))
theorem R_X1_bandOf_12 {d : Nat} {S : AS} {F : AF} {G : AG} {Q : AQ} {a0 : Nat} {a1 : Int} {a2 : Int} {a3 : Int} {a4 : Int} (h : V_X1_bandOf_12 d S F G Q a0 a1 a2 a3 a4) : Go d MX1_bandOf 12 [some (vR a0), some (vI a1), some (vI a2), some (vI a3), some (vI a4), none] [] S F G Q := by
  unfold V_X1_bandOf_12 at h
  refine go_iload (show decode cX1_bandOf 12 = .ok (.iload 4, 2) by decide +kernel) (by rfl) ?_
  refine go_bipush (show decode cX1_bandOf 14 = .ok (.bipush 104, 2) by decide +kernel) (by decide) ?_
  obtain ⟨ht, hf⟩ := h
  refine go_icmpge (tgt := 61) (show decode cX1_bandOf 16 = .ok (.if_icmp .ge 45, 3) by decide +kernel) (by decide) (fun hc => ?_) (fun hc => ?_)
  · have h := ht hc
    refine go_iload_n (show decode cX1_bandOf 61 = .ok (.iload_n 2, 1) by decide +kernel) (by rfl) ?_
    exact go_iret (show decode cX1_bandOf 62 = .ok (.ireturn, 1) by decide +kernel) rfl h
  · have h := hf hc
    refine go_iload_n (show decode cX1_bandOf 19 = .ok (.iload_n 2, 1) by decide +kernel) (by rfl) ?_
    refine go_iload_n (show decode cX1_bandOf 20 = .ok (.iload_n 3, 1) by decide +kernel) (by rfl) ?_
    obtain ⟨ht, hf⟩ := h
    refine go_icmpge (tgt := 61) (show decode cX1_bandOf 21 = .ok (.if_icmp .ge 40, 3) by decide +kernel) (by decide) (fun hc => ?_) (fun hc => ?_)
    · have h := ht hc
      refine go_iload_n (show decode cX1_bandOf 61 = .ok (.iload_n 2, 1) by decide +kernel) (by rfl) ?_
      exact go_iret (show decode cX1_bandOf 62 = .ok (.ireturn, 1) by decide +kernel) rfl h
    · have h := hf hc
      refine go_iload_n (show decode cX1_bandOf 24 = .ok (.iload_n 2, 1) by decide +kernel) (by rfl) ?_
      refine go_iload_n (show decode cX1_bandOf 25 = .ok (.iload_n 3, 1) by decide +kernel) (by rfl) ?_
      obtain ⟨q1, h⟩ := h
      refine go_iadd (show decode cX1_bandOf 26 = .ok (.iadd, 1) by decide +kernel) q1 ?_
      refine go_iconst (show decode cX1_bandOf 27 = .ok (.iconst 1, 1) by decide +kernel) (by decide) ?_
      obtain ⟨q2, h⟩ := h
      refine go_iadd (show decode cX1_bandOf 28 = .ok (.iadd, 1) by decide +kernel) q2 ?_
      refine go_iconst (show decode cX1_bandOf 29 = .ok (.iconst 2, 1) by decide +kernel) (by decide) ?_
      obtain ⟨q3, h⟩ := h
      refine go_idiv (show decode cX1_bandOf 30 = .ok (.idiv, 1) by decide +kernel) (by decide) q3 ?_
      obtain ⟨x4, x4e⟩ : ∃ x4 : Int, x4 = Int.tdiv ((a2 + a3) + 1) 2 := ⟨_, rfl⟩
      have h := h x4 x4e
      rw [← x4e]
      refine go_istore (show decode cX1_bandOf 31 = .ok (.istore 5, 2) by decide +kernel) (by decide) ?_
      show Go d MX1_bandOf 33 [some (vR a0), some (vI a1), some (vI a2), some (vI a3), some (vI a4), some (vI x4)] [] S F G Q
      refine go_aload_n (show decode cX1_bandOf 33 = .ok (.aload_n 0, 1) by decide +kernel) (by rfl) ?_
      obtain ⟨q5, h⟩ := h
      refine go_getR (show decode cX1_bandOf 34 = .ok (.getfield 9, 3) by decide +kernel) fl_X1_9 rfl q5 ?_
      refine go_iload (show decode cX1_bandOf 37 = .ok (.iload 5, 2) by decide +kernel) (by rfl) ?_
      obtain ⟨q6, h⟩ := h
      obtain ⟨q7, h⟩ := h
      obtain ⟨q8, h⟩ := h
      refine go_iaload (show decode cX1_bandOf 39 = .ok (.iaload, 1) by decide +kernel) q6 q7 q8 ?_
      refine go_iload_n (show decode cX1_bandOf 40 = .ok (.iload_n 1, 1) by decide +kernel) (by rfl) ?_
      obtain ⟨ht, hf⟩ := h
      refine go_icmpgt (tgt := 50) (show decode cX1_bandOf 41 = .ok (.if_icmp .gt 9, 3) by decide +kernel) (by decide) (fun hc => ?_) (fun hc => ?_)
      · have h := ht hc
        refine go_iload (show decode cX1_bandOf 50 = .ok (.iload 5, 2) by decide +kernel) (by rfl) ?_
        refine go_iconst (show decode cX1_bandOf 52 = .ok (.iconst 1, 1) by decide +kernel) (by decide) ?_
        obtain ⟨q9, h⟩ := h
        refine go_isub (show decode cX1_bandOf 53 = .ok (.isub, 1) by decide +kernel) q9 ?_
        obtain ⟨x10, x10e⟩ : ∃ x10 : Int, x10 = x4 - 1 := ⟨_, rfl⟩
        have h := h x10 x10e
        rw [← x10e]
        refine go_istore_n (show decode cX1_bandOf 54 = .ok (.istore_n 3, 1) by decide +kernel) (by decide) ?_
        show Go d MX1_bandOf 55 [some (vR a0), some (vI a1), some (vI a2), some (vI x10), some (vI a4), some (vI x4)] [] S F G Q
        exact R_X1_bandOf_55 h
      · have h := hf hc
        refine go_iload (show decode cX1_bandOf 44 = .ok (.iload 5, 2) by decide +kernel) (by rfl) ?_
        refine go_istore_n (show decode cX1_bandOf 46 = .ok (.istore_n 2, 1) by decide +kernel) (by decide) ?_
        show Go d MX1_bandOf 47 [some (vR a0), some (vI a1), some (vI x4), some (vI a3), some (vI a4), some (vI x4)] [] S F G Q
        refine go_goto (tgt := 55) (show decode cX1_bandOf 47 = .ok (.goto 8, 3) by decide +kernel) (by decide) ?_
        exact R_X1_bandOf_55 h
def V_X1_bandOf_0 (d : Nat) (S : AS) (F : AF) (G : AG) (Q : AQ) (a0 : Nat) (a1 : Int) : Prop :=
  (sK S a0 = 1) ∧
  (r32 ((F a0 1) - 1)) ∧
  ∀ x3 : Int, x3 = (F a0 1) - 1 →
  Go d MX1_bandOf 12 [some (vR a0), some (vI a1), some (vI 0), some (vI x3), some (vI 0), none] [] S F G Q
theorem R_X1_bandOf_0 {d : Nat} {S : AS} {F : AF} {G : AG} {Q : AQ} {a0 : Nat} {a1 : Int} (h : V_X1_bandOf_0 d S F G Q a0 a1) : Go d MX1_bandOf 0 [some (vR a0), some (vI a1), none, none, none, none] [] S F G Q := by
  unfold V_X1_bandOf_0 at h
  refine go_iconst (show decode cX1_bandOf 0 = .ok (.iconst 0, 1) by decide +kernel) (by decide) ?_
  refine go_istore_n (show decode cX1_bandOf 1 = .ok (.istore_n 2, 1) by decide +kernel) (by decide) ?_
  show Go d MX1_bandOf 2 [some (vR a0), some (vI a1), some (vI 0), none, none, none] [] S F G Q
  refine go_aload_n (show decode cX1_bandOf 2 = .ok (.aload_n 0, 1) by decide +kernel) (by rfl) ?_
  obtain ⟨q1, h⟩ := h
  refine go_getI (show decode cX1_bandOf 3 = .ok (.getfield 19, 3) by decide +kernel) fl_X1_19 (Or.inl rfl) q1 ?_
  refine go_iconst (show decode cX1_bandOf 6 = .ok (.iconst 1, 1) by decide +kernel) (by decide) ?_
  obtain ⟨q2, h⟩ := h
  refine go_isub (show decode cX1_bandOf 7 = .ok (.isub, 1) by decide +kernel) q2 ?_
  obtain ⟨x3, x3e⟩ : ∃ x3 : Int, x3 = (F a0 1) - 1 := ⟨_, rfl⟩
  have h := h x3 x3e
  rw [← x3e]
  refine go_istore_n (show decode cX1_bandOf 8 = .ok (.istore_n 3, 1) by decide +kernel) (by decide) ?_
  show Go d MX1_bandOf 9 [some (vR a0), some (vI a1), some (vI 0), some (vI x3), none, none] [] S F G Q
  refine go_iconst (show decode cX1_bandOf 9 = .ok (.iconst 0, 1) by decide +kernel) (by decide) ?_
  refine go_istore (show decode cX1_bandOf 10 = .ok (.istore 4, 2) by decide +kernel) (by decide) ?_
  show Go d MX1_bandOf 12 [some (vR a0), some (vI a1), some (vI 0), some (vI x3), some (vI 0), none] [] S F G Q
  exact h
def V_X1_overlap_20 (d : Nat) (S : AS) (F : AF) (G : AG) (Q : AQ) (a0 : Nat) (a1 : Int) (a2 : Int) (a3 : Int) (s0 : Int) : Prop :=
  (sK S a0 = 1) ∧
  (r32 (a1 + 1)) ∧
  (sK S (sR S a0 0) = 20) ∧
  ((0 : Int) ≤ a1 + 1) ∧
  ((a1 + 1 : Int) < (sN S (sR S a0 0) : Int)) ∧
  ((G (sR S a0 0) (a1 + 1) ≤ a3) →
    ∀ x6 : Int, x6 = G (sR S a0 0) (a1 + 1) →
    (r32 (x6 - s0)) ∧
    Q (some (vI (x6 - s0))) S F G) ∧
  ((¬ G (sR S a0 0) (a1 + 1) ≤ a3) →
    (r32 (a3 + 1)) ∧
    ∀ x9 : Int, x9 = a3 + 1 →
    (r32 (x9 - s0)) ∧
    Q (some (vI (x9 - s0))) S F G)
theorem R_X1_overlap_20 {d : Nat} {S : AS} {F : AF} {G : AG} {Q : AQ} {a0 : Nat} {a1 : Int} {a2 : Int} {a3 : Int} {s0 : Int} (h : V_X1_overlap_20 d S F G Q a0 a1 a2 a3 s0) : Go d MX1_overlap 20 [some (vR a0), some (vI a1), some (vI a2), some (vI a3), none, none] [vI s0] S F G Q := by
  unfold V_X1_overlap_20 at h
  refine go_istore (show decode cX1_overlap 20 = .ok (.istore 4, 2) by decide +kernel) (by decide) ?_
  show Go d MX1_overlap 22 [some (vR a0), some (vI a1), some (vI a2), some (vI a3), some (vI s0), none] [] S F G Q
  refine go_aload_n (show decode cX1_overlap 22 = .ok (.aload_n 0, 1) by decide +kernel) (by rfl) ?_
  obtain ⟨q1, h⟩ := h
  refine go_getR (show decode cX1_overlap 23 = .ok (.getfield 9, 3) by decide +kernel) fl_X1_9 rfl q1 ?_
  refine go_iload_n (show decode cX1_overlap 26 = .ok (.iload_n 1, 1) by decide +kernel) (by rfl) ?_
  refine go_iconst (show decode cX1_overlap 27 = .ok (.iconst 1, 1) by decide +kernel) (by decide) ?_
  obtain ⟨q2, h⟩ := h
  refine go_iadd (show decode cX1_overlap 28 = .ok (.iadd, 1) by decide +kernel) q2 ?_
  obtain ⟨q3, h⟩ := h
  obtain ⟨q4, h⟩ := h
  obtain ⟨q5, h⟩ := h
  refine go_iaload (show decode cX1_overlap 29 = .ok (.iaload, 1) by decide +kernel) q3 q4 q5 ?_
  refine go_iload_n (show decode cX1_overlap 30 = .ok (.iload_n 3, 1) by decide +kernel) (by rfl) ?_
  obtain ⟨ht, hf⟩ := h
  refine go_icmple (tgt := 40) (show decode cX1_overlap 31 = .ok (.if_icmp .le 9, 3) by decide +kernel) (by decide) (fun hc => ?_) (fun hc => ?_)
  · have h := ht hc
    refine go_aload_n (show decode cX1_overlap 40 = .ok (.aload_n 0, 1) by decide +kernel) (by rfl) ?_
    refine go_getR (show decode cX1_overlap 41 = .ok (.getfield 9, 3) by decide +kernel) fl_X1_9 rfl q1 ?_
    refine go_iload_n (show decode cX1_overlap 44 = .ok (.iload_n 1, 1) by decide +kernel) (by rfl) ?_
    refine go_iconst (show decode cX1_overlap 45 = .ok (.iconst 1, 1) by decide +kernel) (by decide) ?_
    refine go_iadd (show decode cX1_overlap 46 = .ok (.iadd, 1) by decide +kernel) q2 ?_
    refine go_iaload (show decode cX1_overlap 47 = .ok (.iaload, 1) by decide +kernel) q3 q4 q5 ?_
    obtain ⟨x6, x6e⟩ : ∃ x6 : Int, x6 = G (sR S a0 0) (a1 + 1) := ⟨_, rfl⟩
    have h := h x6 x6e
    rw [← x6e]
    refine go_istore (show decode cX1_overlap 48 = .ok (.istore 5, 2) by decide +kernel) (by decide) ?_
    show Go d MX1_overlap 50 [some (vR a0), some (vI a1), some (vI a2), some (vI a3), some (vI s0), some (vI x6)] [] S F G Q
    refine go_iload (show decode cX1_overlap 50 = .ok (.iload 5, 2) by decide +kernel) (by rfl) ?_
    refine go_iload (show decode cX1_overlap 52 = .ok (.iload 4, 2) by decide +kernel) (by rfl) ?_
    obtain ⟨q7, h⟩ := h
    refine go_isub (show decode cX1_overlap 54 = .ok (.isub, 1) by decide +kernel) q7 ?_
    exact go_iret (show decode cX1_overlap 55 = .ok (.ireturn, 1) by decide +kernel) rfl h
  · have h := hf hc
    refine go_iload_n (show decode cX1_overlap 34 = .ok (.iload_n 3, 1) by decide +kernel) (by rfl) ?_
    refine go_iconst (show decode cX1_overlap 35 = .ok (.iconst 1, 1) by decide +kernel) (by decide) ?_
    obtain ⟨q8, h⟩ := h
    refine go_iadd (show decode cX1_overlap 36 = .ok (.iadd, 1) by decide +kernel) q8 ?_
    refine go_goto (tgt := 48) (show decode cX1_overlap 37 = .ok (.goto 11, 3) by decide +kernel) (by decide) ?_
    obtain ⟨x9, x9e⟩ : ∃ x9 : Int, x9 = a3 + 1 := ⟨_, rfl⟩
    have h := h x9 x9e
    rw [← x9e]
    refine go_istore (show decode cX1_overlap 48 = .ok (.istore 5, 2) by decide +kernel) (by decide) ?_
    show Go d MX1_overlap 50 [some (vR a0), some (vI a1), some (vI a2), some (vI a3), some (vI s0), some (vI x9)] [] S F G Q
    refine go_iload (show decode cX1_overlap 50 = .ok (.iload 5, 2) by decide +kernel) (by rfl) ?_
    refine go_iload (show decode cX1_overlap 52 = .ok (.iload 4, 2) by decide +kernel) (by rfl) ?_
    obtain ⟨q10, h⟩ := h
    refine go_isub (show decode cX1_overlap 54 = .ok (.isub, 1) by decide +kernel) q10 ?_
    exact go_iret (show decode cX1_overlap 55 = .ok (.ireturn, 1) by decide +kernel) rfl h
def V_X1_overlap_0 (d : Nat) (S : AS) (F : AF) (G : AG) (Q : AQ) (a0 : Nat) (a1 : Int) (a2 : Int) (a3 : Int) : Prop :=
  (sK S a0 = 1) ∧
  (sK S (sR S a0 0) = 20) ∧
  ((0 : Int) ≤ a1) ∧
  ((a1 : Int) < (sN S (sR S a0 0) : Int)) ∧
  ((a2 ≤ G (sR S a0 0) a1) →
    V_X1_overlap_20 d S F G Q a0 a1 a2 a3 (G (sR S a0 0) a1)) ∧
  ((¬ a2 ≤ G (sR S a0 0) a1) →
    V_X1_overlap_20 d S F G Q a0 a1 a2 a3 a2)
theorem R_X1_overlap_0 {d : Nat} {S : AS} {F : AF} {G : AG} {Q : AQ} {a0 : Nat} {a1 : Int} {a2 : Int} {a3 : Int} (h : V_X1_overlap_0 d S F G Q a0 a1 a2 a3) : Go d MX1_overlap 0 [some (vR a0), some (vI a1), some (vI a2), some (vI a3), none, none] [] S F G Q := by
  unfold V_X1_overlap_0 at h
  refine go_aload_n (show decode cX1_overlap 0 = .ok (.aload_n 0, 1) by decide +kernel) (by rfl) ?_
  obtain ⟨q1, h⟩ := h
  refine go_getR (show decode cX1_overlap 1 = .ok (.getfield 9, 3) by decide +kernel) fl_X1_9 rfl q1 ?_
  refine go_iload_n (show decode cX1_overlap 4 = .ok (.iload_n 1, 1) by decide +kernel) (by rfl) ?_
  obtain ⟨q2, h⟩ := h
  obtain ⟨q3, h⟩ := h
  obtain ⟨q4, h⟩ := h
  refine go_iaload (show decode cX1_overlap 5 = .ok (.iaload, 1) by decide +kernel) q2 q3 q4 ?_
  refine go_iload_n (show decode cX1_overlap 6 = .ok (.iload_n 2, 1) by decide +kernel) (by rfl) ?_
  obtain ⟨ht, hf⟩ := h
  refine go_icmpge (tgt := 14) (show decode cX1_overlap 7 = .ok (.if_icmp .ge 7, 3) by decide +kernel) (by decide) (fun hc => ?_) (fun hc => ?_)
  · have h := ht hc
    refine go_aload_n (show decode cX1_overlap 14 = .ok (.aload_n 0, 1) by decide +kernel) (by rfl) ?_
    refine go_getR (show decode cX1_overlap 15 = .ok (.getfield 9, 3) by decide +kernel) fl_X1_9 rfl q1 ?_
    refine go_iload_n (show decode cX1_overlap 18 = .ok (.iload_n 1, 1) by decide +kernel) (by rfl) ?_
    refine go_iaload (show decode cX1_overlap 19 = .ok (.iaload, 1) by decide +kernel) q2 q3 q4 ?_
    exact R_X1_overlap_20 h
  · have h := hf hc
    refine go_iload_n (show decode cX1_overlap 10 = .ok (.iload_n 2, 1) by decide +kernel) (by rfl) ?_
    refine go_goto (tgt := 20) (show decode cX1_overlap 11 = .ok (.goto 9, 3) by decide +kernel) (by decide) ?_
    exact R_X1_overlap_20 h
def V_X1_copy_0 (d : Nat) (S : AS) (F : AF) (G : AG) (Q : AQ) (a0 : Nat) (a1 : Nat) : Prop :=
  (sK S a1 = 1) ∧
  (sK S a0 = 1) ∧
  ∀ F3 : AF, F3 = fu F a0 2 (F a1 2) →
  ∀ F4 : AF, F4 = fu F3 a0 1 (F3 a1 1) →
  (r32 ((F4 a1 1) + 1)) ∧
  (1 ≤ d) ∧
  (sK S (sR S a1 0) = 20) ∧
  (sK S (sR S a0 0) = 20) ∧
  ((0 : Int) ≤ (F4 a1 1) + 1) ∧
  ((0 + ((F4 a1 1) + 1) : Int) ≤ (sN S (sR S a1 0) : Int)) ∧
  ((0 + ((F4 a1 1) + 1) : Int) ≤ (sN S (sR S a0 0) : Int)) ∧
  ∀ G12 : AG, G12 = gcp G (sR S a1 0) (sR S a0 0) 0 0 ((F4 a1 1) + 1) →
  Q none S F4 G12
theorem R_X1_copy_0 {d : Nat} {S : AS} {F : AF} {G : AG} {Q : AQ} {a0 : Nat} {a1 : Nat} (h : V_X1_copy_0 d S F G Q a0 a1) : Go d MX1_copy 0 [some (vR a0), some (vR a1)] [] S F G Q := by
  unfold V_X1_copy_0 at h
  refine go_aload_n (show decode cX1_copy 0 = .ok (.aload_n 0, 1) by decide +kernel) (by rfl) ?_
  refine go_aload_n (show decode cX1_copy 1 = .ok (.aload_n 1, 1) by decide +kernel) (by rfl) ?_
  obtain ⟨q1, h⟩ := h
  refine go_getI (show decode cX1_copy 2 = .ok (.getfield 15, 3) by decide +kernel) fl_X1_15 (Or.inl rfl) q1 ?_
  obtain ⟨q2, h⟩ := h
  refine go_putI (show decode cX1_copy 5 = .ok (.putfield 15, 3) by decide +kernel) fl_X1_15 rfl (Or.inl rfl) q2 ?_
  obtain ⟨F3, F3e⟩ : ∃ F3 : AF, F3 = fu F a0 2 (F a1 2) := ⟨_, rfl⟩
  have h := h F3 F3e
  rw [← F3e]
  refine go_aload_n (show decode cX1_copy 8 = .ok (.aload_n 0, 1) by decide +kernel) (by rfl) ?_
  refine go_aload_n (show decode cX1_copy 9 = .ok (.aload_n 1, 1) by decide +kernel) (by rfl) ?_
  refine go_getI (show decode cX1_copy 10 = .ok (.getfield 19, 3) by decide +kernel) fl_X1_19 (Or.inl rfl) q1 ?_
  refine go_putI (show decode cX1_copy 13 = .ok (.putfield 19, 3) by decide +kernel) fl_X1_19 rfl (Or.inl rfl) q2 ?_
  obtain ⟨F4, F4e⟩ : ∃ F4 : AF, F4 = fu F3 a0 1 (F3 a1 1) := ⟨_, rfl⟩
  have h := h F4 F4e
  rw [← F4e]
  refine go_aload_n (show decode cX1_copy 16 = .ok (.aload_n 1, 1) by decide +kernel) (by rfl) ?_
  refine go_getR (show decode cX1_copy 17 = .ok (.getfield 9, 3) by decide +kernel) fl_X1_9 rfl q1 ?_
  refine go_iconst (show decode cX1_copy 20 = .ok (.iconst 0, 1) by decide +kernel) (by decide) ?_
  refine go_aload_n (show decode cX1_copy 21 = .ok (.aload_n 0, 1) by decide +kernel) (by rfl) ?_
  refine go_getR (show decode cX1_copy 22 = .ok (.getfield 9, 3) by decide +kernel) fl_X1_9 rfl q2 ?_
  refine go_iconst (show decode cX1_copy 25 = .ok (.iconst 0, 1) by decide +kernel) (by decide) ?_
  refine go_aload_n (show decode cX1_copy 26 = .ok (.aload_n 1, 1) by decide +kernel) (by rfl) ?_
  refine go_getI (show decode cX1_copy 27 = .ok (.getfield 19, 3) by decide +kernel) fl_X1_19 (Or.inl rfl) q1 ?_
  refine go_iconst (show decode cX1_copy 30 = .ok (.iconst 1, 1) by decide +kernel) (by decide) ?_
  obtain ⟨q5, h⟩ := h
  refine go_iadd (show decode cX1_copy 31 = .ok (.iadd, 1) by decide +kernel) q5 ?_
  obtain ⟨q6, h⟩ := h
  obtain ⟨q7, h⟩ := h
  obtain ⟨q8, h⟩ := h
  obtain ⟨q9, h⟩ := h
  obtain ⟨q10, h⟩ := h
  obtain ⟨q11, h⟩ := h
  refine go_copyI (show decode cX1_copy 32 = .ok (.invokestatic 22, 3) by decide +kernel) ml_X1_22 ac_n ac_s ac_i q7 q8 (by decide) (by decide) q9 q10 q11 (by decide) q6 ?_
  obtain ⟨G12, G12e⟩ : ∃ G12 : AG, G12 = gcp G (sR S a1 0) (sR S a0 0) 0 0 ((F4 a1 1) + 1) := ⟨_, rfl⟩
  have h := h G12 G12e
  rw [← G12e]
  exact go_vret (show decode cX1_copy 35 = .ok (.return_, 1) by decide +kernel) rfl h
def V_X1_put_46 (d : Nat) (S : AS) (F : AF) (G : AG) (Q : AQ) (a0 : Nat) (a1 : Int) (a2 : Int) (a3 : Int) : Prop :=
  (r32 (a2 + 1)) ∧
  ((a3 ≤ a2 + 1) →
    (sK S a0 = 1) ∧
    (sK S (sR S a0 0) = 20) ∧
    ((0 : Int) ≤ a2 + 1) ∧
    ((a2 + 1 : Int) < (sN S (sR S a0 0) : Int)) ∧
    ∀ G6 : AG, G6 = gu G (sR S a0 0) (a2 + 1) a1 →
    (r32 ((F a0 1) + 1)) ∧
    ∀ F8 : AF, F8 = fu F a0 1 ((F a0 1) + 1) →
    Q none S F8 G6) ∧
  ((¬ a3 ≤ a2 + 1) →
    (sK S a0 = 1) ∧
    (r32 (a3 - 1)) ∧
    (sK S (sR S a0 0) = 20) ∧
    ((0 : Int) ≤ a3 - 1) ∧
    ((a3 - 1 : Int) < (sN S (sR S a0 0) : Int)) ∧
    ((0 : Int) ≤ a3) ∧
    ((a3 : Int) < (sN S (sR S a0 0) : Int)) ∧
    ∀ G16 : AG, G16 = gu G (sR S a0 0) a3 (G (sR S a0 0) (a3 - 1)) →
    (r32 (a3 + (-1))) ∧
    Go d MX1_put 46 [some (vR a0), some (vI a1), some (vI a2), some (vI (a3 + (-1)))] [] S F G16 Q)
theorem R_X1_put_46 {d : Nat} {S : AS} {F : AF} {G : AG} {Q : AQ} {a0 : Nat} {a1 : Int} {a2 : Int} {a3 : Int} (h : V_X1_put_46 d S F G Q a0 a1 a2 a3) : Go d MX1_put 46 [some (vR a0), some (vI a1), some (vI a2), some (vI a3)] [] S F G Q := by
  unfold V_X1_put_46 at h
  refine go_iload_n (show decode cX1_put 46 = .ok (.iload_n 3, 1) by decide +kernel) (by rfl) ?_
  refine go_iload_n (show decode cX1_put 47 = .ok (.iload_n 2, 1) by decide +kernel) (by rfl) ?_
  refine go_iconst (show decode cX1_put 48 = .ok (.iconst 1, 1) by decide +kernel) (by decide) ?_
  obtain ⟨q1, h⟩ := h
  refine go_iadd (show decode cX1_put 49 = .ok (.iadd, 1) by decide +kernel) q1 ?_
  obtain ⟨ht, hf⟩ := h
  refine go_icmple (tgt := 73) (show decode cX1_put 50 = .ok (.if_icmp .le 23, 3) by decide +kernel) (by decide) (fun hc => ?_) (fun hc => ?_)
  · have h := ht hc
    refine go_aload_n (show decode cX1_put 73 = .ok (.aload_n 0, 1) by decide +kernel) (by rfl) ?_
    obtain ⟨q2, h⟩ := h
    refine go_getR (show decode cX1_put 74 = .ok (.getfield 9, 3) by decide +kernel) fl_X1_9 rfl q2 ?_
    refine go_iload_n (show decode cX1_put 77 = .ok (.iload_n 2, 1) by decide +kernel) (by rfl) ?_
    refine go_iconst (show decode cX1_put 78 = .ok (.iconst 1, 1) by decide +kernel) (by decide) ?_
    refine go_iadd (show decode cX1_put 79 = .ok (.iadd, 1) by decide +kernel) q1 ?_
    refine go_iload_n (show decode cX1_put 80 = .ok (.iload_n 1, 1) by decide +kernel) (by rfl) ?_
    obtain ⟨q3, h⟩ := h
    obtain ⟨q4, h⟩ := h
    obtain ⟨q5, h⟩ := h
    refine go_iastore (show decode cX1_put 81 = .ok (.iastore, 1) by decide +kernel) q3 q4 q5  ?_
    obtain ⟨G6, G6e⟩ : ∃ G6 : AG, G6 = gu G (sR S a0 0) (a2 + 1) a1 := ⟨_, rfl⟩
    have h := h G6 G6e
    rw [← G6e]
    refine go_aload_n (show decode cX1_put 82 = .ok (.aload_n 0, 1) by decide +kernel) (by rfl) ?_
    refine go_dup (show decode cX1_put 83 = .ok (.dup, 1) by decide +kernel) ?_
    refine go_getI (show decode cX1_put 84 = .ok (.getfield 19, 3) by decide +kernel) fl_X1_19 (Or.inl rfl) q2 ?_
    refine go_iconst (show decode cX1_put 87 = .ok (.iconst 1, 1) by decide +kernel) (by decide) ?_
    obtain ⟨q7, h⟩ := h
    refine go_iadd (show decode cX1_put 88 = .ok (.iadd, 1) by decide +kernel) q7 ?_
    refine go_putI (show decode cX1_put 89 = .ok (.putfield 19, 3) by decide +kernel) fl_X1_19 rfl (Or.inl rfl) q2 ?_
    obtain ⟨F8, F8e⟩ : ∃ F8 : AF, F8 = fu F a0 1 ((F a0 1) + 1) := ⟨_, rfl⟩
    have h := h F8 F8e
    rw [← F8e]
    exact go_vret (show decode cX1_put 92 = .ok (.return_, 1) by decide +kernel) rfl h
  · have h := hf hc
    refine go_aload_n (show decode cX1_put 53 = .ok (.aload_n 0, 1) by decide +kernel) (by rfl) ?_
    obtain ⟨q9, h⟩ := h
    refine go_getR (show decode cX1_put 54 = .ok (.getfield 9, 3) by decide +kernel) fl_X1_9 rfl q9 ?_
    refine go_iload_n (show decode cX1_put 57 = .ok (.iload_n 3, 1) by decide +kernel) (by rfl) ?_
    refine go_aload_n (show decode cX1_put 58 = .ok (.aload_n 0, 1) by decide +kernel) (by rfl) ?_
    refine go_getR (show decode cX1_put 59 = .ok (.getfield 9, 3) by decide +kernel) fl_X1_9 rfl q9 ?_
    refine go_iload_n (show decode cX1_put 62 = .ok (.iload_n 3, 1) by decide +kernel) (by rfl) ?_
    refine go_iconst (show decode cX1_put 63 = .ok (.iconst 1, 1) by decide +kernel) (by decide) ?_
    obtain ⟨q10, h⟩ := h
    refine go_isub (show decode cX1_put 64 = .ok (.isub, 1) by decide +kernel) q10 ?_
    obtain ⟨q11, h⟩ := h
    obtain ⟨q12, h⟩ := h
    obtain ⟨q13, h⟩ := h
    refine go_iaload (show decode cX1_put 65 = .ok (.iaload, 1) by decide +kernel) q11 q12 q13 ?_
    obtain ⟨q14, h⟩ := h
    obtain ⟨q15, h⟩ := h
    refine go_iastore (show decode cX1_put 66 = .ok (.iastore, 1) by decide +kernel) q11 q14 q15  ?_
    obtain ⟨G16, G16e⟩ : ∃ G16 : AG, G16 = gu G (sR S a0 0) a3 (G (sR S a0 0) (a3 - 1)) := ⟨_, rfl⟩
    have h := h G16 G16e
    rw [← G16e]
    obtain ⟨q17, h⟩ := h
    refine go_iinc (show decode cX1_put 67 = .ok (.iinc 3 (-1), 3) by decide +kernel) (by rfl) q17 (by decide) ?_
    show Go d MX1_put 70 [some (vR a0), some (vI a1), some (vI a2), some (vI (a3 + (-1)))] [] S F G16 Q
    refine go_goto (tgt := 46) (show decode cX1_put 70 = .ok (.goto (-24), 3) by decide +kernel) (by decide) ?_
    exact h
def V_X1_put_0 (d : Nat) (S : AS) (F : AF) (G : AG) (Q : AQ) (a0 : Nat) (a1 : Int) : Prop :=
  ((a1 ≤ 0) →
    Q none S F G) ∧
  ((¬ a1 ≤ 0) →
    (sK S a0 = 1) ∧
    ((F a0 2 ≤ a1) →
      Q none S F G) ∧
    ((¬ F a0 2 ≤ a1) →
      ((F a0 1 < 104) →
        (1 ≤ d) ∧
        Ok (d - 1) MX1_bandOf [vR a0, vI a1] S F G (fun r3 S4 F5 G6 =>
        ∃ z7 : Int, r3 = some (vI z7) ∧
        (sK S4 a0 = 1) ∧
        (sK S4 (sR S4 a0 0) = 20) ∧
        ((0 : Int) ≤ z7) ∧
        ((z7 : Int) < (sN S4 (sR S4 a0 0) : Int)) ∧
        ((¬ G6 (sR S4 a0 0) z7 = a1) →
          (r32 ((F5 a0 1) + 1)) ∧
          ∀ x13 : Int, x13 = (F5 a0 1) + 1 →
          Go d MX1_put 46 [some (vR a0), some (vI a1), some (vI z7), some (vI x13)] [] S4 F5 G6 Q) ∧
        ((G6 (sR S4 a0 0) z7 = a1) →
          Q none S4 F5 G6))) ∧
      ((¬ F a0 1 < 104) →
        Q none S F G)))
theorem R_X1_put_0 {d : Nat} {S : AS} {F : AF} {G : AG} {Q : AQ} {a0 : Nat} {a1 : Int} (h : V_X1_put_0 d S F G Q a0 a1) : Go d MX1_put 0 [some (vR a0), some (vI a1), none, none] [] S F G Q := by
  unfold V_X1_put_0 at h
  refine go_iload_n (show decode cX1_put 0 = .ok (.iload_n 1, 1) by decide +kernel) (by rfl) ?_
  obtain ⟨ht, hf⟩ := h
  refine go_ifle (tgt := 21) (show decode cX1_put 1 = .ok (.ifCond .le 20, 3) by decide +kernel) (by decide) (fun hc => ?_) (fun hc => ?_)
  · have h := ht hc
    exact go_vret (show decode cX1_put 21 = .ok (.return_, 1) by decide +kernel) rfl h
  · have h := hf hc
    refine go_iload_n (show decode cX1_put 4 = .ok (.iload_n 1, 1) by decide +kernel) (by rfl) ?_
    refine go_aload_n (show decode cX1_put 5 = .ok (.aload_n 0, 1) by decide +kernel) (by rfl) ?_
    obtain ⟨q1, h⟩ := h
    refine go_getI (show decode cX1_put 6 = .ok (.getfield 15, 3) by decide +kernel) fl_X1_15 (Or.inl rfl) q1 ?_
    obtain ⟨ht, hf⟩ := h
    refine go_icmpge (tgt := 21) (show decode cX1_put 9 = .ok (.if_icmp .ge 12, 3) by decide +kernel) (by decide) (fun hc => ?_) (fun hc => ?_)
    · have h := ht hc
      exact go_vret (show decode cX1_put 21 = .ok (.return_, 1) by decide +kernel) rfl h
    · have h := hf hc
      refine go_aload_n (show decode cX1_put 12 = .ok (.aload_n 0, 1) by decide +kernel) (by rfl) ?_
      refine go_getI (show decode cX1_put 13 = .ok (.getfield 19, 3) by decide +kernel) fl_X1_19 (Or.inl rfl) q1 ?_
      refine go_bipush (show decode cX1_put 16 = .ok (.bipush 104, 2) by decide +kernel) (by decide) ?_
      obtain ⟨ht, hf⟩ := h
      refine go_icmplt (tgt := 22) (show decode cX1_put 18 = .ok (.if_icmp .lt 4, 3) by decide +kernel) (by decide) (fun hc => ?_) (fun hc => ?_)
      · have h := ht hc
        refine go_aload_n (show decode cX1_put 22 = .ok (.aload_n 0, 1) by decide +kernel) (by rfl) ?_
        refine go_iload_n (show decode cX1_put 23 = .ok (.iload_n 1, 1) by decide +kernel) (by rfl) ?_
        obtain ⟨q2, h⟩ := h
        refine go_callV (d2 := d - 1) (M2 := MX1_bandOf) (n := 1) (ci := 1) (av := [vI a1]) (st := []) (show decode cX1_put 24 = .ok (.invokevirtual 28, 3) by decide +kernel) ml_X1_28 mt_X1_bandOf min_X1_bandOf mse_X1_bandOf (by decide) q1 rfl (by decide) (by omega) (ok_mono h (fun r3 S4 F5 G6 h => ?_))
        obtain ⟨z7, e9, h⟩ := h
        subst e9
        show Go d MX1_put 27 [some (vR a0), some (vI a1), none, none] [vI z7] S4 F5 G6 Q
        refine go_istore_n (show decode cX1_put 27 = .ok (.istore_n 2, 1) by decide +kernel) (by decide) ?_
        show Go d MX1_put 28 [some (vR a0), some (vI a1), some (vI z7), none] [] S4 F5 G6 Q
        refine go_aload_n (show decode cX1_put 28 = .ok (.aload_n 0, 1) by decide +kernel) (by rfl) ?_
        obtain ⟨q8, h⟩ := h
        refine go_getR (show decode cX1_put 29 = .ok (.getfield 9, 3) by decide +kernel) fl_X1_9 rfl q8 ?_
        refine go_iload_n (show decode cX1_put 32 = .ok (.iload_n 2, 1) by decide +kernel) (by rfl) ?_
        obtain ⟨q9, h⟩ := h
        obtain ⟨q10, h⟩ := h
        obtain ⟨q11, h⟩ := h
        refine go_iaload (show decode cX1_put 33 = .ok (.iaload, 1) by decide +kernel) q9 q10 q11 ?_
        refine go_iload_n (show decode cX1_put 34 = .ok (.iload_n 1, 1) by decide +kernel) (by rfl) ?_
        obtain ⟨ht, hf⟩ := h
        refine go_icmpne (tgt := 39) (show decode cX1_put 35 = .ok (.if_icmp .ne 4, 3) by decide +kernel) (by decide) (fun hc => ?_) (fun hc => ?_)
        · have h := ht hc
          refine go_aload_n (show decode cX1_put 39 = .ok (.aload_n 0, 1) by decide +kernel) (by rfl) ?_
          refine go_getI (show decode cX1_put 40 = .ok (.getfield 19, 3) by decide +kernel) fl_X1_19 (Or.inl rfl) q8 ?_
          refine go_iconst (show decode cX1_put 43 = .ok (.iconst 1, 1) by decide +kernel) (by decide) ?_
          obtain ⟨q12, h⟩ := h
          refine go_iadd (show decode cX1_put 44 = .ok (.iadd, 1) by decide +kernel) q12 ?_
          obtain ⟨x13, x13e⟩ : ∃ x13 : Int, x13 = (F5 a0 1) + 1 := ⟨_, rfl⟩
          have h := h x13 x13e
          rw [← x13e]
          refine go_istore_n (show decode cX1_put 45 = .ok (.istore_n 3, 1) by decide +kernel) (by decide) ?_
          show Go d MX1_put 46 [some (vR a0), some (vI a1), some (vI z7), some (vI x13)] [] S4 F5 G6 Q
          exact h
        · have h := hf hc
          exact go_vret (show decode cX1_put 38 = .ok (.return_, 1) by decide +kernel) rfl h
      · have h := hf hc
        exact go_vret (show decode cX1_put 21 = .ok (.return_, 1) by decide +kernel) rfl h
def V_X1_widthOf_0 (d : Nat) (S : AS) (F : AF) (G : AG) (Q : AQ) (a0 : Nat) (a1 : Int) : Prop :=
  (sK S a0 = 1) ∧
  (r32 (a1 + 1)) ∧
  (sK S (sR S a0 0) = 20) ∧
  ((0 : Int) ≤ a1 + 1) ∧
  ((a1 + 1 : Int) < (sN S (sR S a0 0) : Int)) ∧
  ((0 : Int) ≤ a1) ∧
  ((a1 : Int) < (sN S (sR S a0 0) : Int)) ∧
  (r32 ((G (sR S a0 0) (a1 + 1)) - (G (sR S a0 0) a1))) ∧
  Q (some (vI ((G (sR S a0 0) (a1 + 1)) - (G (sR S a0 0) a1)))) S F G
theorem R_X1_widthOf_0 {d : Nat} {S : AS} {F : AF} {G : AG} {Q : AQ} {a0 : Nat} {a1 : Int} (h : V_X1_widthOf_0 d S F G Q a0 a1) : Go d MX1_widthOf 0 [some (vR a0), some (vI a1)] [] S F G Q := by
  unfold V_X1_widthOf_0 at h
  refine go_aload_n (show decode cX1_widthOf 0 = .ok (.aload_n 0, 1) by decide +kernel) (by rfl) ?_
  obtain ⟨q1, h⟩ := h
  refine go_getR (show decode cX1_widthOf 1 = .ok (.getfield 9, 3) by decide +kernel) fl_X1_9 rfl q1 ?_
  refine go_iload_n (show decode cX1_widthOf 4 = .ok (.iload_n 1, 1) by decide +kernel) (by rfl) ?_
  refine go_iconst (show decode cX1_widthOf 5 = .ok (.iconst 1, 1) by decide +kernel) (by decide) ?_
  obtain ⟨q2, h⟩ := h
  refine go_iadd (show decode cX1_widthOf 6 = .ok (.iadd, 1) by decide +kernel) q2 ?_
  obtain ⟨q3, h⟩ := h
  obtain ⟨q4, h⟩ := h
  obtain ⟨q5, h⟩ := h
  refine go_iaload (show decode cX1_widthOf 7 = .ok (.iaload, 1) by decide +kernel) q3 q4 q5 ?_
  refine go_aload_n (show decode cX1_widthOf 8 = .ok (.aload_n 0, 1) by decide +kernel) (by rfl) ?_
  refine go_getR (show decode cX1_widthOf 9 = .ok (.getfield 9, 3) by decide +kernel) fl_X1_9 rfl q1 ?_
  refine go_iload_n (show decode cX1_widthOf 12 = .ok (.iload_n 1, 1) by decide +kernel) (by rfl) ?_
  obtain ⟨q6, h⟩ := h
  obtain ⟨q7, h⟩ := h
  refine go_iaload (show decode cX1_widthOf 13 = .ok (.iaload, 1) by decide +kernel) q3 q6 q7 ?_
  obtain ⟨q8, h⟩ := h
  refine go_isub (show decode cX1_widthOf 14 = .ok (.isub, 1) by decide +kernel) q8 ?_
  exact go_iret (show decode cX1_widthOf 15 = .ok (.ireturn, 1) by decide +kernel) rfl h
