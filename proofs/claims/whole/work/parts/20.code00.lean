set_option maxRecDepth 50000 in
def V_X1_init_0 (d : Nat) (S : AS) (F : AF) (G : AG) (Q : AQ) (a0 : Nat) : Prop :=
  (1 ≤ d) ∧
  (1 ≤ a0) ∧
  (sn S < 999998) ∧
  ∀ x4 : Nat, x4 = sn S + 1 →
  ∀ S5 : AS, S5 = na S 20 105 105 →
  ∀ F6 : AF, F6 = nF S F →
  ∀ G7 : AG, G7 = nG S G →
  (sK S5 a0 = 1) ∧
  (x4 ≤ sn S5) ∧
  ∀ S10 : AS, S10 = ru S5 a0 0 x4 →
  Q none S10 F6 G7
set_option maxRecDepth 50000 in
theorem R_X1_init_0 {d : Nat} {S : AS} {F : AF} {G : AG} {Q : AQ} {a0 : Nat} (h : V_X1_init_0 d S F G Q a0) : Go d MX1_init 0 [some (vR a0)] [] S F G Q := by
  unfold V_X1_init_0 at h
  refine go_aload_n (show decode cX1_init 0 = .ok (.aload_n 0, 1) by decide +kernel) (by rfl) ?_
  obtain ⟨q1, h⟩ := h
  obtain ⟨q2, h⟩ := h
  refine go_objInit (show decode cX1_init 1 = .ok (.invokespecial 3, 3) by decide +kernel) ml_X1_3 oi_1 oi_2 q2 (Nat.le_of_ble_eq_true rfl) q1 ?_
  refine go_aload_n (show decode cX1_init 4 = .ok (.aload_n 0, 1) by decide +kernel) (by rfl) ?_
  refine go_bipush (show decode cX1_init 5 = .ok (.bipush 105, 2) by decide +kernel) (by decide) ?_
  obtain ⟨q3, h⟩ := h
  refine go_newa (K := 20) (show decode cX1_init 7 = .ok (.newarray .int, 2) by decide +kernel) rfl (by decide) ar_20 (by decide) (by decide) q3 ?_
  show Go d MX1_init 9 [some (vR a0)] [vR (sn S + 1), vR a0] (na S 20 105 105) (nF S F) (nG S G) Q
  obtain ⟨x4, x4e⟩ : ∃ x4 : Nat, x4 = sn S + 1 := ⟨_, rfl⟩
  have h := h x4 x4e
  rw [← x4e]
  obtain ⟨S5, S5e⟩ : ∃ S5 : AS, S5 = na S 20 105 105 := ⟨_, rfl⟩
  have h := h S5 S5e
  rw [← S5e]
  obtain ⟨F6, F6e⟩ : ∃ F6 : AF, F6 = nF S F := ⟨_, rfl⟩
  have h := h F6 F6e
  rw [← F6e]
  obtain ⟨G7, G7e⟩ : ∃ G7 : AG, G7 = nG S G := ⟨_, rfl⟩
  have h := h G7 G7e
  rw [← G7e]
  obtain ⟨q8, h⟩ := h
  obtain ⟨q9, h⟩ := h
  refine go_putR (show decode cX1_init 9 = .ok (.putfield 9, 3) by decide +kernel) fl_X1_9 rfl (Or.inr ⟨rfl, rfl⟩) q8 q9 ?_
  obtain ⟨S10, S10e⟩ : ∃ S10 : AS, S10 = ru S5 a0 0 x4 := ⟨_, rfl⟩
  have h := h S10 S10e
  rw [← S10e]
  exact go_vret (show decode cX1_init 12 = .ok (.return_, 1) by decide +kernel) rfl h
def V_X1_clear_0 (d : Nat) (S : AS) (F : AF) (G : AG) (Q : AQ) (a0 : Nat) (a1 : Int) : Prop :=
  ∀ F1 : AF, F1 = fu F a0 2 a1 →
  ∀ F2 : AF, F2 = fu F1 a0 1 1 →
  ∀ G3 : AG, G3 = gu G (a0 + 1) 0 0 →
  ∀ G4 : AG, G4 = gu G3 (a0 + 1) 1 a1 →
  Q none S F2 G4
theorem R_X1_clear_0 {d : Nat} {S : AS} {F : AF} {G : AG} {Q : AQ} {a0 : Nat} {a1 : Int} (hk0 : AtCuts S a0) (h : V_X1_clear_0 d S F G Q a0 a1) : Go d MX1_clear 0 [some (vR a0), some (vI a1)] [] S F G Q := by
  unfold V_X1_clear_0 at h
  refine go_aload_n (show decode cX1_clear 0 = .ok (.aload_n 0, 1) by decide +kernel) (by rfl) ?_
  refine go_iload_n (show decode cX1_clear 1 = .ok (.iload_n 1, 1) by decide +kernel) (by rfl) ?_
  refine go_putI (show decode cX1_clear 2 = .ok (.putfield 15, 3) by decide +kernel) fl_X1_15 rfl (Or.inl rfl) hk0.1 ?_
  obtain ⟨F1, F1e⟩ : ∃ F1 : AF, F1 = fu F a0 2 a1 := ⟨_, rfl⟩
  have h := h F1 F1e
  rw [← F1e]
  refine go_aload_n (show decode cX1_clear 5 = .ok (.aload_n 0, 1) by decide +kernel) (by rfl) ?_
  refine go_iconst (show decode cX1_clear 6 = .ok (.iconst 1, 1) by decide +kernel) (by decide) ?_
  refine go_putI (show decode cX1_clear 7 = .ok (.putfield 19, 3) by decide +kernel) fl_X1_19 rfl (Or.inl rfl) hk0.1 ?_
  obtain ⟨F2, F2e⟩ : ∃ F2 : AF, F2 = fu F1 a0 1 1 := ⟨_, rfl⟩
  have h := h F2 F2e
  rw [← F2e]
  refine go_aload_n (show decode cX1_clear 10 = .ok (.aload_n 0, 1) by decide +kernel) (by rfl) ?_
  refine go_getRc (show decode cX1_clear 11 = .ok (.getfield 9, 3) by decide +kernel) fl_X1_9 rfl hk0.1 (v := (a0 + 1)) hk0.2.1 ?_
  refine go_iconst (show decode cX1_clear 14 = .ok (.iconst 0, 1) by decide +kernel) (by decide) ?_
  refine go_iconst (show decode cX1_clear 15 = .ok (.iconst 0, 1) by decide +kernel) (by decide) ?_
  refine go_iastore (show decode cX1_clear 16 = .ok (.iastore, 1) by decide +kernel) hk0.2.2.1 (by decide) (lt_n (m := 105) (by decide) hk0.2.2.2)  ?_
  obtain ⟨G3, G3e⟩ : ∃ G3 : AG, G3 = gu G (a0 + 1) 0 0 := ⟨_, rfl⟩
  have h := h G3 G3e
  rw [← G3e]
  refine go_aload_n (show decode cX1_clear 17 = .ok (.aload_n 0, 1) by decide +kernel) (by rfl) ?_
  refine go_getRc (show decode cX1_clear 18 = .ok (.getfield 9, 3) by decide +kernel) fl_X1_9 rfl hk0.1 (v := (a0 + 1)) hk0.2.1 ?_
  refine go_iconst (show decode cX1_clear 21 = .ok (.iconst 1, 1) by decide +kernel) (by decide) ?_
  refine go_iload_n (show decode cX1_clear 22 = .ok (.iload_n 1, 1) by decide +kernel) (by rfl) ?_
  refine go_iastore (show decode cX1_clear 23 = .ok (.iastore, 1) by decide +kernel) hk0.2.2.1 (by decide) (lt_n (m := 105) (by decide) hk0.2.2.2)  ?_
  obtain ⟨G4, G4e⟩ : ∃ G4 : AG, G4 = gu G3 (a0 + 1) 1 a1 := ⟨_, rfl⟩
  have h := h G4 G4e
  rw [← G4e]
  exact go_vret (show decode cX1_clear 24 = .ok (.return_, 1) by decide +kernel) rfl h
def V_X1_bandOf_55 (d : Nat) (S : AS) (F : AF) (G : AG) (Q : AQ) (a0 : Nat) (a1 : Int) (a2 : Int) (a3 : Int) (a4 : Int) (a5 : Int) : Prop :=
  (r32 (a4 + 1)) ∧
  Go d MX1_bandOf 12 [some (vR a0), some (vI a1), some (vI a2), some (vI a3), some (vI (a4 + 1)), none] [] S F G Q
theorem R_X1_bandOf_55 {d : Nat} {S : AS} {F : AF} {G : AG} {Q : AQ} {a0 : Nat} {a1 : Int} {a2 : Int} {a3 : Int} {a4 : Int} {a5 : Int} (hk0 : AtCuts S a0) (h : V_X1_bandOf_55 d S F G Q a0 a1 a2 a3 a4 a5) : Go d MX1_bandOf 55 [some (vR a0), some (vI a1), some (vI a2), some (vI a3), some (vI a4), some (vI a5)] [] S F G Q := by
  unfold V_X1_bandOf_55 at h
  obtain ⟨q1, h⟩ := h
  refine go_iinc (show decode cX1_bandOf 55 = .ok (.iinc 4 1, 3) by decide +kernel) (by rfl) q1 (by decide) ?_
  show Go d MX1_bandOf 58 [some (vR a0), some (vI a1), some (vI a2), some (vI a3), some (vI (a4 + 1)), some (vI a5)] [] S F G Q
  refine go_goto (tgt := 12) (show decode cX1_bandOf 58 = .ok (.goto (-46), 3) by decide +kernel) (by decide) ?_
  refine go_clr 5 ?_
  exact h
def V_X1_bandOf_12 (d : Nat) (S : AS) (F : AF) (G : AG) (Q : AQ) (a0 : Nat) (a1 : Int) (a2 : Int) (a3 : Int) (a4 : Int) : Prop :=
  ((104 ≤ a4) →
    Q (some (vI a2)) S F G) ∧
  ((¬ 104 ≤ a4) →
    ((a3 ≤ a2) →
      Q (some (vI a2)) S F G) ∧
    ((¬ a3 ≤ a2) →
      (r32 (a2 + a3)) ∧
      (r32 ((a2 + a3) + 1)) ∧
      (r32 (Int.tdiv ((a2 + a3) + 1) 2)) ∧
      ∀ x4 : Int, x4 = Int.tdiv ((a2 + a3) + 1) 2 →
      ((0 : Int) ≤ x4) ∧
      ((x4 : Int) < 105) ∧
      ((a1 < G (a0 + 1) x4) →
        (r32 (x4 - 1)) ∧
        ∀ x8 : Int, x8 = x4 - 1 →
        V_X1_bandOf_55 d S F G Q a0 a1 a2 x8 a4 x4) ∧
      ((¬ a1 < G (a0 + 1) x4) →
        V_X1_bandOf_55 d S F G Q a0 a1 x4 a3 a4 x4)))
theorem R_X1_bandOf_12 {d : Nat} {S : AS} {F : AF} {G : AG} {Q : AQ} {a0 : Nat} {a1 : Int} {a2 : Int} {a3 : Int} {a4 : Int} (hk0 : AtCuts S a0) (h : V_X1_bandOf_12 d S F G Q a0 a1 a2 a3 a4) : Go d MX1_bandOf 12 [some (vR a0), some (vI a1), some (vI a2), some (vI a3), some (vI a4), none] [] S F G Q := by
  unfold V_X1_bandOf_12 at h
  refine go_iload (show decode cX1_bandOf 12 = .ok (.iload 4, 2) by decide +kernel) (by rfl) ?_
  refine go_bipush (show decode cX1_bandOf 14 = .ok (.bipush 104, 2) by decide +kernel) (by decide) ?_
  obtain ⟨ht, hf⟩ := h
  refine go_icmpge (tgt := 61) (show decode cX1_bandOf 16 = .ok (.if_icmp .ge 45, 3) by decide +kernel) (by decide) (fun hc => ?_) (fun hc => ?_)
  · have h := ht hc
    refine go_iload_n (show decode cX1_bandOf 61 = .ok (.iload_n 2, 1) by decide +kernel) (by rfl) ?_
    exact go_iret (show decode cX1_bandOf 62 = .ok (.ireturn, 1) by decide +kernel) rfl h
  · have h := hf hc
    refine go_iload_n (show decode cX1_bandOf 19 = .ok (.iload_n 2, 1) by decide +kernel) (by rfl) ?_
    refine go_iload_n (show decode cX1_bandOf 20 = .ok (.iload_n 3, 1) by decide +kernel) (by rfl) ?_
    obtain ⟨ht, hf⟩ := h
    refine go_icmpge (tgt := 61) (show decode cX1_bandOf 21 = .ok (.if_icmp .ge 40, 3) by decide +kernel) (by decide) (fun hc => ?_) (fun hc => ?_)
    · have h := ht hc
      refine go_iload_n (show decode cX1_bandOf 61 = .ok (.iload_n 2, 1) by decide +kernel) (by rfl) ?_
      exact go_iret (show decode cX1_bandOf 62 = .ok (.ireturn, 1) by decide +kernel) rfl h
    · have h := hf hc
      refine go_iload_n (show decode cX1_bandOf 24 = .ok (.iload_n 2, 1) by decide +kernel) (by rfl) ?_
      refine go_iload_n (show decode cX1_bandOf 25 = .ok (.iload_n 3, 1) by decide +kernel) (by rfl) ?_
      obtain ⟨q1, h⟩ := h
      refine go_iadd (show decode cX1_bandOf 26 = .ok (.iadd, 1) by decide +kernel) q1 ?_
      refine go_iconst (show decode cX1_bandOf 27 = .ok (.iconst 1, 1) by decide +kernel) (by decide) ?_
      obtain ⟨q2, h⟩ := h
      refine go_iadd (show decode cX1_bandOf 28 = .ok (.iadd, 1) by decide +kernel) q2 ?_
      refine go_iconst (show decode cX1_bandOf 29 = .ok (.iconst 2, 1) by decide +kernel) (by decide) ?_
      obtain ⟨q3, h⟩ := h
      refine go_idiv (show decode cX1_bandOf 30 = .ok (.idiv, 1) by decide +kernel) (by decide) q3 ?_
      obtain ⟨x4, x4e⟩ : ∃ x4 : Int, x4 = Int.tdiv ((a2 + a3) + 1) 2 := ⟨_, rfl⟩
      have h := h x4 x4e
      rw [← x4e]
      refine go_istore (show decode cX1_bandOf 31 = .ok (.istore 5, 2) by decide +kernel) (by decide) ?_
      show Go d MX1_bandOf 33 [some (vR a0), some (vI a1), some (vI a2), some (vI a3), some (vI a4), some (vI x4)] [] S F G Q
      refine go_aload_n (show decode cX1_bandOf 33 = .ok (.aload_n 0, 1) by decide +kernel) (by rfl) ?_
      refine go_getRc (show decode cX1_bandOf 34 = .ok (.getfield 9, 3) by decide +kernel) fl_X1_9 rfl hk0.1 (v := (a0 + 1)) hk0.2.1 ?_
      refine go_iload (show decode cX1_bandOf 37 = .ok (.iload 5, 2) by decide +kernel) (by rfl) ?_
      obtain ⟨q5, h⟩ := h
      obtain ⟨q6, h⟩ := h
      refine go_iaload (show decode cX1_bandOf 39 = .ok (.iaload, 1) by decide +kernel) hk0.2.2.1 q5 (lt_n (m := 105) q6 hk0.2.2.2) ?_
      refine go_iload_n (show decode cX1_bandOf 40 = .ok (.iload_n 1, 1) by decide +kernel) (by rfl) ?_
      obtain ⟨ht, hf⟩ := h
      refine go_icmpgt (tgt := 50) (show decode cX1_bandOf 41 = .ok (.if_icmp .gt 9, 3) by decide +kernel) (by decide) (fun hc => ?_) (fun hc => ?_)
      · have h := ht hc
        refine go_iload (show decode cX1_bandOf 50 = .ok (.iload 5, 2) by decide +kernel) (by rfl) ?_
        refine go_iconst (show decode cX1_bandOf 52 = .ok (.iconst 1, 1) by decide +kernel) (by decide) ?_
        obtain ⟨q7, h⟩ := h
        refine go_isub (show decode cX1_bandOf 53 = .ok (.isub, 1) by decide +kernel) q7 ?_
        obtain ⟨x8, x8e⟩ : ∃ x8 : Int, x8 = x4 - 1 := ⟨_, rfl⟩
        have h := h x8 x8e
        rw [← x8e]
        refine go_istore_n (show decode cX1_bandOf 54 = .ok (.istore_n 3, 1) by decide +kernel) (by decide) ?_
        show Go d MX1_bandOf 55 [some (vR a0), some (vI a1), some (vI a2), some (vI x8), some (vI a4), some (vI x4)] [] S F G Q
        exact R_X1_bandOf_55 hk0 h
      · have h := hf hc
        refine go_iload (show decode cX1_bandOf 44 = .ok (.iload 5, 2) by decide +kernel) (by rfl) ?_
        refine go_istore_n (show decode cX1_bandOf 46 = .ok (.istore_n 2, 1) by decide +kernel) (by decide) ?_
        show Go d MX1_bandOf 47 [some (vR a0), some (vI a1), some (vI x4), some (vI a3), some (vI a4), some (vI x4)] [] S F G Q
        refine go_goto (tgt := 55) (show decode cX1_bandOf 47 = .ok (.goto 8, 3) by decide +kernel) (by decide) ?_
        exact R_X1_bandOf_55 hk0 h
def V_X1_bandOf_0 (d : Nat) (S : AS) (F : AF) (G : AG) (Q : AQ) (a0 : Nat) (a1 : Int) : Prop :=
  (r32 ((F a0 1) - 1)) ∧
  ∀ x2 : Int, x2 = (F a0 1) - 1 →
  Go d MX1_bandOf 12 [some (vR a0), some (vI a1), some (vI 0), some (vI x2), some (vI 0), none] [] S F G Q
theorem R_X1_bandOf_0 {d : Nat} {S : AS} {F : AF} {G : AG} {Q : AQ} {a0 : Nat} {a1 : Int} (hk0 : AtCuts S a0) (h : V_X1_bandOf_0 d S F G Q a0 a1) : Go d MX1_bandOf 0 [some (vR a0), some (vI a1), none, none, none, none] [] S F G Q := by
  unfold V_X1_bandOf_0 at h
  refine go_iconst (show decode cX1_bandOf 0 = .ok (.iconst 0, 1) by decide +kernel) (by decide) ?_
  refine go_istore_n (show decode cX1_bandOf 1 = .ok (.istore_n 2, 1) by decide +kernel) (by decide) ?_
  show Go d MX1_bandOf 2 [some (vR a0), some (vI a1), some (vI 0), none, none, none] [] S F G Q
  refine go_aload_n (show decode cX1_bandOf 2 = .ok (.aload_n 0, 1) by decide +kernel) (by rfl) ?_
  refine go_getI (show decode cX1_bandOf 3 = .ok (.getfield 19, 3) by decide +kernel) fl_X1_19 (Or.inl rfl) hk0.1 ?_
  refine go_iconst (show decode cX1_bandOf 6 = .ok (.iconst 1, 1) by decide +kernel) (by decide) ?_
  obtain ⟨q1, h⟩ := h
  refine go_isub (show decode cX1_bandOf 7 = .ok (.isub, 1) by decide +kernel) q1 ?_
  obtain ⟨x2, x2e⟩ : ∃ x2 : Int, x2 = (F a0 1) - 1 := ⟨_, rfl⟩
  have h := h x2 x2e
  rw [← x2e]
  refine go_istore_n (show decode cX1_bandOf 8 = .ok (.istore_n 3, 1) by decide +kernel) (by decide) ?_
  show Go d MX1_bandOf 9 [some (vR a0), some (vI a1), some (vI 0), some (vI x2), none, none] [] S F G Q
  refine go_iconst (show decode cX1_bandOf 9 = .ok (.iconst 0, 1) by decide +kernel) (by decide) ?_
  refine go_istore (show decode cX1_bandOf 10 = .ok (.istore 4, 2) by decide +kernel) (by decide) ?_
  show Go d MX1_bandOf 12 [some (vR a0), some (vI a1), some (vI 0), some (vI x2), some (vI 0), none] [] S F G Q
  exact h
def V_X1_overlap_20 (d : Nat) (S : AS) (F : AF) (G : AG) (Q : AQ) (a0 : Nat) (a1 : Int) (a2 : Int) (a3 : Int) (s0 : Int) : Prop :=
  (r32 (a1 + 1)) ∧
  ((0 : Int) ≤ a1 + 1) ∧
  ((a1 + 1 : Int) < 105) ∧
  ((G (a0 + 1) (a1 + 1) ≤ a3) →
    ∀ x4 : Int, x4 = G (a0 + 1) (a1 + 1) →
    (r32 (x4 - s0)) ∧
    Q (some (vI (x4 - s0))) S F G) ∧
  ((¬ G (a0 + 1) (a1 + 1) ≤ a3) →
    (r32 (a3 + 1)) ∧
    ∀ x7 : Int, x7 = a3 + 1 →
    (r32 (x7 - s0)) ∧
    Q (some (vI (x7 - s0))) S F G)
theorem R_X1_overlap_20 {d : Nat} {S : AS} {F : AF} {G : AG} {Q : AQ} {a0 : Nat} {a1 : Int} {a2 : Int} {a3 : Int} {s0 : Int} (hk0 : AtCuts S a0) (h : V_X1_overlap_20 d S F G Q a0 a1 a2 a3 s0) : Go d MX1_overlap 20 [some (vR a0), some (vI a1), some (vI a2), some (vI a3), none, none] [vI s0] S F G Q := by
  unfold V_X1_overlap_20 at h
  refine go_istore (show decode cX1_overlap 20 = .ok (.istore 4, 2) by decide +kernel) (by decide) ?_
  show Go d MX1_overlap 22 [some (vR a0), some (vI a1), some (vI a2), some (vI a3), some (vI s0), none] [] S F G Q
  refine go_aload_n (show decode cX1_overlap 22 = .ok (.aload_n 0, 1) by decide +kernel) (by rfl) ?_
  refine go_getRc (show decode cX1_overlap 23 = .ok (.getfield 9, 3) by decide +kernel) fl_X1_9 rfl hk0.1 (v := (a0 + 1)) hk0.2.1 ?_
  refine go_iload_n (show decode cX1_overlap 26 = .ok (.iload_n 1, 1) by decide +kernel) (by rfl) ?_
  refine go_iconst (show decode cX1_overlap 27 = .ok (.iconst 1, 1) by decide +kernel) (by decide) ?_
  obtain ⟨q1, h⟩ := h
  refine go_iadd (show decode cX1_overlap 28 = .ok (.iadd, 1) by decide +kernel) q1 ?_
  obtain ⟨q2, h⟩ := h
  obtain ⟨q3, h⟩ := h
  refine go_iaload (show decode cX1_overlap 29 = .ok (.iaload, 1) by decide +kernel) hk0.2.2.1 q2 (lt_n (m := 105) q3 hk0.2.2.2) ?_
  refine go_iload_n (show decode cX1_overlap 30 = .ok (.iload_n 3, 1) by decide +kernel) (by rfl) ?_
  obtain ⟨ht, hf⟩ := h
  refine go_icmple (tgt := 40) (show decode cX1_overlap 31 = .ok (.if_icmp .le 9, 3) by decide +kernel) (by decide) (fun hc => ?_) (fun hc => ?_)
  · have h := ht hc
    refine go_aload_n (show decode cX1_overlap 40 = .ok (.aload_n 0, 1) by decide +kernel) (by rfl) ?_
    refine go_getRc (show decode cX1_overlap 41 = .ok (.getfield 9, 3) by decide +kernel) fl_X1_9 rfl hk0.1 (v := (a0 + 1)) hk0.2.1 ?_
    refine go_iload_n (show decode cX1_overlap 44 = .ok (.iload_n 1, 1) by decide +kernel) (by rfl) ?_
    refine go_iconst (show decode cX1_overlap 45 = .ok (.iconst 1, 1) by decide +kernel) (by decide) ?_
    refine go_iadd (show decode cX1_overlap 46 = .ok (.iadd, 1) by decide +kernel) q1 ?_
    refine go_iaload (show decode cX1_overlap 47 = .ok (.iaload, 1) by decide +kernel) hk0.2.2.1 q2 (lt_n (m := 105) q3 hk0.2.2.2) ?_
    obtain ⟨x4, x4e⟩ : ∃ x4 : Int, x4 = G (a0 + 1) (a1 + 1) := ⟨_, rfl⟩
    have h := h x4 x4e
    rw [← x4e]
    refine go_istore (show decode cX1_overlap 48 = .ok (.istore 5, 2) by decide +kernel) (by decide) ?_
    show Go d MX1_overlap 50 [some (vR a0), some (vI a1), some (vI a2), some (vI a3), some (vI s0), some (vI x4)] [] S F G Q
    refine go_iload (show decode cX1_overlap 50 = .ok (.iload 5, 2) by decide +kernel) (by rfl) ?_
    refine go_iload (show decode cX1_overlap 52 = .ok (.iload 4, 2) by decide +kernel) (by rfl) ?_
    obtain ⟨q5, h⟩ := h
    refine go_isub (show decode cX1_overlap 54 = .ok (.isub, 1) by decide +kernel) q5 ?_
    exact go_iret (show decode cX1_overlap 55 = .ok (.ireturn, 1) by decide +kernel) rfl h
  · have h := hf hc
    refine go_iload_n (show decode cX1_overlap 34 = .ok (.iload_n 3, 1) by decide +kernel) (by rfl) ?_
    refine go_iconst (show decode cX1_overlap 35 = .ok (.iconst 1, 1) by decide +kernel) (by decide) ?_
    obtain ⟨q6, h⟩ := h
    refine go_iadd (show decode cX1_overlap 36 = .ok (.iadd, 1) by decide +kernel) q6 ?_
    refine go_goto (tgt := 48) (show decode cX1_overlap 37 = .ok (.goto 11, 3) by decide +kernel) (by decide) ?_
    obtain ⟨x7, x7e⟩ : ∃ x7 : Int, x7 = a3 + 1 := ⟨_, rfl⟩
    have h := h x7 x7e
    rw [← x7e]
    refine go_istore (show decode cX1_overlap 48 = .ok (.istore 5, 2) by decide +kernel) (by decide) ?_
    show Go d MX1_overlap 50 [some (vR a0), some (vI a1), some (vI a2), some (vI a3), some (vI s0), some (vI x7)] [] S F G Q
    refine go_iload (show decode cX1_overlap 50 = .ok (.iload 5, 2) by decide +kernel) (by rfl) ?_
    refine go_iload (show decode cX1_overlap 52 = .ok (.iload 4, 2) by decide +kernel) (by rfl) ?_
    obtain ⟨q8, h⟩ := h
    refine go_isub (show decode cX1_overlap 54 = .ok (.isub, 1) by decide +kernel) q8 ?_
    exact go_iret (show decode cX1_overlap 55 = .ok (.ireturn, 1) by decide +kernel) rfl h
def V_X1_overlap_0 (d : Nat) (S : AS) (F : AF) (G : AG) (Q : AQ) (a0 : Nat) (a1 : Int) (a2 : Int) (a3 : Int) : Prop :=
  ((0 : Int) ≤ a1) ∧
  ((a1 : Int) < 105) ∧
  ((a2 ≤ G (a0 + 1) a1) →
    V_X1_overlap_20 d S F G Q a0 a1 a2 a3 (G (a0 + 1) a1)) ∧
  ((¬ a2 ≤ G (a0 + 1) a1) →
    V_X1_overlap_20 d S F G Q a0 a1 a2 a3 a2)
theorem R_X1_overlap_0 {d : Nat} {S : AS} {F : AF} {G : AG} {Q : AQ} {a0 : Nat} {a1 : Int} {a2 : Int} {a3 : Int} (hk0 : AtCuts S a0) (h : V_X1_overlap_0 d S F G Q a0 a1 a2 a3) : Go d MX1_overlap 0 [some (vR a0), some (vI a1), some (vI a2), some (vI a3), none, none] [] S F G Q := by
  unfold V_X1_overlap_0 at h
  refine go_aload_n (show decode cX1_overlap 0 = .ok (.aload_n 0, 1) by decide +kernel) (by rfl) ?_
  refine go_getRc (show decode cX1_overlap 1 = .ok (.getfield 9, 3) by decide +kernel) fl_X1_9 rfl hk0.1 (v := (a0 + 1)) hk0.2.1 ?_
  refine go_iload_n (show decode cX1_overlap 4 = .ok (.iload_n 1, 1) by decide +kernel) (by rfl) ?_
  obtain ⟨q1, h⟩ := h
  obtain ⟨q2, h⟩ := h
  refine go_iaload (show decode cX1_overlap 5 = .ok (.iaload, 1) by decide +kernel) hk0.2.2.1 q1 (lt_n (m := 105) q2 hk0.2.2.2) ?_
  refine go_iload_n (show decode cX1_overlap 6 = .ok (.iload_n 2, 1) by decide +kernel) (by rfl) ?_
  obtain ⟨ht, hf⟩ := h
  refine go_icmpge (tgt := 14) (show decode cX1_overlap 7 = .ok (.if_icmp .ge 7, 3) by decide +kernel) (by decide) (fun hc => ?_) (fun hc => ?_)
  · have h := ht hc
    refine go_aload_n (show decode cX1_overlap 14 = .ok (.aload_n 0, 1) by decide +kernel) (by rfl) ?_
    refine go_getRc (show decode cX1_overlap 15 = .ok (.getfield 9, 3) by decide +kernel) fl_X1_9 rfl hk0.1 (v := (a0 + 1)) hk0.2.1 ?_
    refine go_iload_n (show decode cX1_overlap 18 = .ok (.iload_n 1, 1) by decide +kernel) (by rfl) ?_
    refine go_iaload (show decode cX1_overlap 19 = .ok (.iaload, 1) by decide +kernel) hk0.2.2.1 q1 (lt_n (m := 105) q2 hk0.2.2.2) ?_
    exact R_X1_overlap_20 hk0 h
  · have h := hf hc
    refine go_iload_n (show decode cX1_overlap 10 = .ok (.iload_n 2, 1) by decide +kernel) (by rfl) ?_
    refine go_goto (tgt := 20) (show decode cX1_overlap 11 = .ok (.goto 9, 3) by decide +kernel) (by decide) ?_
    exact R_X1_overlap_20 hk0 h
def V_X1_copy_0 (d : Nat) (S : AS) (F : AF) (G : AG) (Q : AQ) (a0 : Nat) (a1 : Nat) : Prop :=
  ∀ F1 : AF, F1 = fu F a0 2 (F a1 2) →
  ∀ F2 : AF, F2 = fu F1 a0 1 (F1 a1 1) →
  (r32 ((F2 a1 1) + 1)) ∧
  (1 ≤ d) ∧
  ((0 : Int) ≤ (F2 a1 1) + 1) ∧
  ((0 + ((F2 a1 1) + 1) : Int) ≤ 105) ∧
  ∀ G7 : AG, G7 = gcp G (a1 + 1) (a0 + 1) 0 0 ((F2 a1 1) + 1) →
  Q none S F2 G7
theorem R_X1_copy_0 {d : Nat} {S : AS} {F : AF} {G : AG} {Q : AQ} {a0 : Nat} {a1 : Nat} (hk0 : AtCuts S a0) (hk1 : AtCuts S a1) (h : V_X1_copy_0 d S F G Q a0 a1) : Go d MX1_copy 0 [some (vR a0), some (vR a1)] [] S F G Q := by
  unfold V_X1_copy_0 at h
  refine go_aload_n (show decode cX1_copy 0 = .ok (.aload_n 0, 1) by decide +kernel) (by rfl) ?_
  refine go_aload_n (show decode cX1_copy 1 = .ok (.aload_n 1, 1) by decide +kernel) (by rfl) ?_
  refine go_getI (show decode cX1_copy 2 = .ok (.getfield 15, 3) by decide +kernel) fl_X1_15 (Or.inl rfl) hk1.1 ?_
  refine go_putI (show decode cX1_copy 5 = .ok (.putfield 15, 3) by decide +kernel) fl_X1_15 rfl (Or.inl rfl) hk0.1 ?_
  obtain ⟨F1, F1e⟩ : ∃ F1 : AF, F1 = fu F a0 2 (F a1 2) := ⟨_, rfl⟩
  have h := h F1 F1e
  rw [← F1e]
  refine go_aload_n (show decode cX1_copy 8 = .ok (.aload_n 0, 1) by decide +kernel) (by rfl) ?_
  refine go_aload_n (show decode cX1_copy 9 = .ok (.aload_n 1, 1) by decide +kernel) (by rfl) ?_
  refine go_getI (show decode cX1_copy 10 = .ok (.getfield 19, 3) by decide +kernel) fl_X1_19 (Or.inl rfl) hk1.1 ?_
  refine go_putI (show decode cX1_copy 13 = .ok (.putfield 19, 3) by decide +kernel) fl_X1_19 rfl (Or.inl rfl) hk0.1 ?_
  obtain ⟨F2, F2e⟩ : ∃ F2 : AF, F2 = fu F1 a0 1 (F1 a1 1) := ⟨_, rfl⟩
  have h := h F2 F2e
  rw [← F2e]
  refine go_aload_n (show decode cX1_copy 16 = .ok (.aload_n 1, 1) by decide +kernel) (by rfl) ?_
  refine go_getRc (show decode cX1_copy 17 = .ok (.getfield 9, 3) by decide +kernel) fl_X1_9 rfl hk1.1 (v := (a1 + 1)) hk1.2.1 ?_
  refine go_iconst (show decode cX1_copy 20 = .ok (.iconst 0, 1) by decide +kernel) (by decide) ?_
  refine go_aload_n (show decode cX1_copy 21 = .ok (.aload_n 0, 1) by decide +kernel) (by rfl) ?_
  refine go_getRc (show decode cX1_copy 22 = .ok (.getfield 9, 3) by decide +kernel) fl_X1_9 rfl hk0.1 (v := (a0 + 1)) hk0.2.1 ?_
  refine go_iconst (show decode cX1_copy 25 = .ok (.iconst 0, 1) by decide +kernel) (by decide) ?_
  refine go_aload_n (show decode cX1_copy 26 = .ok (.aload_n 1, 1) by decide +kernel) (by rfl) ?_
  refine go_getI (show decode cX1_copy 27 = .ok (.getfield 19, 3) by decide +kernel) fl_X1_19 (Or.inl rfl) hk1.1 ?_
  refine go_iconst (show decode cX1_copy 30 = .ok (.iconst 1, 1) by decide +kernel) (by decide) ?_
  obtain ⟨q3, h⟩ := h
  refine go_iadd (show decode cX1_copy 31 = .ok (.iadd, 1) by decide +kernel) q3 ?_
  obtain ⟨q4, h⟩ := h
  obtain ⟨q5, h⟩ := h
  obtain ⟨q6, h⟩ := h
  refine go_copyI (show decode cX1_copy 32 = .ok (.invokestatic 22, 3) by decide +kernel) ml_X1_22 ac_n ac_s ac_i hk1.2.2.1 hk0.2.2.1 (by decide) (by decide) q5 (le_n (m := 105) q6 hk1.2.2.2) (le_n (m := 105) q6 hk0.2.2.2) (Nat.le_of_ble_eq_true rfl) q4 ?_
  obtain ⟨G7, G7e⟩ : ∃ G7 : AG, G7 = gcp G (a1 + 1) (a0 + 1) 0 0 ((F2 a1 1) + 1) := ⟨_, rfl⟩
  have h := h G7 G7e
  rw [← G7e]
  exact go_vret (show decode cX1_copy 35 = .ok (.return_, 1) by decide +kernel) rfl h
def V_X1_put_46 (d : Nat) (S : AS) (F : AF) (G : AG) (Q : AQ) (a0 : Nat) (a1 : Int) (a2 : Int) (a3 : Int) : Prop :=
  (r32 (a2 + 1)) ∧
  ((a3 ≤ a2 + 1) →
    ((0 : Int) ≤ a2 + 1) ∧
    ((a2 + 1 : Int) < 105) ∧
    ∀ G4 : AG, G4 = gu G (a0 + 1) (a2 + 1) a1 →
    (r32 ((F a0 1) + 1)) ∧
    ∀ F6 : AF, F6 = fu F a0 1 ((F a0 1) + 1) →
    Q none S F6 G4) ∧
  ((¬ a3 ≤ a2 + 1) →
    (r32 (a3 - 1)) ∧
    ((0 : Int) ≤ a3 - 1) ∧
    ((a3 - 1 : Int) < 105) ∧
    ((0 : Int) ≤ a3) ∧
    ((a3 : Int) < 105) ∧
    ∀ G12 : AG, G12 = gu G (a0 + 1) a3 (G (a0 + 1) (a3 - 1)) →
    (r32 (a3 + (-1))) ∧
    Go d MX1_put 46 [some (vR a0), some (vI a1), some (vI a2), some (vI (a3 + (-1)))] [] S F G12 Q)
theorem R_X1_put_46 {d : Nat} {S : AS} {F : AF} {G : AG} {Q : AQ} {a0 : Nat} {a1 : Int} {a2 : Int} {a3 : Int} (hk0 : AtCuts S a0) (h : V_X1_put_46 d S F G Q a0 a1 a2 a3) : Go d MX1_put 46 [some (vR a0), some (vI a1), some (vI a2), some (vI a3)] [] S F G Q := by
  unfold V_X1_put_46 at h
  refine go_iload_n (show decode cX1_put 46 = .ok (.iload_n 3, 1) by decide +kernel) (by rfl) ?_
  refine go_iload_n (show decode cX1_put 47 = .ok (.iload_n 2, 1) by decide +kernel) (by rfl) ?_
  refine go_iconst (show decode cX1_put 48 = .ok (.iconst 1, 1) by decide +kernel) (by decide) ?_
  obtain ⟨q1, h⟩ := h
  refine go_iadd (show decode cX1_put 49 = .ok (.iadd, 1) by decide +kernel) q1 ?_
  obtain ⟨ht, hf⟩ := h
  refine go_icmple (tgt := 73) (show decode cX1_put 50 = .ok (.if_icmp .le 23, 3) by decide +kernel) (by decide) (fun hc => ?_) (fun hc => ?_)
  · have h := ht hc
    refine go_aload_n (show decode cX1_put 73 = .ok (.aload_n 0, 1) by decide +kernel) (by rfl) ?_
    refine go_getRc (show decode cX1_put 74 = .ok (.getfield 9, 3) by decide +kernel) fl_X1_9 rfl hk0.1 (v := (a0 + 1)) hk0.2.1 ?_
    refine go_iload_n (show decode cX1_put 77 = .ok (.iload_n 2, 1) by decide +kernel) (by rfl) ?_
    refine go_iconst (show decode cX1_put 78 = .ok (.iconst 1, 1) by decide +kernel) (by decide) ?_
    refine go_iadd (show decode cX1_put 79 = .ok (.iadd, 1) by decide +kernel) q1 ?_
    refine go_iload_n (show decode cX1_put 80 = .ok (.iload_n 1, 1) by decide +kernel) (by rfl) ?_
    obtain ⟨q2, h⟩ := h
    obtain ⟨q3, h⟩ := h
    refine go_iastore (show decode cX1_put 81 = .ok (.iastore, 1) by decide +kernel) hk0.2.2.1 q2 (lt_n (m := 105) q3 hk0.2.2.2)  ?_
    obtain ⟨G4, G4e⟩ : ∃ G4 : AG, G4 = gu G (a0 + 1) (a2 + 1) a1 := ⟨_, rfl⟩
    have h := h G4 G4e
    rw [← G4e]
    refine go_aload_n (show decode cX1_put 82 = .ok (.aload_n 0, 1) by decide +kernel) (by rfl) ?_
    refine go_dup (show decode cX1_put 83 = .ok (.dup, 1) by decide +kernel) ?_
    refine go_getI (show decode cX1_put 84 = .ok (.getfield 19, 3) by decide +kernel) fl_X1_19 (Or.inl rfl) hk0.1 ?_
    refine go_iconst (show decode cX1_put 87 = .ok (.iconst 1, 1) by decide +kernel) (by decide) ?_
    obtain ⟨q5, h⟩ := h
    refine go_iadd (show decode cX1_put 88 = .ok (.iadd, 1) by decide +kernel) q5 ?_
    refine go_putI (show decode cX1_put 89 = .ok (.putfield 19, 3) by decide +kernel) fl_X1_19 rfl (Or.inl rfl) hk0.1 ?_
    obtain ⟨F6, F6e⟩ : ∃ F6 : AF, F6 = fu F a0 1 ((F a0 1) + 1) := ⟨_, rfl⟩
    have h := h F6 F6e
    rw [← F6e]
    exact go_vret (show decode cX1_put 92 = .ok (.return_, 1) by decide +kernel) rfl h
  · have h := hf hc
    refine go_aload_n (show decode cX1_put 53 = .ok (.aload_n 0, 1) by decide +kernel) (by rfl) ?_
    refine go_getRc (show decode cX1_put 54 = .ok (.getfield 9, 3) by decide +kernel) fl_X1_9 rfl hk0.1 (v := (a0 + 1)) hk0.2.1 ?_
    refine go_iload_n (show decode cX1_put 57 = .ok (.iload_n 3, 1) by decide +kernel) (by rfl) ?_
    refine go_aload_n (show decode cX1_put 58 = .ok (.aload_n 0, 1) by decide +kernel) (by rfl) ?_
    refine go_getRc (show decode cX1_put 59 = .ok (.getfield 9, 3) by decide +kernel) fl_X1_9 rfl hk0.1 (v := (a0 + 1)) hk0.2.1 ?_
    refine go_iload_n (show decode cX1_put 62 = .ok (.iload_n 3, 1) by decide +kernel) (by rfl) ?_
    refine go_iconst (show decode cX1_put 63 = .ok (.iconst 1, 1) by decide +kernel) (by decide) ?_
    obtain ⟨q7, h⟩ := h
    refine go_isub (show decode cX1_put 64 = .ok (.isub, 1) by decide +kernel) q7 ?_
    obtain ⟨q8, h⟩ := h
    obtain ⟨q9, h⟩ := h
    refine go_iaload (show decode cX1_put 65 = .ok (.iaload, 1) by decide +kernel) hk0.2.2.1 q8 (lt_n (m := 105) q9 hk0.2.2.2) ?_
    obtain ⟨q10, h⟩ := h
    obtain ⟨q11, h⟩ := h
    refine go_iastore (show decode cX1_put 66 = .ok (.iastore, 1) by decide +kernel) hk0.2.2.1 q10 (lt_n (m := 105) q11 hk0.2.2.2)  ?_
    obtain ⟨G12, G12e⟩ : ∃ G12 : AG, G12 = gu G (a0 + 1) a3 (G (a0 + 1) (a3 - 1)) := ⟨_, rfl⟩
    have h := h G12 G12e
    rw [← G12e]
    obtain ⟨q13, h⟩ := h
    refine go_iinc (show decode cX1_put 67 = .ok (.iinc 3 (-1), 3) by decide +kernel) (by rfl) q13 (by decide) ?_
    show Go d MX1_put 70 [some (vR a0), some (vI a1), some (vI a2), some (vI (a3 + (-1)))] [] S F G12 Q
    refine go_goto (tgt := 46) (show decode cX1_put 70 = .ok (.goto (-24), 3) by decide +kernel) (by decide) ?_
    exact h
def V_X1_put_0 (d : Nat) (S : AS) (F : AF) (G : AG) (Q : AQ) (a0 : Nat) (a1 : Int) : Prop :=
  ((a1 ≤ 0) →
    Q none S F G) ∧
  ((¬ a1 ≤ 0) →
    ((F a0 2 ≤ a1) →
      Q none S F G) ∧
    ((¬ F a0 2 ≤ a1) →
      ((F a0 1 < 104) →
        (1 ≤ d) ∧
        ∃ z6 : Int, Pu (d - 1) MX1_bandOf [vR a0, vI a1] S F G (some (vI z6)) ∧
        ((0 : Int) ≤ z6) ∧
        ((z6 : Int) < 105) ∧
        ((¬ G (a0 + 1) z6 = a1) →
          (r32 ((F a0 1) + 1)) ∧
          ∀ x11 : Int, x11 = (F a0 1) + 1 →
          Go d MX1_put 46 [some (vR a0), some (vI a1), some (vI z6), some (vI x11)] [] S F G Q) ∧
        ((G (a0 + 1) z6 = a1) →
          Q none S F G)) ∧
      ((¬ F a0 1 < 104) →
        Q none S F G)))
theorem R_X1_put_0 {d : Nat} {S : AS} {F : AF} {G : AG} {Q : AQ} {a0 : Nat} {a1 : Int} (hk0 : AtCuts S a0) (h : V_X1_put_0 d S F G Q a0 a1) : Go d MX1_put 0 [some (vR a0), some (vI a1), none, none] [] S F G Q := by
  unfold V_X1_put_0 at h
  refine go_iload_n (show decode cX1_put 0 = .ok (.iload_n 1, 1) by decide +kernel) (by rfl) ?_
  obtain ⟨ht, hf⟩ := h
  refine go_ifle (tgt := 21) (show decode cX1_put 1 = .ok (.ifCond .le 20, 3) by decide +kernel) (by decide) (fun hc => ?_) (fun hc => ?_)
  · have h := ht hc
    exact go_vret (show decode cX1_put 21 = .ok (.return_, 1) by decide +kernel) rfl h
  · have h := hf hc
    refine go_iload_n (show decode cX1_put 4 = .ok (.iload_n 1, 1) by decide +kernel) (by rfl) ?_
    refine go_aload_n (show decode cX1_put 5 = .ok (.aload_n 0, 1) by decide +kernel) (by rfl) ?_
    refine go_getI (show decode cX1_put 6 = .ok (.getfield 15, 3) by decide +kernel) fl_X1_15 (Or.inl rfl) hk0.1 ?_
    obtain ⟨ht, hf⟩ := h
    refine go_icmpge (tgt := 21) (show decode cX1_put 9 = .ok (.if_icmp .ge 12, 3) by decide +kernel) (by decide) (fun hc => ?_) (fun hc => ?_)
    · have h := ht hc
      exact go_vret (show decode cX1_put 21 = .ok (.return_, 1) by decide +kernel) rfl h
    · have h := hf hc
      refine go_aload_n (show decode cX1_put 12 = .ok (.aload_n 0, 1) by decide +kernel) (by rfl) ?_
      refine go_getI (show decode cX1_put 13 = .ok (.getfield 19, 3) by decide +kernel) fl_X1_19 (Or.inl rfl) hk0.1 ?_
      refine go_bipush (show decode cX1_put 16 = .ok (.bipush 104, 2) by decide +kernel) (by decide) ?_
      obtain ⟨ht, hf⟩ := h
      refine go_icmplt (tgt := 22) (show decode cX1_put 18 = .ok (.if_icmp .lt 4, 3) by decide +kernel) (by decide) (fun hc => ?_) (fun hc => ?_)
      · have h := ht hc
        refine go_aload_n (show decode cX1_put 22 = .ok (.aload_n 0, 1) by decide +kernel) (by rfl) ?_
        refine go_iload_n (show decode cX1_put 23 = .ok (.iload_n 1, 1) by decide +kernel) (by rfl) ?_
        obtain ⟨q1, h⟩ := h
        obtain ⟨z6, p7, h⟩ := h
        refine go_callV (d2 := d - 1) (M2 := MX1_bandOf) (n := 1) (ci := 1) (av := [vI a1]) (st := []) (show decode cX1_put 24 = .ok (.invokevirtual 28, 3) by decide +kernel) ml_X1_28 mt_X1_bandOf min_X1_bandOf mse_X1_bandOf (by decide) hk0.1 rfl (Nat.le_of_ble_eq_true rfl) (by omega) (ok_mono p7 (fun w2 S3 F4 G5 e9 => ?_))
        obtain ⟨e1, e2, e3, e4⟩ := e9
        subst e1
        replace e2 := e2.symm; subst e2
        replace e3 := e3.symm; subst e3
        replace e4 := e4.symm; subst e4
        show Go d MX1_put 27 [some (vR a0), some (vI a1), none, none] [vI z6] S F G Q
        refine go_istore_n (show decode cX1_put 27 = .ok (.istore_n 2, 1) by decide +kernel) (by decide) ?_
        show Go d MX1_put 28 [some (vR a0), some (vI a1), some (vI z6), none] [] S F G Q
        refine go_aload_n (show decode cX1_put 28 = .ok (.aload_n 0, 1) by decide +kernel) (by rfl) ?_
        refine go_getRc (show decode cX1_put 29 = .ok (.getfield 9, 3) by decide +kernel) fl_X1_9 rfl hk0.1 (v := (a0 + 1)) hk0.2.1 ?_
        refine go_iload_n (show decode cX1_put 32 = .ok (.iload_n 2, 1) by decide +kernel) (by rfl) ?_
        obtain ⟨q8, h⟩ := h
        obtain ⟨q9, h⟩ := h
        refine go_iaload (show decode cX1_put 33 = .ok (.iaload, 1) by decide +kernel) hk0.2.2.1 q8 (lt_n (m := 105) q9 hk0.2.2.2) ?_
        refine go_iload_n (show decode cX1_put 34 = .ok (.iload_n 1, 1) by decide +kernel) (by rfl) ?_
        obtain ⟨ht, hf⟩ := h
        refine go_icmpne (tgt := 39) (show decode cX1_put 35 = .ok (.if_icmp .ne 4, 3) by decide +kernel) (by decide) (fun hc => ?_) (fun hc => ?_)
        · have h := ht hc
          refine go_aload_n (show decode cX1_put 39 = .ok (.aload_n 0, 1) by decide +kernel) (by rfl) ?_
          refine go_getI (show decode cX1_put 40 = .ok (.getfield 19, 3) by decide +kernel) fl_X1_19 (Or.inl rfl) hk0.1 ?_
          refine go_iconst (show decode cX1_put 43 = .ok (.iconst 1, 1) by decide +kernel) (by decide) ?_
          obtain ⟨q10, h⟩ := h
          refine go_iadd (show decode cX1_put 44 = .ok (.iadd, 1) by decide +kernel) q10 ?_
          obtain ⟨x11, x11e⟩ : ∃ x11 : Int, x11 = (F a0 1) + 1 := ⟨_, rfl⟩
          have h := h x11 x11e
          rw [← x11e]
          refine go_istore_n (show decode cX1_put 45 = .ok (.istore_n 3, 1) by decide +kernel) (by decide) ?_
          show Go d MX1_put 46 [some (vR a0), some (vI a1), some (vI z6), some (vI x11)] [] S F G Q
          exact h
        · have h := hf hc
          exact go_vret (show decode cX1_put 38 = .ok (.return_, 1) by decide +kernel) rfl h
      · have h := hf hc
        exact go_vret (show decode cX1_put 21 = .ok (.return_, 1) by decide +kernel) rfl h
def V_X1_widthOf_0 (d : Nat) (S : AS) (F : AF) (G : AG) (Q : AQ) (a0 : Nat) (a1 : Int) : Prop :=
  (r32 (a1 + 1)) ∧
  ((0 : Int) ≤ a1 + 1) ∧
  ((a1 + 1 : Int) < 105) ∧
  ((0 : Int) ≤ a1) ∧
  ((a1 : Int) < 105) ∧
  (r32 ((G (a0 + 1) (a1 + 1)) - (G (a0 + 1) a1))) ∧
  Q (some (vI ((G (a0 + 1) (a1 + 1)) - (G (a0 + 1) a1)))) S F G
theorem R_X1_widthOf_0 {d : Nat} {S : AS} {F : AF} {G : AG} {Q : AQ} {a0 : Nat} {a1 : Int} (hk0 : AtCuts S a0) (h : V_X1_widthOf_0 d S F G Q a0 a1) : Go d MX1_widthOf 0 [some (vR a0), some (vI a1)] [] S F G Q := by
  unfold V_X1_widthOf_0 at h
  refine go_aload_n (show decode cX1_widthOf 0 = .ok (.aload_n 0, 1) by decide +kernel) (by rfl) ?_
  refine go_getRc (show decode cX1_widthOf 1 = .ok (.getfield 9, 3) by decide +kernel) fl_X1_9 rfl hk0.1 (v := (a0 + 1)) hk0.2.1 ?_
  refine go_iload_n (show decode cX1_widthOf 4 = .ok (.iload_n 1, 1) by decide +kernel) (by rfl) ?_
  refine go_iconst (show decode cX1_widthOf 5 = .ok (.iconst 1, 1) by decide +kernel) (by decide) ?_
  obtain ⟨q1, h⟩ := h
  refine go_iadd (show decode cX1_widthOf 6 = .ok (.iadd, 1) by decide +kernel) q1 ?_
  obtain ⟨q2, h⟩ := h
  obtain ⟨q3, h⟩ := h
  refine go_iaload (show decode cX1_widthOf 7 = .ok (.iaload, 1) by decide +kernel) hk0.2.2.1 q2 (lt_n (m := 105) q3 hk0.2.2.2) ?_
  refine go_aload_n (show decode cX1_widthOf 8 = .ok (.aload_n 0, 1) by decide +kernel) (by rfl) ?_
  refine go_getRc (show decode cX1_widthOf 9 = .ok (.getfield 9, 3) by decide +kernel) fl_X1_9 rfl hk0.1 (v := (a0 + 1)) hk0.2.1 ?_
  refine go_iload_n (show decode cX1_widthOf 12 = .ok (.iload_n 1, 1) by decide +kernel) (by rfl) ?_
  obtain ⟨q4, h⟩ := h
  obtain ⟨q5, h⟩ := h
  refine go_iaload (show decode cX1_widthOf 13 = .ok (.iaload, 1) by decide +kernel) hk0.2.2.1 q4 (lt_n (m := 105) q5 hk0.2.2.2) ?_
  obtain ⟨q6, h⟩ := h
  refine go_isub (show decode cX1_widthOf 14 = .ok (.isub, 1) by decide +kernel) q6 ?_
  exact go_iret (show decode cX1_widthOf 15 = .ok (.ireturn, 1) by decide +kernel) rfl h
set_option maxRecDepth 50000 in
def V_X3_init_0 (d : Nat) (S : AS) (F : AF) (G : AG) (Q : AQ) (a0 : Nat) : Prop :=
  (1 ≤ d) ∧
  (1 ≤ a0) ∧
  Q none S F G
set_option maxRecDepth 50000 in
theorem R_X3_init_0 {d : Nat} {S : AS} {F : AF} {G : AG} {Q : AQ} {a0 : Nat} (h : V_X3_init_0 d S F G Q a0) : Go d MX3_init 0 [some (vR a0)] [] S F G Q := by
  unfold V_X3_init_0 at h
  refine go_aload_n (show decode cX3_init 0 = .ok (.aload_n 0, 1) by decide +kernel) (by rfl) ?_
  obtain ⟨q1, h⟩ := h
  obtain ⟨q2, h⟩ := h
  refine go_objInit (show decode cX3_init 1 = .ok (.invokespecial 1, 3) by decide +kernel) ml_X3_1 oi_1 oi_2 q2 (Nat.le_of_ble_eq_true rfl) q1 ?_
  exact go_vret (show decode cX3_init 4 = .ok (.return_, 1) by decide +kernel) rfl h
def V_X3_set_0 (d : Nat) (S : AS) (F : AF) (G : AG) (Q : AQ) (a0 : Nat) (a1 : Int) (a2 : Int) (a3 : Int) (a4 : Int) : Prop :=
  ∀ F1 : AF, F1 = fu F a0 0 a1 →
  ∀ F2 : AF, F2 = fu F1 a0 1 a2 →
  ∀ F3 : AF, F3 = fu F2 a0 2 a3 →
  ∀ F4 : AF, F4 = fu F3 a0 3 a4 →
  Q none S F4 G
theorem R_X3_set_0 {d : Nat} {S : AS} {F : AF} {G : AG} {Q : AQ} {a0 : Nat} {a1 : Int} {a2 : Int} {a3 : Int} {a4 : Int} (hk0 : AtRect S a0) (h : V_X3_set_0 d S F G Q a0 a1 a2 a3 a4) : Go d MX3_set 0 [some (vR a0), some (vI a1), some (vI a2), some (vI a3), some (vI a4)] [] S F G Q := by
  unfold V_X3_set_0 at h
  refine go_aload_n (show decode cX3_set 0 = .ok (.aload_n 0, 1) by decide +kernel) (by rfl) ?_
  refine go_iload_n (show decode cX3_set 1 = .ok (.iload_n 1, 1) by decide +kernel) (by rfl) ?_
  refine go_putI (show decode cX3_set 2 = .ok (.putfield 7, 3) by decide +kernel) fl_X3_7 rfl (Or.inl rfl) hk0 ?_
  obtain ⟨F1, F1e⟩ : ∃ F1 : AF, F1 = fu F a0 0 a1 := ⟨_, rfl⟩
  have h := h F1 F1e
  rw [← F1e]
  refine go_aload_n (show decode cX3_set 5 = .ok (.aload_n 0, 1) by decide +kernel) (by rfl) ?_
  refine go_iload_n (show decode cX3_set 6 = .ok (.iload_n 2, 1) by decide +kernel) (by rfl) ?_
  refine go_putI (show decode cX3_set 7 = .ok (.putfield 13, 3) by decide +kernel) fl_X3_13 rfl (Or.inl rfl) hk0 ?_
  obtain ⟨F2, F2e⟩ : ∃ F2 : AF, F2 = fu F1 a0 1 a2 := ⟨_, rfl⟩
  have h := h F2 F2e
  rw [← F2e]
  refine go_aload_n (show decode cX3_set 10 = .ok (.aload_n 0, 1) by decide +kernel) (by rfl) ?_
  refine go_iload_n (show decode cX3_set 11 = .ok (.iload_n 3, 1) by decide +kernel) (by rfl) ?_
  refine go_putI (show decode cX3_set 12 = .ok (.putfield 16, 3) by decide +kernel) fl_X3_16 rfl (Or.inl rfl) hk0 ?_
  obtain ⟨F3, F3e⟩ : ∃ F3 : AF, F3 = fu F2 a0 2 a3 := ⟨_, rfl⟩
  have h := h F3 F3e
  rw [← F3e]
  refine go_aload_n (show decode cX3_set 15 = .ok (.aload_n 0, 1) by decide +kernel) (by rfl) ?_
  refine go_iload (show decode cX3_set 16 = .ok (.iload 4, 2) by decide +kernel) (by rfl) ?_
  refine go_putI (show decode cX3_set 18 = .ok (.putfield 19, 3) by decide +kernel) fl_X3_19 rfl (Or.inl rfl) hk0 ?_
  obtain ⟨F4, F4e⟩ : ∃ F4 : AF, F4 = fu F3 a0 3 a4 := ⟨_, rfl⟩
  have h := h F4 F4e
  rw [← F4e]
  exact go_vret (show decode cX3_set 21 = .ok (.return_, 1) by decide +kernel) rfl h
def V_X3_cells_0 (d : Nat) (S : AS) (F : AF) (G : AG) (Q : AQ) (a0 : Nat) : Prop :=
  (1 ≤ d) ∧
  ∃ z6 : Int, Pu (d - 1) MX3_width [vR a0] S F G (some (vI z6)) ∧
  ∃ z12 : Int, Pu (d - 1) MX3_height [vR a0] S F G (some (vI z12)) ∧
  (r64 (z6 * z12)) ∧
  Q (some (vJ (z6 * z12))) S F G
theorem R_X3_cells_0 {d : Nat} {S : AS} {F : AF} {G : AG} {Q : AQ} {a0 : Nat} (hk0 : AtRect S a0) (h : V_X3_cells_0 d S F G Q a0) : Go d MX3_cells 0 [some (vR a0)] [] S F G Q := by
  unfold V_X3_cells_0 at h
  refine go_aload_n (show decode cX3_cells 0 = .ok (.aload_n 0, 1) by decide +kernel) (by rfl) ?_
  obtain ⟨q1, h⟩ := h
  obtain ⟨z6, p7, h⟩ := h
  refine go_callV (d2 := d - 1) (M2 := MX3_width) (n := 0) (ci := 3) (av := []) (st := []) (show decode cX3_cells 1 = .ok (.invokevirtual 22, 3) by decide +kernel) ml_X3_22 mt_X3_width min_X3_width mse_X3_width (by decide) hk0 rfl (Nat.le_of_ble_eq_true rfl) (by omega) (ok_mono p7 (fun w2 S3 F4 G5 e9 => ?_))
  obtain ⟨e1, e2, e3, e4⟩ := e9
  subst e1
  replace e2 := e2.symm; subst e2
  replace e3 := e3.symm; subst e3
  replace e4 := e4.symm; subst e4
  show Go d MX3_cells 4 [some (vR a0)] [vI z6] S F G Q
  refine go_i2l (show decode cX3_cells 4 = .ok (.i2l, 1) by decide +kernel) ?_
  refine go_aload_n (show decode cX3_cells 5 = .ok (.aload_n 0, 1) by decide +kernel) (by rfl) ?_
  obtain ⟨z12, p13, h⟩ := h
  refine go_callV (d2 := d - 1) (M2 := MX3_height) (n := 0) (ci := 3) (av := []) (st := [vJ z6]) (show decode cX3_cells 6 = .ok (.invokevirtual 26, 3) by decide +kernel) ml_X3_26 mt_X3_height min_X3_height mse_X3_height (by decide) hk0 rfl (Nat.le_of_ble_eq_true rfl) (by omega) (ok_mono p13 (fun w8 S9 F10 G11 e9 => ?_))
  obtain ⟨e1, e2, e3, e4⟩ := e9
  subst e1
  replace e2 := e2.symm; subst e2
  replace e3 := e3.symm; subst e3
  replace e4 := e4.symm; subst e4
  show Go d MX3_cells 9 [some (vR a0)] [vI z12, vJ z6] S F G Q
  refine go_i2l (show decode cX3_cells 9 = .ok (.i2l, 1) by decide +kernel) ?_
  obtain ⟨q14, h⟩ := h
  refine go_lmul (show decode cX3_cells 10 = .ok (.lmul, 1) by decide +kernel) q14 ?_
  exact go_lret (show decode cX3_cells 11 = .ok (.lreturn, 1) by decide +kernel) rfl h
def V_X3_width_0 (d : Nat) (S : AS) (F : AF) (G : AG) (Q : AQ) (a0 : Nat) : Prop :=
  (r32 ((F a0 2) - (F a0 0))) ∧
  (r32 (((F a0 2) - (F a0 0)) + 1)) ∧
  Q (some (vI (((F a0 2) - (F a0 0)) + 1))) S F G
theorem R_X3_width_0 {d : Nat} {S : AS} {F : AF} {G : AG} {Q : AQ} {a0 : Nat} (hk0 : AtRect S a0) (h : V_X3_width_0 d S F G Q a0) : Go d MX3_width 0 [some (vR a0)] [] S F G Q := by
  unfold V_X3_width_0 at h
  refine go_aload_n (show decode cX3_width 0 = .ok (.aload_n 0, 1) by decide +kernel) (by rfl) ?_
  refine go_getI (show decode cX3_width 1 = .ok (.getfield 16, 3) by decide +kernel) fl_X3_16 (Or.inl rfl) hk0 ?_
  refine go_aload_n (show decode cX3_width 4 = .ok (.aload_n 0, 1) by decide +kernel) (by rfl) ?_
  refine go_getI (show decode cX3_width 5 = .ok (.getfield 7, 3) by decide +kernel) fl_X3_7 (Or.inl rfl) hk0 ?_
  obtain ⟨q1, h⟩ := h
  refine go_isub (show decode cX3_width 8 = .ok (.isub, 1) by decide +kernel) q1 ?_
  refine go_iconst (show decode cX3_width 9 = .ok (.iconst 1, 1) by decide +kernel) (by decide) ?_
  obtain ⟨q2, h⟩ := h
  refine go_iadd (show decode cX3_width 10 = .ok (.iadd, 1) by decide +kernel) q2 ?_
  exact go_iret (show decode cX3_width 11 = .ok (.ireturn, 1) by decide +kernel) rfl h
def V_X3_height_0 (d : Nat) (S : AS) (F : AF) (G : AG) (Q : AQ) (a0 : Nat) : Prop :=
  (r32 ((F a0 3) - (F a0 1))) ∧
  (r32 (((F a0 3) - (F a0 1)) + 1)) ∧
  Q (some (vI (((F a0 3) - (F a0 1)) + 1))) S F G
theorem R_X3_height_0 {d : Nat} {S : AS} {F : AF} {G : AG} {Q : AQ} {a0 : Nat} (hk0 : AtRect S a0) (h : V_X3_height_0 d S F G Q a0) : Go d MX3_height 0 [some (vR a0)] [] S F G Q := by
  unfold V_X3_height_0 at h
  refine go_aload_n (show decode cX3_height 0 = .ok (.aload_n 0, 1) by decide +kernel) (by rfl) ?_
  refine go_getI (show decode cX3_height 1 = .ok (.getfield 19, 3) by decide +kernel) fl_X3_19 (Or.inl rfl) hk0 ?_
  refine go_aload_n (show decode cX3_height 4 = .ok (.aload_n 0, 1) by decide +kernel) (by rfl) ?_
  refine go_getI (show decode cX3_height 5 = .ok (.getfield 13, 3) by decide +kernel) fl_X3_13 (Or.inl rfl) hk0 ?_
  obtain ⟨q1, h⟩ := h
  refine go_isub (show decode cX3_height 8 = .ok (.isub, 1) by decide +kernel) q1 ?_
  refine go_iconst (show decode cX3_height 9 = .ok (.iconst 1, 1) by decide +kernel) (by decide) ?_
  obtain ⟨q2, h⟩ := h
  refine go_iadd (show decode cX3_height 10 = .ok (.iadd, 1) by decide +kernel) q2 ?_
  exact go_iret (show decode cX3_height 11 = .ok (.ireturn, 1) by decide +kernel) rfl h
def V_X3_side_0 (d : Nat) (S : AS) (F : AF) (G : AG) (Q : AQ) (a0 : Nat) (a1 : Int) : Prop :=
  ((a1 = 0) →
    Q (some (vI (F a0 0))) S F G) ∧
  ((a1 = 1) →
    Q (some (vI (F a0 1))) S F G) ∧
  ((a1 = 2) →
    Q (some (vI (F a0 2))) S F G) ∧
  ((a1 < 0 ∨ 2 < a1) →
    Q (some (vI (F a0 3))) S F G)
theorem R_X3_side_0 {d : Nat} {S : AS} {F : AF} {G : AG} {Q : AQ} {a0 : Nat} {a1 : Int} (hk0 : AtRect S a0) (h : V_X3_side_0 d S F G Q a0 a1) : Go d MX3_side 0 [some (vR a0), some (vI a1)] [] S F G Q := by
  unfold V_X3_side_0 at h
  refine go_iload_n (show decode cX3_side 0 = .ok (.iload_n 1, 1) by decide +kernel) (by rfl) ?_
  obtain ⟨h_0, h_1, h_2, h_d⟩ := h
  by_cases hd9 : a1 < 0 ∨ 2 < a1
  · have h := h_d hd9
    refine go_swOut (tgt := 43) (show decode cX3_side 1 = .ok (.tableswitch 42 0 2 #[27, 32, 37], 27) by decide +kernel) hd9 (by decide) ?_
    refine go_aload_n (show decode cX3_side 43 = .ok (.aload_n 0, 1) by decide +kernel) (by rfl) ?_
    refine go_getI (show decode cX3_side 44 = .ok (.getfield 19, 3) by decide +kernel) fl_X3_19 (Or.inl rfl) hk0 ?_
    exact go_iret (show decode cX3_side 47 = .ok (.ireturn, 1) by decide +kernel) rfl h
  by_cases hc0 : a1 = 0
  · have h := h_0 hc0
    refine go_swIn (tgt := 28) (show decode cX3_side 1 = .ok (.tableswitch 42 0 2 #[27, 32, 37], 27) by decide +kernel) (by omega) (by omega) (by rw [hc0]; rfl) (by decide) ?_
    refine go_aload_n (show decode cX3_side 28 = .ok (.aload_n 0, 1) by decide +kernel) (by rfl) ?_
    refine go_getI (show decode cX3_side 29 = .ok (.getfield 7, 3) by decide +kernel) fl_X3_7 (Or.inl rfl) hk0 ?_
    exact go_iret (show decode cX3_side 32 = .ok (.ireturn, 1) by decide +kernel) rfl h
  by_cases hc1 : a1 = 1
  · have h := h_1 hc1
    refine go_swIn (tgt := 33) (show decode cX3_side 1 = .ok (.tableswitch 42 0 2 #[27, 32, 37], 27) by decide +kernel) (by omega) (by omega) (by rw [hc1]; rfl) (by decide) ?_
    refine go_aload_n (show decode cX3_side 33 = .ok (.aload_n 0, 1) by decide +kernel) (by rfl) ?_
    refine go_getI (show decode cX3_side 34 = .ok (.getfield 13, 3) by decide +kernel) fl_X3_13 (Or.inl rfl) hk0 ?_
    exact go_iret (show decode cX3_side 37 = .ok (.ireturn, 1) by decide +kernel) rfl h
  by_cases hc2 : a1 = 2
  · have h := h_2 hc2
    refine go_swIn (tgt := 38) (show decode cX3_side 1 = .ok (.tableswitch 42 0 2 #[27, 32, 37], 27) by decide +kernel) (by omega) (by omega) (by rw [hc2]; rfl) (by decide) ?_
    refine go_aload_n (show decode cX3_side 38 = .ok (.aload_n 0, 1) by decide +kernel) (by rfl) ?_
    refine go_getI (show decode cX3_side 39 = .ok (.getfield 16, 3) by decide +kernel) fl_X3_16 (Or.inl rfl) hk0 ?_
    exact go_iret (show decode cX3_side 42 = .ok (.ireturn, 1) by decide +kernel) rfl h
  exact absurd hd9 (by omega)
set_option maxRecDepth 50000 in
def V_X8_init_0 (d : Nat) (S : AS) (F : AF) (G : AG) (Q : AQ) (a0 : Nat) : Prop :=
  (1 ≤ d) ∧
  (1 ≤ a0) ∧
  (sn S < 999998) ∧
  ∀ x4 : Nat, x4 = sn S + 1 →
  ∀ S5 : AS, S5 = na S 3 0 4 →
  ∀ F6 : AF, F6 = nF S F →
  ∀ G7 : AG, G7 = nG S G →
  (1 ≤ d) ∧
  (1 ≤ x4) ∧
  Ok (d - 1) MX3_init [vR x4] S5 F6 G7 (fun w9 S10 F11 G12 =>
  w9 = none ∧
  (sK S10 a0 = 8) ∧
  (x4 ≤ sn S10) ∧
  ∀ S16 : AS, S16 = ru S10 a0 0 x4 →
  Q none S16 F11 G12)
set_option maxRecDepth 50000 in
theorem R_X8_init_0 {d : Nat} {S : AS} {F : AF} {G : AG} {Q : AQ} {a0 : Nat} (h : V_X8_init_0 d S F G Q a0) : Go d MX8_init 0 [some (vR a0)] [] S F G Q := by
  unfold V_X8_init_0 at h
  refine go_aload_n (show decode cX8_init 0 = .ok (.aload_n 0, 1) by decide +kernel) (by rfl) ?_
  obtain ⟨q1, h⟩ := h
  obtain ⟨q2, h⟩ := h
  refine go_objInit (show decode cX8_init 1 = .ok (.invokespecial 1, 3) by decide +kernel) ml_X8_1 oi_1 oi_2 q2 (Nat.le_of_ble_eq_true rfl) q1 ?_
  refine go_aload_n (show decode cX8_init 4 = .ok (.aload_n 0, 1) by decide +kernel) (by rfl) ?_
  obtain ⟨q3, h⟩ := h
  refine go_new (show decode cX8_init 5 = .ok (.new 7, 3) by decide +kernel) (by decide) cl_X8_7 ci_3 cz_3 q3 ?_
  show Go d MX8_init 8 [some (vR a0)] [vR (sn S + 1), vR a0] (na S 3 0 4) (nF S F) (nG S G) Q
  obtain ⟨x4, x4e⟩ : ∃ x4 : Nat, x4 = sn S + 1 := ⟨_, rfl⟩
  have h := h x4 x4e
  rw [← x4e]
  obtain ⟨S5, S5e⟩ : ∃ S5 : AS, S5 = na S 3 0 4 := ⟨_, rfl⟩
  have h := h S5 S5e
  rw [← S5e]
  obtain ⟨F6, F6e⟩ : ∃ F6 : AF, F6 = nF S F := ⟨_, rfl⟩
  have h := h F6 F6e
  rw [← F6e]
  obtain ⟨G7, G7e⟩ : ∃ G7 : AG, G7 = nG S G := ⟨_, rfl⟩
  have h := h G7 G7e
  rw [← G7e]
  refine go_dup (show decode cX8_init 8 = .ok (.dup, 1) by decide +kernel) ?_
  obtain ⟨q8, h⟩ := h
  obtain ⟨q13, h⟩ := h
  refine go_callIN (d2 := d - 1) (M2 := MX3_init) (n := 0) (av := []) (st := [vR x4, vR a0]) (show decode cX8_init 9 = .ok (.invokespecial 9, 3) by decide +kernel) ml_X8_9 mt_X3_init rfl rfl min_X3_init q13 rfl (Nat.le_of_ble_eq_true rfl) (by omega) (ok_mono h (fun w9 S10 F11 G12 h => ?_))
  obtain ⟨e9, h⟩ := h
  subst e9
  show Go d MX8_init 12 [some (vR a0)] [vR x4, vR a0] S10 F11 G12 Q
  obtain ⟨q14, h⟩ := h
  obtain ⟨q15, h⟩ := h
  refine go_putR (show decode cX8_init 12 = .ok (.putfield 10, 3) by decide +kernel) fl_X8_10 rfl (Or.inr ⟨rfl, rfl⟩) q14 q15 ?_
  obtain ⟨S16, S16e⟩ : ∃ S16 : AS, S16 = ru S10 a0 0 x4 := ⟨_, rfl⟩
  have h := h S16 S16e
  rw [← S16e]
  exact go_vret (show decode cX8_init 15 = .ok (.return_, 1) by decide +kernel) rfl h
set_option maxRecDepth 50000 in
def V_X4_init_0 (d : Nat) (S : AS) (F : AF) (G : AG) (Q : AQ) (a0 : Nat) : Prop :=
  (1 ≤ d) ∧
  (1 ≤ a0) ∧
  (sn S < 999998) ∧
  ∀ x4 : Nat, x4 = sn S + 1 →
  ∀ S5 : AS, S5 = na S 21 6912 6912 →
  ∀ F6 : AF, F6 = nF S F →
  ∀ G7 : AG, G7 = nG S G →
  (sK S5 a0 = 4) ∧
  (x4 ≤ sn S5) ∧
  ∀ S10 : AS, S10 = ru S5 a0 0 x4 →
  Q none S10 F6 G7
set_option maxRecDepth 50000 in
theorem R_X4_init_0 {d : Nat} {S : AS} {F : AF} {G : AG} {Q : AQ} {a0 : Nat} (h : V_X4_init_0 d S F G Q a0) : Go d MX4_init 0 [some (vR a0)] [] S F G Q := by
  unfold V_X4_init_0 at h
  refine go_aload_n (show decode cX4_init 0 = .ok (.aload_n 0, 1) by decide +kernel) (by rfl) ?_
  obtain ⟨q1, h⟩ := h
  obtain ⟨q2, h⟩ := h
  refine go_objInit (show decode cX4_init 1 = .ok (.invokespecial 3, 3) by decide +kernel) ml_X4_3 oi_1 oi_2 q2 (Nat.le_of_ble_eq_true rfl) q1 ?_
  refine go_aload_n (show decode cX4_init 4 = .ok (.aload_n 0, 1) by decide +kernel) (by rfl) ?_
  refine go_sipush (show decode cX4_init 5 = .ok (.sipush 6912, 3) by decide +kernel) (by decide) ?_
  obtain ⟨q3, h⟩ := h
  refine go_newa (K := 21) (show decode cX4_init 8 = .ok (.newarray .long, 2) by decide +kernel) rfl (by decide) ar_21 (by decide) (by decide) q3 ?_
  show Go d MX4_init 10 [some (vR a0)] [vR (sn S + 1), vR a0] (na S 21 6912 6912) (nF S F) (nG S G) Q
  obtain ⟨x4, x4e⟩ : ∃ x4 : Nat, x4 = sn S + 1 := ⟨_, rfl⟩
  have h := h x4 x4e
  rw [← x4e]
  obtain ⟨S5, S5e⟩ : ∃ S5 : AS, S5 = na S 21 6912 6912 := ⟨_, rfl⟩
  have h := h S5 S5e
  rw [← S5e]
  obtain ⟨F6, F6e⟩ : ∃ F6 : AF, F6 = nF S F := ⟨_, rfl⟩
  have h := h F6 F6e
  rw [← F6e]
  obtain ⟨G7, G7e⟩ : ∃ G7 : AG, G7 = nG S G := ⟨_, rfl⟩
  have h := h G7 G7e
  rw [← G7e]
  obtain ⟨q8, h⟩ := h
  obtain ⟨q9, h⟩ := h
  refine go_putR (show decode cX4_init 10 = .ok (.putfield 9, 3) by decide +kernel) fl_X4_9 rfl (Or.inr ⟨rfl, rfl⟩) q8 q9 ?_
  obtain ⟨S10, S10e⟩ : ∃ S10 : AS, S10 = ru S5 a0 0 x4 := ⟨_, rfl⟩
  have h := h S10 S10e
  rw [← S10e]
  exact go_vret (show decode cX4_init 13 = .ok (.return_, 1) by decide +kernel) rfl h
set_option maxRecDepth 50000 in
def V_X6_init_0 (d : Nat) (S : AS) (F : AF) (G : AG) (Q : AQ) (a0 : Nat) : Prop :=
  (1 ≤ d) ∧
  (1 ≤ a0) ∧
  (sn S < 999998) ∧
  ∀ x4 : Nat, x4 = sn S + 1 →
  ∀ S5 : AS, S5 = na S 21 280 280 →
  ∀ F6 : AF, F6 = nF S F →
  ∀ G7 : AG, G7 = nG S G →
  (sK S5 a0 = 6) ∧
  (x4 ≤ sn S5) ∧
  ∀ S10 : AS, S10 = ru S5 a0 0 x4 →
  Q none S10 F6 G7
set_option maxRecDepth 50000 in
theorem R_X6_init_0 {d : Nat} {S : AS} {F : AF} {G : AG} {Q : AQ} {a0 : Nat} (h : V_X6_init_0 d S F G Q a0) : Go d MX6_init 0 [some (vR a0)] [] S F G Q := by
  unfold V_X6_init_0 at h
  refine go_aload_n (show decode cX6_init 0 = .ok (.aload_n 0, 1) by decide +kernel) (by rfl) ?_
  obtain ⟨q1, h⟩ := h
  obtain ⟨q2, h⟩ := h
  refine go_objInit (show decode cX6_init 1 = .ok (.invokespecial 3, 3) by decide +kernel) ml_X6_3 oi_1 oi_2 q2 (Nat.le_of_ble_eq_true rfl) q1 ?_
  refine go_aload_n (show decode cX6_init 4 = .ok (.aload_n 0, 1) by decide +kernel) (by rfl) ?_
  refine go_sipush (show decode cX6_init 5 = .ok (.sipush 280, 3) by decide +kernel) (by decide) ?_
  obtain ⟨q3, h⟩ := h
  refine go_newa (K := 21) (show decode cX6_init 8 = .ok (.newarray .long, 2) by decide +kernel) rfl (by decide) ar_21 (by decide) (by decide) q3 ?_
  show Go d MX6_init 10 [some (vR a0)] [vR (sn S + 1), vR a0] (na S 21 280 280) (nF S F) (nG S G) Q
  obtain ⟨x4, x4e⟩ : ∃ x4 : Nat, x4 = sn S + 1 := ⟨_, rfl⟩
  have h := h x4 x4e
  rw [← x4e]
  obtain ⟨S5, S5e⟩ : ∃ S5 : AS, S5 = na S 21 280 280 := ⟨_, rfl⟩
  have h := h S5 S5e
  rw [← S5e]
  obtain ⟨F6, F6e⟩ : ∃ F6 : AF, F6 = nF S F := ⟨_, rfl⟩
  have h := h F6 F6e
  rw [← F6e]
  obtain ⟨G7, G7e⟩ : ∃ G7 : AG, G7 = nG S G := ⟨_, rfl⟩
  have h := h G7 G7e
  rw [← G7e]
  obtain ⟨q8, h⟩ := h
  obtain ⟨q9, h⟩ := h
  refine go_putR (show decode cX6_init 10 = .ok (.putfield 11, 3) by decide +kernel) fl_X6_11 rfl (Or.inr ⟨rfl, rfl⟩) q8 q9 ?_
  obtain ⟨S10, S10e⟩ : ∃ S10 : AS, S10 = ru S5 a0 0 x4 := ⟨_, rfl⟩
  have h := h S10 S10e
  rw [← S10e]
  exact go_vret (show decode cX6_init 13 = .ok (.return_, 1) by decide +kernel) rfl h
def V_X6_clear_0 (d : Nat) (S : AS) (F : AF) (G : AG) (Q : AQ)  : Prop :=
  ∀ F1 : AF, F1 = fu F 44 1 0 →
  ∀ F2 : AF, F2 = fu F1 44 2 0 →
  Q none S F2 G
theorem R_X6_clear_0 {d : Nat} {S : AS} {F : AF} {G : AG} {Q : AQ}  (hsh : ShC S) (h : V_X6_clear_0 d S F G Q ) : Go d MX6_clear 0 [some (vR 44)] [] S F G Q := by
  unfold V_X6_clear_0 at h
  refine go_aload_n (show decode cX6_clear 0 = .ok (.aload_n 0, 1) by decide +kernel) (by rfl) ?_
  refine go_iconst (show decode cX6_clear 1 = .ok (.iconst 0, 1) by decide +kernel) (by decide) ?_
  refine go_putI (show decode cX6_clear 2 = .ok (.putfield 15, 3) by decide +kernel) fl_X6_15 rfl (Or.inl rfl) (shc_k hsh 44 (by decide) (by decide)) ?_
  obtain ⟨F1, F1e⟩ : ∃ F1 : AF, F1 = fu F 44 1 0 := ⟨_, rfl⟩
  have h := h F1 F1e
  rw [← F1e]
  refine go_aload_n (show decode cX6_clear 5 = .ok (.aload_n 0, 1) by decide +kernel) (by rfl) ?_
  refine go_iconst (show decode cX6_clear 6 = .ok (.iconst 0, 1) by decide +kernel) (by decide) ?_
  refine go_putI (show decode cX6_clear 7 = .ok (.putfield 19, 3) by decide +kernel) fl_X6_19 rfl (Or.inl rfl) (shc_k hsh 44 (by decide) (by decide)) ?_
  obtain ⟨F2, F2e⟩ : ∃ F2 : AF, F2 = fu F1 44 2 0 := ⟨_, rfl⟩
  have h := h F2 F2e
  rw [← F2e]
  exact go_vret (show decode cX6_clear 10 = .ok (.return_, 1) by decide +kernel) rfl h
def V_X6_put_65 (d : Nat) (S : AS) (F : AF) (G : AG) (Q : AQ) (a1 : Int) (a2 : Int) (a3 : Nat) (a4 : Int) (a6 : Int) (a7 : Int) : Prop :=
  ((4 ≤ a7) →
    (r32 (a6 + 6)) ∧
    ((0 : Int) ≤ a6 + 6) ∧
    ((a6 + 6 : Int) < 280) ∧
    ∀ G4 : AG, G4 = gu G 45 (a6 + 6) a4 →
    (r32 ((F 44 2) + 1)) ∧
    ∀ F6 : AF, F6 = fu F 44 2 ((F 44 2) + 1) →
    Q none S F6 G4) ∧
  ((¬ 4 ≤ a7) →
    (r32 (a6 + 2)) ∧
    (r32 ((a6 + 2) + a7)) ∧
    (1 ≤ d) ∧
    ∃ z14 : Int, Pu (d - 1) MX3_side [vR a3, vI a7] S F G (some (vI z14)) ∧
    ((0 : Int) ≤ (a6 + 2) + a7) ∧
    (((a6 + 2) + a7 : Int) < 280) ∧
    ∀ G18 : AG, G18 = gu G 45 ((a6 + 2) + a7) z14 →
    (r32 (a7 + 1)) ∧
    Go d MX6_put 65 [some (vR 44), some (vI a1), some (vI a2), some (vR a3), some (vJ a4), none, some (vI a6), some (vI (a7 + 1))] [] S F G18 Q)
theorem R_X6_put_65 {d : Nat} {S : AS} {F : AF} {G : AG} {Q : AQ} {a1 : Int} {a2 : Int} {a3 : Nat} {a4 : Int} {a6 : Int} {a7 : Int} (hsh : ShC S) (hk3 : AtRect S a3) (h : V_X6_put_65 d S F G Q a1 a2 a3 a4 a6 a7) : Go d MX6_put 65 [some (vR 44), some (vI a1), some (vI a2), some (vR a3), some (vJ a4), none, some (vI a6), some (vI a7)] [] S F G Q := by
  unfold V_X6_put_65 at h
  refine go_iload (show decode cX6_put 65 = .ok (.iload 7, 2) by decide +kernel) (by rfl) ?_
  refine go_iconst (show decode cX6_put 67 = .ok (.iconst 4, 1) by decide +kernel) (by decide) ?_
  obtain ⟨ht, hf⟩ := h
  refine go_icmpge (tgt := 96) (show decode cX6_put 68 = .ok (.if_icmp .ge 28, 3) by decide +kernel) (by decide) (fun hc => ?_) (fun hc => ?_)
  · have h := ht hc
    refine go_aload_n (show decode cX6_put 96 = .ok (.aload_n 0, 1) by decide +kernel) (by rfl) ?_
    refine go_getRc (show decode cX6_put 97 = .ok (.getfield 11, 3) by decide +kernel) fl_X6_11 rfl (shc_k hsh 44 (by decide) (by decide)) (v := 45) (shc_r hsh 44 0 (by decide) (by decide) (by decide)) ?_
    refine go_iload (show decode cX6_put 100 = .ok (.iload 6, 2) by decide +kernel) (by rfl) ?_
    refine go_bipush (show decode cX6_put 102 = .ok (.bipush 6, 2) by decide +kernel) (by decide) ?_
    obtain ⟨q1, h⟩ := h
    refine go_iadd (show decode cX6_put 104 = .ok (.iadd, 1) by decide +kernel) q1 ?_
    refine go_lload (show decode cX6_put 105 = .ok (.lload 4, 2) by decide +kernel) (by rfl) ?_
    obtain ⟨q2, h⟩ := h
    obtain ⟨q3, h⟩ := h
    refine go_lastore (show decode cX6_put 107 = .ok (.lastore, 1) by decide +kernel) (shc_k hsh 45 (by decide) (by decide)) q2 (lt_n (m := 280) q3 (shc_n hsh 45 (by decide) (by decide)))  ?_
    obtain ⟨G4, G4e⟩ : ∃ G4 : AG, G4 = gu G 45 (a6 + 6) a4 := ⟨_, rfl⟩
    have h := h G4 G4e
    rw [← G4e]
    refine go_aload_n (show decode cX6_put 108 = .ok (.aload_n 0, 1) by decide +kernel) (by rfl) ?_
    refine go_dup (show decode cX6_put 109 = .ok (.dup, 1) by decide +kernel) ?_
    refine go_getI (show decode cX6_put 110 = .ok (.getfield 19, 3) by decide +kernel) fl_X6_19 (Or.inl rfl) (shc_k hsh 44 (by decide) (by decide)) ?_
    refine go_iconst (show decode cX6_put 113 = .ok (.iconst 1, 1) by decide +kernel) (by decide) ?_
    obtain ⟨q5, h⟩ := h
    refine go_iadd (show decode cX6_put 114 = .ok (.iadd, 1) by decide +kernel) q5 ?_
    refine go_putI (show decode cX6_put 115 = .ok (.putfield 19, 3) by decide +kernel) fl_X6_19 rfl (Or.inl rfl) (shc_k hsh 44 (by decide) (by decide)) ?_
    obtain ⟨F6, F6e⟩ : ∃ F6 : AF, F6 = fu F 44 2 ((F 44 2) + 1) := ⟨_, rfl⟩
    have h := h F6 F6e
    rw [← F6e]
    exact go_vret (show decode cX6_put 118 = .ok (.return_, 1) by decide +kernel) rfl h
  · have h := hf hc
    refine go_aload_n (show decode cX6_put 71 = .ok (.aload_n 0, 1) by decide +kernel) (by rfl) ?_
    refine go_getRc (show decode cX6_put 72 = .ok (.getfield 11, 3) by decide +kernel) fl_X6_11 rfl (shc_k hsh 44 (by decide) (by decide)) (v := 45) (shc_r hsh 44 0 (by decide) (by decide) (by decide)) ?_
    refine go_iload (show decode cX6_put 75 = .ok (.iload 6, 2) by decide +kernel) (by rfl) ?_
    refine go_iconst (show decode cX6_put 77 = .ok (.iconst 2, 1) by decide +kernel) (by decide) ?_
    obtain ⟨q7, h⟩ := h
    refine go_iadd (show decode cX6_put 78 = .ok (.iadd, 1) by decide +kernel) q7 ?_
    refine go_iload (show decode cX6_put 79 = .ok (.iload 7, 2) by decide +kernel) (by rfl) ?_
    obtain ⟨q8, h⟩ := h
    refine go_iadd (show decode cX6_put 81 = .ok (.iadd, 1) by decide +kernel) q8 ?_
    refine go_aload_n (show decode cX6_put 82 = .ok (.aload_n 3, 1) by decide +kernel) (by rfl) ?_
    refine go_iload (show decode cX6_put 83 = .ok (.iload 7, 2) by decide +kernel) (by rfl) ?_
    obtain ⟨q9, h⟩ := h
    obtain ⟨z14, p15, h⟩ := h
    refine go_callV (d2 := d - 1) (M2 := MX3_side) (n := 1) (ci := 3) (av := [vI a7]) (st := [vI ((a6 + 2) + a7), vR 45]) (show decode cX6_put 85 = .ok (.invokevirtual 26, 3) by decide +kernel) ml_X6_26 mt_X3_side min_X3_side mse_X3_side (by decide) hk3 rfl (Nat.le_of_ble_eq_true rfl) (by omega) (ok_mono p15 (fun w10 S11 F12 G13 e9 => ?_))
    obtain ⟨e1, e2, e3, e4⟩ := e9
    subst e1
    replace e2 := e2.symm; subst e2
    replace e3 := e3.symm; subst e3
    replace e4 := e4.symm; subst e4
    show Go d MX6_put 88 [some (vR 44), some (vI a1), some (vI a2), some (vR a3), some (vJ a4), none, some (vI a6), some (vI a7)] [vI z14, vI ((a6 + 2) + a7), vR 45] S F G Q
    refine go_i2l (show decode cX6_put 88 = .ok (.i2l, 1) by decide +kernel) ?_
    obtain ⟨q16, h⟩ := h
    obtain ⟨q17, h⟩ := h
    refine go_lastore (show decode cX6_put 89 = .ok (.lastore, 1) by decide +kernel) (shc_k hsh 45 (by decide) (by decide)) q16 (lt_n (m := 280) q17 (shc_n hsh 45 (by decide) (by decide)))  ?_
    obtain ⟨G18, G18e⟩ : ∃ G18 : AG, G18 = gu G 45 ((a6 + 2) + a7) z14 := ⟨_, rfl⟩
    have h := h G18 G18e
    rw [← G18e]
    obtain ⟨q19, h⟩ := h
    refine go_iinc (show decode cX6_put 90 = .ok (.iinc 7 1, 3) by decide +kernel) (by rfl) q19 (by decide) ?_
    show Go d MX6_put 93 [some (vR 44), some (vI a1), some (vI a2), some (vR a3), some (vJ a4), none, some (vI a6), some (vI (a7 + 1))] [] S F G18 Q
    refine go_goto (tgt := 65) (show decode cX6_put 93 = .ok (.goto (-28), 3) by decide +kernel) (by decide) ?_
    exact h
def V_X6_put_32 (d : Nat) (S : AS) (F : AF) (G : AG) (Q : AQ) (a1 : Int) (a2 : Int) (a3 : Nat) (a4 : Int) : Prop :=
  (1 ≤ d) ∧
  ∃ z6 : Int, Pu (d - 1) MX6_rowOf [vR 44, vI (F 44 2)] S F G (some (vI z6)) ∧
  ((0 : Int) ≤ z6) ∧
  ((z6 : Int) < 280) ∧
  ∀ G10 : AG, G10 = gu G 45 z6 a1 →
  (r32 (z6 + 1)) ∧
  ((0 : Int) ≤ z6 + 1) ∧
  ((z6 + 1 : Int) < 280) ∧
  ∀ G14 : AG, G14 = gu G10 45 (z6 + 1) a2 →
  Go d MX6_put 65 [some (vR 44), some (vI a1), some (vI a2), some (vR a3), some (vJ a4), none, some (vI z6), some (vI 0)] [] S F G14 Q
theorem R_X6_put_32 {d : Nat} {S : AS} {F : AF} {G : AG} {Q : AQ} {a1 : Int} {a2 : Int} {a3 : Nat} {a4 : Int} (hsh : ShC S) (hk3 : AtRect S a3) (h : V_X6_put_32 d S F G Q a1 a2 a3 a4) : Go d MX6_put 32 [some (vR 44), some (vI a1), some (vI a2), some (vR a3), some (vJ a4), none, none, none] [] S F G Q := by
  unfold V_X6_put_32 at h
  refine go_aload_n (show decode cX6_put 32 = .ok (.aload_n 0, 1) by decide +kernel) (by rfl) ?_
  refine go_aload_n (show decode cX6_put 33 = .ok (.aload_n 0, 1) by decide +kernel) (by rfl) ?_
  refine go_getI (show decode cX6_put 34 = .ok (.getfield 19, 3) by decide +kernel) fl_X6_19 (Or.inl rfl) (shc_k hsh 44 (by decide) (by decide)) ?_
  obtain ⟨q1, h⟩ := h
  obtain ⟨z6, p7, h⟩ := h
  refine go_callV (d2 := d - 1) (M2 := MX6_rowOf) (n := 1) (ci := 6) (av := [vI (F 44 2)]) (st := []) (show decode cX6_put 37 = .ok (.invokevirtual 22, 3) by decide +kernel) ml_X6_22 mt_X6_rowOf min_X6_rowOf mse_X6_rowOf (by decide) (shc_k hsh 44 (by decide) (by decide)) rfl (Nat.le_of_ble_eq_true rfl) (by omega) (ok_mono p7 (fun w2 S3 F4 G5 e9 => ?_))
  obtain ⟨e1, e2, e3, e4⟩ := e9
  subst e1
  replace e2 := e2.symm; subst e2
  replace e3 := e3.symm; subst e3
  replace e4 := e4.symm; subst e4
  show Go d MX6_put 40 [some (vR 44), some (vI a1), some (vI a2), some (vR a3), some (vJ a4), none, none, none] [vI z6] S F G Q
  refine go_istore (show decode cX6_put 40 = .ok (.istore 6, 2) by decide +kernel) (by decide) ?_
  show Go d MX6_put 42 [some (vR 44), some (vI a1), some (vI a2), some (vR a3), some (vJ a4), none, some (vI z6), none] [] S F G Q
  refine go_aload_n (show decode cX6_put 42 = .ok (.aload_n 0, 1) by decide +kernel) (by rfl) ?_
  refine go_getRc (show decode cX6_put 43 = .ok (.getfield 11, 3) by decide +kernel) fl_X6_11 rfl (shc_k hsh 44 (by decide) (by decide)) (v := 45) (shc_r hsh 44 0 (by decide) (by decide) (by decide)) ?_
  refine go_iload (show decode cX6_put 46 = .ok (.iload 6, 2) by decide +kernel) (by rfl) ?_
  refine go_iload_n (show decode cX6_put 48 = .ok (.iload_n 1, 1) by decide +kernel) (by rfl) ?_
  refine go_i2l (show decode cX6_put 49 = .ok (.i2l, 1) by decide +kernel) ?_
  obtain ⟨q8, h⟩ := h
  obtain ⟨q9, h⟩ := h
  refine go_lastore (show decode cX6_put 50 = .ok (.lastore, 1) by decide +kernel) (shc_k hsh 45 (by decide) (by decide)) q8 (lt_n (m := 280) q9 (shc_n hsh 45 (by decide) (by decide)))  ?_
  obtain ⟨G10, G10e⟩ : ∃ G10 : AG, G10 = gu G 45 z6 a1 := ⟨_, rfl⟩
  have h := h G10 G10e
  rw [← G10e]
  refine go_aload_n (show decode cX6_put 51 = .ok (.aload_n 0, 1) by decide +kernel) (by rfl) ?_
  refine go_getRc (show decode cX6_put 52 = .ok (.getfield 11, 3) by decide +kernel) fl_X6_11 rfl (shc_k hsh 44 (by decide) (by decide)) (v := 45) (shc_r hsh 44 0 (by decide) (by decide) (by decide)) ?_
  refine go_iload (show decode cX6_put 55 = .ok (.iload 6, 2) by decide +kernel) (by rfl) ?_
  refine go_iconst (show decode cX6_put 57 = .ok (.iconst 1, 1) by decide +kernel) (by decide) ?_
  obtain ⟨q11, h⟩ := h
  refine go_iadd (show decode cX6_put 58 = .ok (.iadd, 1) by decide +kernel) q11 ?_
  refine go_iload_n (show decode cX6_put 59 = .ok (.iload_n 2, 1) by decide +kernel) (by rfl) ?_
  refine go_i2l (show decode cX6_put 60 = .ok (.i2l, 1) by decide +kernel) ?_
  obtain ⟨q12, h⟩ := h
  obtain ⟨q13, h⟩ := h
  refine go_lastore (show decode cX6_put 61 = .ok (.lastore, 1) by decide +kernel) (shc_k hsh 45 (by decide) (by decide)) q12 (lt_n (m := 280) q13 (shc_n hsh 45 (by decide) (by decide)))  ?_
  obtain ⟨G14, G14e⟩ : ∃ G14 : AG, G14 = gu G10 45 (z6 + 1) a2 := ⟨_, rfl⟩
  have h := h G14 G14e
  rw [← G14e]
  refine go_iconst (show decode cX6_put 62 = .ok (.iconst 0, 1) by decide +kernel) (by decide) ?_
  refine go_istore (show decode cX6_put 63 = .ok (.istore 7, 2) by decide +kernel) (by decide) ?_
  show Go d MX6_put 65 [some (vR 44), some (vI a1), some (vI a2), some (vR a3), some (vJ a4), none, some (vI z6), some (vI 0)] [] S F G14 Q
  exact h
def V_X6_put_0 (d : Nat) (S : AS) (F : AF) (G : AG) (Q : AQ) (a1 : Int) (a2 : Int) (a3 : Nat) (a4 : Int) : Prop :=
  ((¬ F 44 2 = 40) →
    V_X6_put_32 d S F G Q a1 a2 a3 a4) ∧
  ((F 44 2 = 40) →
    (r32 ((F 44 1) + 1)) ∧
    (r32 (Int.tdiv ((F 44 1) + 1) 40)) ∧
    (r32 (Int.tmod ((F 44 1) + 1) 40)) ∧
    ∀ F4 : AF, F4 = fu F 44 1 (Int.tmod ((F 44 1) + 1) 40) →
    (r32 ((F4 44 2) - 1)) ∧
    ∀ F6 : AF, F6 = fu F4 44 2 ((F4 44 2) - 1) →
    V_X6_put_32 d S F6 G Q a1 a2 a3 a4)
theorem R_X6_put_0 {d : Nat} {S : AS} {F : AF} {G : AG} {Q : AQ} {a1 : Int} {a2 : Int} {a3 : Nat} {a4 : Int} (hsh : ShC S) (hk3 : AtRect S a3) (h : V_X6_put_0 d S F G Q a1 a2 a3 a4) : Go d MX6_put 0 [some (vR 44), some (vI a1), some (vI a2), some (vR a3), some (vJ a4), none, none, none] [] S F G Q := by
  unfold V_X6_put_0 at h
  refine go_aload_n (show decode cX6_put 0 = .ok (.aload_n 0, 1) by decide +kernel) (by rfl) ?_
  refine go_getI (show decode cX6_put 1 = .ok (.getfield 19, 3) by decide +kernel) fl_X6_19 (Or.inl rfl) (shc_k hsh 44 (by decide) (by decide)) ?_
  refine go_bipush (show decode cX6_put 4 = .ok (.bipush 40, 2) by decide +kernel) (by decide) ?_
  obtain ⟨ht, hf⟩ := h
  refine go_icmpne (tgt := 32) (show decode cX6_put 6 = .ok (.if_icmp .ne 26, 3) by decide +kernel) (by decide) (fun hc => ?_) (fun hc => ?_)
  · have h := ht hc
    exact R_X6_put_32 hsh hk3 h
  · have h := hf hc
    refine go_aload_n (show decode cX6_put 9 = .ok (.aload_n 0, 1) by decide +kernel) (by rfl) ?_
    refine go_aload_n (show decode cX6_put 10 = .ok (.aload_n 0, 1) by decide +kernel) (by rfl) ?_
    refine go_getI (show decode cX6_put 11 = .ok (.getfield 15, 3) by decide +kernel) fl_X6_15 (Or.inl rfl) (shc_k hsh 44 (by decide) (by decide)) ?_
    refine go_iconst (show decode cX6_put 14 = .ok (.iconst 1, 1) by decide +kernel) (by decide) ?_
    obtain ⟨q1, h⟩ := h
    refine go_iadd (show decode cX6_put 15 = .ok (.iadd, 1) by decide +kernel) q1 ?_
    refine go_bipush (show decode cX6_put 16 = .ok (.bipush 40, 2) by decide +kernel) (by decide) ?_
    obtain ⟨q2, h⟩ := h
    obtain ⟨q3, h⟩ := h
    refine go_irem (show decode cX6_put 18 = .ok (.irem, 1) by decide +kernel) (by decide) q2 q3 ?_
    refine go_putI (show decode cX6_put 19 = .ok (.putfield 15, 3) by decide +kernel) fl_X6_15 rfl (Or.inl rfl) (shc_k hsh 44 (by decide) (by decide)) ?_
    obtain ⟨F4, F4e⟩ : ∃ F4 : AF, F4 = fu F 44 1 (Int.tmod ((F 44 1) + 1) 40) := ⟨_, rfl⟩
    have h := h F4 F4e
    rw [← F4e]
    refine go_aload_n (show decode cX6_put 22 = .ok (.aload_n 0, 1) by decide +kernel) (by rfl) ?_
    refine go_dup (show decode cX6_put 23 = .ok (.dup, 1) by decide +kernel) ?_
    refine go_getI (show decode cX6_put 24 = .ok (.getfield 19, 3) by decide +kernel) fl_X6_19 (Or.inl rfl) (shc_k hsh 44 (by decide) (by decide)) ?_
    refine go_iconst (show decode cX6_put 27 = .ok (.iconst 1, 1) by decide +kernel) (by decide) ?_
    obtain ⟨q5, h⟩ := h
    refine go_isub (show decode cX6_put 28 = .ok (.isub, 1) by decide +kernel) q5 ?_
    refine go_putI (show decode cX6_put 29 = .ok (.putfield 19, 3) by decide +kernel) fl_X6_19 rfl (Or.inl rfl) (shc_k hsh 44 (by decide) (by decide)) ?_
    obtain ⟨F6, F6e⟩ : ∃ F6 : AF, F6 = fu F4 44 2 ((F4 44 2) - 1) := ⟨_, rfl⟩
    have h := h F6 F6e
    rw [← F6e]
    exact R_X6_put_32 hsh hk3 h
def V_X6_rowOf_0 (d : Nat) (S : AS) (F : AF) (G : AG) (Q : AQ) (a1 : Int) : Prop :=
  (r32 ((F 44 1) + a1)) ∧
  (r32 (Int.tdiv ((F 44 1) + a1) 40)) ∧
  (r32 (Int.tmod ((F 44 1) + a1) 40)) ∧
  (r32 ((Int.tmod ((F 44 1) + a1) 40) * 7)) ∧
  Q (some (vI ((Int.tmod ((F 44 1) + a1) 40) * 7))) S F G
theorem R_X6_rowOf_0 {d : Nat} {S : AS} {F : AF} {G : AG} {Q : AQ} {a1 : Int} (hsh : ShC S) (h : V_X6_rowOf_0 d S F G Q a1) : Go d MX6_rowOf 0 [some (vR 44), some (vI a1)] [] S F G Q := by
  unfold V_X6_rowOf_0 at h
  refine go_aload_n (show decode cX6_rowOf 0 = .ok (.aload_n 0, 1) by decide +kernel) (by rfl) ?_
  refine go_getI (show decode cX6_rowOf 1 = .ok (.getfield 15, 3) by decide +kernel) fl_X6_15 (Or.inl rfl) (shc_k hsh 44 (by decide) (by decide)) ?_
  refine go_iload_n (show decode cX6_rowOf 4 = .ok (.iload_n 1, 1) by decide +kernel) (by rfl) ?_
  obtain ⟨q1, h⟩ := h
  refine go_iadd (show decode cX6_rowOf 5 = .ok (.iadd, 1) by decide +kernel) q1 ?_
  refine go_bipush (show decode cX6_rowOf 6 = .ok (.bipush 40, 2) by decide +kernel) (by decide) ?_
  obtain ⟨q2, h⟩ := h
  obtain ⟨q3, h⟩ := h
  refine go_irem (show decode cX6_rowOf 8 = .ok (.irem, 1) by decide +kernel) (by decide) q2 q3 ?_
  refine go_bipush (show decode cX6_rowOf 9 = .ok (.bipush 7, 2) by decide +kernel) (by decide) ?_
  obtain ⟨q4, h⟩ := h
  refine go_imul (show decode cX6_rowOf 11 = .ok (.imul, 1) by decide +kernel) q4 ?_
  exact go_iret (show decode cX6_rowOf 12 = .ok (.ireturn, 1) by decide +kernel) rfl h
def V_X6_dropLatest_0 (d : Nat) (S : AS) (F : AF) (G : AG) (Q : AQ) (a1 : Int) : Prop :=
  (r32 ((F 44 2) - a1)) ∧
  (1 ≤ d) ∧
  ∀ F3 : AF, F3 = fu F 44 2 (max 0 ((F 44 2) - a1)) →
  Q none S F3 G
theorem R_X6_dropLatest_0 {d : Nat} {S : AS} {F : AF} {G : AG} {Q : AQ} {a1 : Int} (hsh : ShC S) (h : V_X6_dropLatest_0 d S F G Q a1) : Go d MX6_dropLatest 0 [some (vR 44), some (vI a1)] [] S F G Q := by
  unfold V_X6_dropLatest_0 at h
  refine go_aload_n (show decode cX6_dropLatest 0 = .ok (.aload_n 0, 1) by decide +kernel) (by rfl) ?_
  refine go_iconst (show decode cX6_dropLatest 1 = .ok (.iconst 0, 1) by decide +kernel) (by decide) ?_
  refine go_aload_n (show decode cX6_dropLatest 2 = .ok (.aload_n 0, 1) by decide +kernel) (by rfl) ?_
  refine go_getI (show decode cX6_dropLatest 3 = .ok (.getfield 19, 3) by decide +kernel) fl_X6_19 (Or.inl rfl) (shc_k hsh 44 (by decide) (by decide)) ?_
  refine go_iload_n (show decode cX6_dropLatest 6 = .ok (.iload_n 1, 1) by decide +kernel) (by rfl) ?_
  obtain ⟨q1, h⟩ := h
  refine go_isub (show decode cX6_dropLatest 7 = .ok (.isub, 1) by decide +kernel) q1 ?_
  obtain ⟨q2, h⟩ := h
  refine go_maxIm (show decode cX6_dropLatest 8 = .ok (.invokestatic 31, 3) by decide +kernel) ml_X6_31 mh_max_s mh_i mh_max_c (Nat.le_of_ble_eq_true rfl) q2 ?_
  refine go_putI (show decode cX6_dropLatest 11 = .ok (.putfield 19, 3) by decide +kernel) fl_X6_19 rfl (Or.inl rfl) (shc_k hsh 44 (by decide) (by decide)) ?_
  obtain ⟨F3, F3e⟩ : ∃ F3 : AF, F3 = fu F 44 2 (max 0 ((F 44 2) - a1)) := ⟨_, rfl⟩
  have h := h F3 F3e
  rw [← F3e]
  exact go_vret (show decode cX6_dropLatest 14 = .ok (.return_, 1) by decide +kernel) rfl h
def V_X6_told_0 (d : Nat) (S : AS) (F : AF) (G : AG) (Q : AQ) (a1 : Int) (a2 : Int) : Prop :=
  (1 ≤ d) ∧
  ∃ z6 : Int, Pu (d - 1) MX6_rowOf [vR 44, vI a1] S F G (some (vI z6)) ∧
  (r32 (z6 + a2)) ∧
  ((0 : Int) ≤ z6 + a2) ∧
  ((z6 + a2 : Int) < 280) ∧
  Q (some (vJ (G 45 (z6 + a2)))) S F G
theorem R_X6_told_0 {d : Nat} {S : AS} {F : AF} {G : AG} {Q : AQ} {a1 : Int} {a2 : Int} (hsh : ShC S) (h : V_X6_told_0 d S F G Q a1 a2) : Go d MX6_told 0 [some (vR 44), some (vI a1), some (vI a2)] [] S F G Q := by
  unfold V_X6_told_0 at h
  refine go_aload_n (show decode cX6_told 0 = .ok (.aload_n 0, 1) by decide +kernel) (by rfl) ?_
  refine go_getRc (show decode cX6_told 1 = .ok (.getfield 11, 3) by decide +kernel) fl_X6_11 rfl (shc_k hsh 44 (by decide) (by decide)) (v := 45) (shc_r hsh 44 0 (by decide) (by decide) (by decide)) ?_
  refine go_aload_n (show decode cX6_told 4 = .ok (.aload_n 0, 1) by decide +kernel) (by rfl) ?_
  refine go_iload_n (show decode cX6_told 5 = .ok (.iload_n 1, 1) by decide +kernel) (by rfl) ?_
  obtain ⟨q1, h⟩ := h
  obtain ⟨z6, p7, h⟩ := h
  refine go_callV (d2 := d - 1) (M2 := MX6_rowOf) (n := 1) (ci := 6) (av := [vI a1]) (st := [vR 45]) (show decode cX6_told 6 = .ok (.invokevirtual 22, 3) by decide +kernel) ml_X6_22 mt_X6_rowOf min_X6_rowOf mse_X6_rowOf (by decide) (shc_k hsh 44 (by decide) (by decide)) rfl (Nat.le_of_ble_eq_true rfl) (by omega) (ok_mono p7 (fun w2 S3 F4 G5 e9 => ?_))
  obtain ⟨e1, e2, e3, e4⟩ := e9
  subst e1
  replace e2 := e2.symm; subst e2
  replace e3 := e3.symm; subst e3
  replace e4 := e4.symm; subst e4
  show Go d MX6_told 9 [some (vR 44), some (vI a1), some (vI a2)] [vI z6, vR 45] S F G Q
  refine go_iload_n (show decode cX6_told 9 = .ok (.iload_n 2, 1) by decide +kernel) (by rfl) ?_
  obtain ⟨q8, h⟩ := h
  refine go_iadd (show decode cX6_told 10 = .ok (.iadd, 1) by decide +kernel) q8 ?_
  obtain ⟨q9, h⟩ := h
  obtain ⟨q10, h⟩ := h
  refine go_laload (show decode cX6_told 11 = .ok (.laload, 1) by decide +kernel) (shc_k hsh 45 (by decide) (by decide)) q9 (lt_n (m := 280) q10 (shc_n hsh 45 (by decide) (by decide))) ?_
  exact go_lret (show decode cX6_told 12 = .ok (.lreturn, 1) by decide +kernel) rfl h
def V_J7_fill_d0a16_6 (d : Nat) (S : AS) (F : AF) (G : AG) (Q : AQ) (a0 : Nat) (a1 : Int) (a3 : Int) (a4 : Int) : Prop :=
  ((a4 ≤ a3) →
    Q none S F G) ∧
  ((¬ a4 ≤ a3) →
    ((0 : Int) ≤ a3) ∧
    ((a3 : Int) < (sN S a0 : Int)) ∧
    ∀ G3 : AG, G3 = gu G a0 a3 a1 →
    (r32 (a3 + 1)) ∧
    Go d MJ7_fill_d0a16 6 [some (vR a0), some (vJ a1), none, some (vI (a3 + 1)), some (vI a4)] [] S F G3 Q)
theorem R_J7_fill_d0a16_6 {d : Nat} {S : AS} {F : AF} {G : AG} {Q : AQ} {a0 : Nat} {a1 : Int} {a3 : Int} {a4 : Int} (hk0 : AtJ S a0) (h : V_J7_fill_d0a16_6 d S F G Q a0 a1 a3 a4) : Go d MJ7_fill_d0a16 6 [some (vR a0), some (vJ a1), none, some (vI a3), some (vI a4)] [] S F G Q := by
  unfold V_J7_fill_d0a16_6 at h
  refine go_iload_n (show decode cJ7_fill_d0a16 6 = .ok (.iload_n 3, 1) by decide +kernel) (by rfl) ?_
  refine go_iload (show decode cJ7_fill_d0a16 7 = .ok (.iload 4, 2) by decide +kernel) (by rfl) ?_
  obtain ⟨ht, hf⟩ := h
  refine go_icmpge (tgt := 22) (show decode cJ7_fill_d0a16 9 = .ok (.if_icmp .ge 13, 3) by decide +kernel) (by decide) (fun hc => ?_) (fun hc => ?_)
  · have h := ht hc
    exact go_vret (show decode cJ7_fill_d0a16 22 = .ok (.return_, 1) by decide +kernel) rfl h
  · have h := hf hc
    refine go_aload_n (show decode cJ7_fill_d0a16 12 = .ok (.aload_n 0, 1) by decide +kernel) (by rfl) ?_
    refine go_iload_n (show decode cJ7_fill_d0a16 13 = .ok (.iload_n 3, 1) by decide +kernel) (by rfl) ?_
    refine go_lload_n (show decode cJ7_fill_d0a16 14 = .ok (.lload_n 1, 1) by decide +kernel) (by rfl) ?_
    obtain ⟨q1, h⟩ := h
    obtain ⟨q2, h⟩ := h
    refine go_lastore (show decode cJ7_fill_d0a16 15 = .ok (.lastore, 1) by decide +kernel) hk0 q1 q2  ?_
    obtain ⟨G3, G3e⟩ : ∃ G3 : AG, G3 = gu G a0 a3 a1 := ⟨_, rfl⟩
    have h := h G3 G3e
    rw [← G3e]
    obtain ⟨q4, h⟩ := h
    refine go_iinc (show decode cJ7_fill_d0a16 16 = .ok (.iinc 3 1, 3) by decide +kernel) (by rfl) q4 (by decide) ?_
    show Go d MJ7_fill_d0a16 19 [some (vR a0), some (vJ a1), none, some (vI (a3 + 1)), some (vI a4)] [] S F G3 Q
    refine go_goto (tgt := 6) (show decode cJ7_fill_d0a16 19 = .ok (.goto (-13), 3) by decide +kernel) (by decide) ?_
    exact h
def V_J7_fill_d0a16_0 (d : Nat) (S : AS) (F : AF) (G : AG) (Q : AQ) (a0 : Nat) (a1 : Int) : Prop :=
  ∀ x1 : Int, x1 = (sN S a0 : Int) →
  Go d MJ7_fill_d0a16 6 [some (vR a0), some (vJ a1), none, some (vI 0), some (vI x1)] [] S F G Q
theorem R_J7_fill_d0a16_0 {d : Nat} {S : AS} {F : AF} {G : AG} {Q : AQ} {a0 : Nat} {a1 : Int} (hk0 : AtJ S a0) (h : V_J7_fill_d0a16_0 d S F G Q a0 a1) : Go d MJ7_fill_d0a16 0 [some (vR a0), some (vJ a1), none, none, none] [] S F G Q := by
  unfold V_J7_fill_d0a16_0 at h
  refine go_iconst (show decode cJ7_fill_d0a16 0 = .ok (.iconst 0, 1) by decide +kernel) (by decide) ?_
  refine go_istore_n (show decode cJ7_fill_d0a16 1 = .ok (.istore_n 3, 1) by decide +kernel) (by decide) ?_
  show Go d MJ7_fill_d0a16 2 [some (vR a0), some (vJ a1), none, some (vI 0), none] [] S F G Q
  refine go_aload_n (show decode cJ7_fill_d0a16 2 = .ok (.aload_n 0, 1) by decide +kernel) (by rfl) ?_
  refine go_alen (show decode cJ7_fill_d0a16 3 = .ok (.arraylength, 1) by decide +kernel) (by have h9 : sK S a0 = 21 := hk0; omega) ?_
  obtain ⟨x1, x1e⟩ : ∃ x1 : Int, x1 = (sN S a0 : Int) := ⟨_, rfl⟩
  have h := h x1 x1e
  rw [← x1e]
  refine go_istore (show decode cJ7_fill_d0a16 4 = .ok (.istore 4, 2) by decide +kernel) (by decide) ?_
  show Go d MJ7_fill_d0a16 6 [some (vR a0), some (vJ a1), none, some (vI 0), some (vI x1)] [] S F G Q
  exact h
set_option maxRecDepth 50000 in
def V_X0_init_34 (d : Nat) (S : AS) (F : AF) (G : AG) (Q : AQ) (a0 : Nat) : Prop :=
  (sn S < 999998) ∧
  ∀ x2 : Nat, x2 = sn S + 1 →
  ∀ S3 : AS, S3 = na S 20 48 48 →
  ∀ F4 : AF, F4 = nF S F →
  ∀ G5 : AG, G5 = nG S G →
  (sK S3 a0 = 0) ∧
  (x2 ≤ sn S3) ∧
  ∀ S8 : AS, S8 = ru S3 a0 3 x2 →
  Q none S8 F4 G5
set_option maxRecDepth 50000 in
theorem R_X0_init_34 {d : Nat} {S : AS} {F : AF} {G : AG} {Q : AQ} {a0 : Nat} (h : V_X0_init_34 d S F G Q a0) : Go d MX0_init 34 [some (vR a0)] [] S F G Q := by
  unfold V_X0_init_34 at h
  refine go_aload_n (show decode cX0_init 34 = .ok (.aload_n 0, 1) by decide +kernel) (by rfl) ?_
  refine go_bipush (show decode cX0_init 35 = .ok (.bipush 48, 2) by decide +kernel) (by decide) ?_
  obtain ⟨q1, h⟩ := h
  refine go_newa (K := 20) (show decode cX0_init 37 = .ok (.newarray .int, 2) by decide +kernel) rfl (by decide) ar_20 (by decide) (by decide) q1 ?_
  show Go d MX0_init 39 [some (vR a0)] [vR (sn S + 1), vR a0] (na S 20 48 48) (nF S F) (nG S G) Q
  obtain ⟨x2, x2e⟩ : ∃ x2 : Nat, x2 = sn S + 1 := ⟨_, rfl⟩
  have h := h x2 x2e
  rw [← x2e]
  obtain ⟨S3, S3e⟩ : ∃ S3 : AS, S3 = na S 20 48 48 := ⟨_, rfl⟩
  have h := h S3 S3e
  rw [← S3e]
  obtain ⟨F4, F4e⟩ : ∃ F4 : AF, F4 = nF S F := ⟨_, rfl⟩
  have h := h F4 F4e
  rw [← F4e]
  obtain ⟨G5, G5e⟩ : ∃ G5 : AG, G5 = nG S G := ⟨_, rfl⟩
  have h := h G5 G5e
  rw [← G5e]
  obtain ⟨q6, h⟩ := h
  obtain ⟨q7, h⟩ := h
  refine go_putR (show decode cX0_init 39 = .ok (.putfield 25, 3) by decide +kernel) fl_X0_25 rfl (Or.inr ⟨rfl, rfl⟩) q6 q7 ?_
  obtain ⟨S8, S8e⟩ : ∃ S8 : AS, S8 = ru S3 a0 3 x2 := ⟨_, rfl⟩
  have h := h S8 S8e
  rw [← S8e]
  exact go_vret (show decode cX0_init 42 = .ok (.return_, 1) by decide +kernel) rfl h
set_option maxRecDepth 50000 in
def V_X0_init_0 (d : Nat) (S : AS) (F : AF) (G : AG) (Q : AQ) (a0 : Nat) : Prop :=
  (1 ≤ d) ∧
  (1 ≤ a0) ∧
  (sn S < 999998) ∧
  ∀ x4 : Nat, x4 = sn S + 1 →
  ∀ S5 : AS, S5 = na S 1 0 3 →
  ∀ F6 : AF, F6 = nF S F →
  ∀ G7 : AG, G7 = nG S G →
  (1 ≤ d) ∧
  (1 ≤ x4) ∧
  Ok (d - 1) MX1_init [vR x4] S5 F6 G7 (fun w9 S10 F11 G12 =>
  w9 = none ∧
  (sK S10 a0 = 0) ∧
  (x4 ≤ sn S10) ∧
  ∀ S16 : AS, S16 = ru S10 a0 0 x4 →
  (sn S16 < 999998) ∧
  ∀ x18 : Nat, x18 = sn S16 + 1 →
  ∀ S19 : AS, S19 = na S16 1 0 3 →
  ∀ F20 : AF, F20 = nF S16 F11 →
  ∀ G21 : AG, G21 = nG S16 G12 →
  (1 ≤ d) ∧
  (1 ≤ x18) ∧
  Ok (d - 1) MX1_init [vR x18] S19 F20 G21 (fun w23 S24 F25 G26 =>
  w23 = none ∧
  (sK S24 a0 = 0) ∧
  (x18 ≤ sn S24) ∧
  ∀ S30 : AS, S30 = ru S24 a0 1 x18 →
  (sn S30 < 999998) ∧
  ∀ x32 : Nat, x32 = sn S30 + 1 →
  ∀ S33 : AS, S33 = na S30 20 48 48 →
  ∀ F34 : AF, F34 = nF S30 F25 →
  ∀ G35 : AG, G35 = nG S30 G26 →
  (sK S33 a0 = 0) ∧
  (x32 ≤ sn S33) ∧
  ∀ S38 : AS, S38 = ru S33 a0 2 x32 →
  V_X0_init_34 d S38 F34 G35 Q a0))
set_option maxRecDepth 50000 in
theorem R_X0_init_0 {d : Nat} {S : AS} {F : AF} {G : AG} {Q : AQ} {a0 : Nat} (h : V_X0_init_0 d S F G Q a0) : Go d MX0_init 0 [some (vR a0)] [] S F G Q := by
  unfold V_X0_init_0 at h
  refine go_aload_n (show decode cX0_init 0 = .ok (.aload_n 0, 1) by decide +kernel) (by rfl) ?_
  obtain ⟨q1, h⟩ := h
  obtain ⟨q2, h⟩ := h
  refine go_objInit (show decode cX0_init 1 = .ok (.invokespecial 3, 3) by decide +kernel) ml_X0_3 oi_1 oi_2 q2 (Nat.le_of_ble_eq_true rfl) q1 ?_
  refine go_aload_n (show decode cX0_init 4 = .ok (.aload_n 0, 1) by decide +kernel) (by rfl) ?_
  obtain ⟨q3, h⟩ := h
  refine go_new (show decode cX0_init 5 = .ok (.new 9, 3) by decide +kernel) (by decide) cl_X0_9 ci_1 cz_1 q3 ?_
  show Go d MX0_init 8 [some (vR a0)] [vR (sn S + 1), vR a0] (na S 1 0 3) (nF S F) (nG S G) Q
  obtain ⟨x4, x4e⟩ : ∃ x4 : Nat, x4 = sn S + 1 := ⟨_, rfl⟩
  have h := h x4 x4e
  rw [← x4e]
  obtain ⟨S5, S5e⟩ : ∃ S5 : AS, S5 = na S 1 0 3 := ⟨_, rfl⟩
  have h := h S5 S5e
  rw [← S5e]
  obtain ⟨F6, F6e⟩ : ∃ F6 : AF, F6 = nF S F := ⟨_, rfl⟩
  have h := h F6 F6e
  rw [← F6e]
  obtain ⟨G7, G7e⟩ : ∃ G7 : AG, G7 = nG S G := ⟨_, rfl⟩
  have h := h G7 G7e
  rw [← G7e]
  refine go_dup (show decode cX0_init 8 = .ok (.dup, 1) by decide +kernel) ?_
  obtain ⟨q8, h⟩ := h
  obtain ⟨q13, h⟩ := h
  refine go_callIN (d2 := d - 1) (M2 := MX1_init) (n := 0) (av := []) (st := [vR x4, vR a0]) (show decode cX0_init 9 = .ok (.invokespecial 11, 3) by decide +kernel) ml_X0_11 mt_X1_init rfl rfl min_X1_init q13 rfl (Nat.le_of_ble_eq_true rfl) (by omega) (ok_mono h (fun w9 S10 F11 G12 h => ?_))
  obtain ⟨e9, h⟩ := h
  subst e9
  show Go d MX0_init 12 [some (vR a0)] [vR x4, vR a0] S10 F11 G12 Q
  obtain ⟨q14, h⟩ := h
  obtain ⟨q15, h⟩ := h
  refine go_putR (show decode cX0_init 12 = .ok (.putfield 12, 3) by decide +kernel) fl_X0_12 rfl (Or.inr ⟨rfl, rfl⟩) q14 q15 ?_
  obtain ⟨S16, S16e⟩ : ∃ S16 : AS, S16 = ru S10 a0 0 x4 := ⟨_, rfl⟩
  have h := h S16 S16e
  rw [← S16e]
  refine go_aload_n (show decode cX0_init 15 = .ok (.aload_n 0, 1) by decide +kernel) (by rfl) ?_
  obtain ⟨q17, h⟩ := h
  refine go_new (show decode cX0_init 16 = .ok (.new 9, 3) by decide +kernel) (by decide) cl_X0_9 ci_1 cz_1 q17 ?_
  show Go d MX0_init 19 [some (vR a0)] [vR (sn S16 + 1), vR a0] (na S16 1 0 3) (nF S16 F11) (nG S16 G12) Q
  obtain ⟨x18, x18e⟩ : ∃ x18 : Nat, x18 = sn S16 + 1 := ⟨_, rfl⟩
  have h := h x18 x18e
  rw [← x18e]
  obtain ⟨S19, S19e⟩ : ∃ S19 : AS, S19 = na S16 1 0 3 := ⟨_, rfl⟩
  have h := h S19 S19e
  rw [← S19e]
  obtain ⟨F20, F20e⟩ : ∃ F20 : AF, F20 = nF S16 F11 := ⟨_, rfl⟩
  have h := h F20 F20e
  rw [← F20e]
  obtain ⟨G21, G21e⟩ : ∃ G21 : AG, G21 = nG S16 G12 := ⟨_, rfl⟩
  have h := h G21 G21e
  rw [← G21e]
  refine go_dup (show decode cX0_init 19 = .ok (.dup, 1) by decide +kernel) ?_
  obtain ⟨q22, h⟩ := h
  obtain ⟨q27, h⟩ := h
  refine go_callIN (d2 := d - 1) (M2 := MX1_init) (n := 0) (av := []) (st := [vR x18, vR a0]) (show decode cX0_init 20 = .ok (.invokespecial 11, 3) by decide +kernel) ml_X0_11 mt_X1_init rfl rfl min_X1_init q27 rfl (Nat.le_of_ble_eq_true rfl) (by omega) (ok_mono h (fun w23 S24 F25 G26 h => ?_))
  obtain ⟨e9, h⟩ := h
  subst e9
  show Go d MX0_init 23 [some (vR a0)] [vR x18, vR a0] S24 F25 G26 Q
  obtain ⟨q28, h⟩ := h
  obtain ⟨q29, h⟩ := h
  refine go_putR (show decode cX0_init 23 = .ok (.putfield 18, 3) by decide +kernel) fl_X0_18 rfl (Or.inr ⟨rfl, rfl⟩) q28 q29 ?_
  obtain ⟨S30, S30e⟩ : ∃ S30 : AS, S30 = ru S24 a0 1 x18 := ⟨_, rfl⟩
  have h := h S30 S30e
  rw [← S30e]
  refine go_aload_n (show decode cX0_init 26 = .ok (.aload_n 0, 1) by decide +kernel) (by rfl) ?_
  refine go_bipush (show decode cX0_init 27 = .ok (.bipush 48, 2) by decide +kernel) (by decide) ?_
  obtain ⟨q31, h⟩ := h
  refine go_newa (K := 20) (show decode cX0_init 29 = .ok (.newarray .int, 2) by decide +kernel) rfl (by decide) ar_20 (by decide) (by decide) q31 ?_
  show Go d MX0_init 31 [some (vR a0)] [vR (sn S30 + 1), vR a0] (na S30 20 48 48) (nF S30 F25) (nG S30 G26) Q
  obtain ⟨x32, x32e⟩ : ∃ x32 : Nat, x32 = sn S30 + 1 := ⟨_, rfl⟩
  have h := h x32 x32e
  rw [← x32e]
  obtain ⟨S33, S33e⟩ : ∃ S33 : AS, S33 = na S30 20 48 48 := ⟨_, rfl⟩
  have h := h S33 S33e
  rw [← S33e]
  obtain ⟨F34, F34e⟩ : ∃ F34 : AF, F34 = nF S30 F25 := ⟨_, rfl⟩
  have h := h F34 F34e
  rw [← F34e]
  obtain ⟨G35, G35e⟩ : ∃ G35 : AG, G35 = nG S30 G26 := ⟨_, rfl⟩
  have h := h G35 G35e
  rw [← G35e]
  obtain ⟨q36, h⟩ := h
  obtain ⟨q37, h⟩ := h
  refine go_putR (show decode cX0_init 31 = .ok (.putfield 21, 3) by decide +kernel) fl_X0_21 rfl (Or.inr ⟨rfl, rfl⟩) q36 q37 ?_
  obtain ⟨S38, S38e⟩ : ∃ S38 : AS, S38 = ru S33 a0 2 x32 := ⟨_, rfl⟩
  have h := h S38 S38e
  rw [← S38e]
  exact R_X0_init_34 h
def V_X0_clear_0 (d : Nat) (S : AS) (F : AF) (G : AG) (Q : AQ) (a0 : Nat) (a1 : Int) : Prop :=
  (1 ≤ d) ∧
  Ok (d - 1) MX1_clear [vR (a0 + 1), vI a1] S F G (fun w2 S3 F4 G5 =>
  S3 = S ∧
  w2 = none ∧
  Ok (d - 1) MX1_clear [vR (a0 + 3), vI a1] S F4 G5 (fun w6 S7 F8 G9 =>
  S7 = S ∧
  w6 = none ∧
  ∀ F10 : AF, F10 = fu F8 a0 4 0 →
  Q none S F10 G9))
theorem R_X0_clear_0 {d : Nat} {S : AS} {F : AF} {G : AG} {Q : AQ} {a0 : Nat} {a1 : Int} (hk0 : AtAxis S a0) (h : V_X0_clear_0 d S F G Q a0 a1) : Go d MX0_clear 0 [some (vR a0), some (vI a1)] [] S F G Q := by
  unfold V_X0_clear_0 at h
  refine go_aload_n (show decode cX0_clear 0 = .ok (.aload_n 0, 1) by decide +kernel) (by rfl) ?_
  refine go_getRc (show decode cX0_clear 1 = .ok (.getfield 12, 3) by decide +kernel) fl_X0_12 rfl hk0.1 (v := (a0 + 1)) hk0.2.1 ?_
  refine go_iload_n (show decode cX0_clear 4 = .ok (.iload_n 1, 1) by decide +kernel) (by rfl) ?_
  obtain ⟨q1, h⟩ := h
  refine go_callV (d2 := d - 1) (M2 := MX1_clear) (n := 1) (ci := 1) (av := [vI a1]) (st := []) (show decode cX0_clear 5 = .ok (.invokevirtual 28, 3) by decide +kernel) ml_X0_28 mt_X1_clear min_X1_clear mse_X1_clear (by decide) hk0.2.2.2.2.2.1.1 rfl (Nat.le_of_ble_eq_true rfl) (by omega) (ok_mono h (fun w2 S3 F4 G5 h => ?_))
  obtain ⟨e8, h⟩ := h
  replace e8 := e8.symm; subst e8
  obtain ⟨e9, h⟩ := h
  subst e9
  show Go d MX0_clear 8 [some (vR a0), some (vI a1)] [] S F4 G5 Q
  refine go_aload_n (show decode cX0_clear 8 = .ok (.aload_n 0, 1) by decide +kernel) (by rfl) ?_
  refine go_getRc (show decode cX0_clear 9 = .ok (.getfield 18, 3) by decide +kernel) fl_X0_18 rfl hk0.1 (v := (a0 + 3)) hk0.2.2.1 ?_
  refine go_iload_n (show decode cX0_clear 12 = .ok (.iload_n 1, 1) by decide +kernel) (by rfl) ?_
  refine go_callV (d2 := d - 1) (M2 := MX1_clear) (n := 1) (ci := 1) (av := [vI a1]) (st := []) (show decode cX0_clear 13 = .ok (.invokevirtual 28, 3) by decide +kernel) ml_X0_28 mt_X1_clear min_X1_clear mse_X1_clear (by decide) hk0.2.2.2.2.2.2.1.1 rfl (Nat.le_of_ble_eq_true rfl) (by omega) (ok_mono h (fun w6 S7 F8 G9 h => ?_))
  obtain ⟨e8, h⟩ := h
  replace e8 := e8.symm; subst e8
  obtain ⟨e9, h⟩ := h
  subst e9
  show Go d MX0_clear 16 [some (vR a0), some (vI a1)] [] S F8 G9 Q
  refine go_aload_n (show decode cX0_clear 16 = .ok (.aload_n 0, 1) by decide +kernel) (by rfl) ?_
  refine go_iconst (show decode cX0_clear 17 = .ok (.iconst 0, 1) by decide +kernel) (by decide) ?_
  refine go_putI (show decode cX0_clear 18 = .ok (.putfield 32, 3) by decide +kernel) fl_X0_32 rfl (Or.inl rfl) hk0.1 ?_
  obtain ⟨F10, F10e⟩ : ∃ F10 : AF, F10 = fu F8 a0 4 0 := ⟨_, rfl⟩
  have h := h F10 F10e
  rw [← F10e]
  exact go_vret (show decode cX0_clear 21 = .ok (.return_, 1) by decide +kernel) rfl h
def V_X0_planSpan_0 (d : Nat) (S : AS) (F : AF) (G : AG) (Q : AQ) (a0 : Nat) (a1 : Int) (a2 : Int) : Prop :=
  (1 ≤ d) ∧
  Ok (d - 1) MX1_put [vR (a0 + 3), vI a1] S F G (fun w2 S3 F4 G5 =>
  S3 = S ∧
  w2 = none ∧
  (r32 (a2 + 1)) ∧
  Ok (d - 1) MX1_put [vR (a0 + 3), vI (a2 + 1)] S F4 G5 (fun w7 S8 F9 G10 =>
  S8 = S ∧
  w7 = none ∧
  Q none S F9 G10))
theorem R_X0_planSpan_0 {d : Nat} {S : AS} {F : AF} {G : AG} {Q : AQ} {a0 : Nat} {a1 : Int} {a2 : Int} (hk0 : AtAxis S a0) (h : V_X0_planSpan_0 d S F G Q a0 a1 a2) : Go d MX0_planSpan 0 [some (vR a0), some (vI a1), some (vI a2)] [] S F G Q := by
  unfold V_X0_planSpan_0 at h
  refine go_aload_n (show decode cX0_planSpan 0 = .ok (.aload_n 0, 1) by decide +kernel) (by rfl) ?_
  refine go_getRc (show decode cX0_planSpan 1 = .ok (.getfield 18, 3) by decide +kernel) fl_X0_18 rfl hk0.1 (v := (a0 + 3)) hk0.2.2.1 ?_
  refine go_iload_n (show decode cX0_planSpan 4 = .ok (.iload_n 1, 1) by decide +kernel) (by rfl) ?_
  obtain ⟨q1, h⟩ := h
  refine go_callV (d2 := d - 1) (M2 := MX1_put) (n := 1) (ci := 1) (av := [vI a1]) (st := []) (show decode cX0_planSpan 5 = .ok (.invokevirtual 36, 3) by decide +kernel) ml_X0_36 mt_X1_put min_X1_put mse_X1_put (by decide) hk0.2.2.2.2.2.2.1.1 rfl (Nat.le_of_ble_eq_true rfl) (by omega) (ok_mono h (fun w2 S3 F4 G5 h => ?_))
  obtain ⟨e8, h⟩ := h
  replace e8 := e8.symm; subst e8
  obtain ⟨e9, h⟩ := h
  subst e9
  show Go d MX0_planSpan 8 [some (vR a0), some (vI a1), some (vI a2)] [] S F4 G5 Q
  refine go_aload_n (show decode cX0_planSpan 8 = .ok (.aload_n 0, 1) by decide +kernel) (by rfl) ?_
  refine go_getRc (show decode cX0_planSpan 9 = .ok (.getfield 18, 3) by decide +kernel) fl_X0_18 rfl hk0.1 (v := (a0 + 3)) hk0.2.2.1 ?_
  refine go_iload_n (show decode cX0_planSpan 12 = .ok (.iload_n 2, 1) by decide +kernel) (by rfl) ?_
  refine go_iconst (show decode cX0_planSpan 13 = .ok (.iconst 1, 1) by decide +kernel) (by decide) ?_
  obtain ⟨q6, h⟩ := h
  refine go_iadd (show decode cX0_planSpan 14 = .ok (.iadd, 1) by decide +kernel) q6 ?_
  refine go_callV (d2 := d - 1) (M2 := MX1_put) (n := 1) (ci := 1) (av := [vI (a2 + 1)]) (st := []) (show decode cX0_planSpan 15 = .ok (.invokevirtual 36, 3) by decide +kernel) ml_X0_36 mt_X1_put min_X1_put mse_X1_put (by decide) hk0.2.2.2.2.2.2.1.1 rfl (Nat.le_of_ble_eq_true rfl) (by omega) (ok_mono h (fun w7 S8 F9 G10 h => ?_))
  obtain ⟨e8, h⟩ := h
  replace e8 := e8.symm; subst e8
  obtain ⟨e9, h⟩ := h
  subst e9
  show Go d MX0_planSpan 18 [some (vR a0), some (vI a1), some (vI a2)] [] S F9 G10 Q
  exact go_vret (show decode cX0_planSpan 18 = .ok (.return_, 1) by decide +kernel) rfl h
def V_X0_plansTooMany_0 (d : Nat) (S : AS) (F : AF) (G : AG) (Q : AQ) (a0 : Nat) : Prop :=
  ((F (a0 + 3) 1 ≤ 48) →
    Q (some (vI 0)) S F G) ∧
  ((¬ F (a0 + 3) 1 ≤ 48) →
    Q (some (vI 1)) S F G)
theorem R_X0_plansTooMany_0 {d : Nat} {S : AS} {F : AF} {G : AG} {Q : AQ} {a0 : Nat} (hk0 : AtAxis S a0) (h : V_X0_plansTooMany_0 d S F G Q a0) : Go d MX0_plansTooMany 0 [some (vR a0)] [] S F G Q := by
  unfold V_X0_plansTooMany_0 at h
  refine go_aload_n (show decode cX0_plansTooMany 0 = .ok (.aload_n 0, 1) by decide +kernel) (by rfl) ?_
  refine go_getRc (show decode cX0_plansTooMany 1 = .ok (.getfield 18, 3) by decide +kernel) fl_X0_18 rfl hk0.1 (v := (a0 + 3)) hk0.2.2.1 ?_
  refine go_getI (show decode cX0_plansTooMany 4 = .ok (.getfield 39, 3) by decide +kernel) fl_X0_39 (Or.inl rfl) hk0.2.2.2.2.2.2.1.1 ?_
  refine go_bipush (show decode cX0_plansTooMany 7 = .ok (.bipush 48, 2) by decide +kernel) (by decide) ?_
  obtain ⟨ht, hf⟩ := h
  refine go_icmple (tgt := 16) (show decode cX0_plansTooMany 9 = .ok (.if_icmp .le 7, 3) by decide +kernel) (by decide) (fun hc => ?_) (fun hc => ?_)
  · have h := ht hc
    refine go_iconst (show decode cX0_plansTooMany 16 = .ok (.iconst 0, 1) by decide +kernel) (by decide) ?_
    exact go_zret (show decode cX0_plansTooMany 17 = .ok (.ireturn, 1) by decide +kernel) rfl (by decide) h
  · have h := hf hc
    refine go_iconst (show decode cX0_plansTooMany 12 = .ok (.iconst 1, 1) by decide +kernel) (by decide) ?_
    refine go_goto (tgt := 17) (show decode cX0_plansTooMany 13 = .ok (.goto 4, 3) by decide +kernel) (by decide) ?_
    exact go_zret (show decode cX0_plansTooMany 17 = .ok (.ireturn, 1) by decide +kernel) rfl (by decide) h
def V_X0_traceOrigins_2 (d : Nat) (S : AS) (F : AF) (G : AG) (Q : AQ) (a0 : Nat) (a1 : Int) : Prop :=
  ((F (a0 + 3) 1 ≤ a1) →
    Q none S F G) ∧
  ((¬ F (a0 + 3) 1 ≤ a1) →
    ((48 ≤ a1) →
      Q none S F G) ∧
    ((¬ 48 ≤ a1) →
      ((0 : Int) ≤ a1) ∧
      ((a1 : Int) < 105) ∧
      (1 ≤ d) ∧
      ∃ z8 : Int, Pu (d - 1) MX1_bandOf [vR (a0 + 1), vI (G (a0 + 3 + 1) a1)] S F G (some (vI z8)) ∧
      ((a1 : Int) < 48) ∧
      ∀ G11 : AG, G11 = gu G (a0 + 5) a1 z8 →
      (r32 (a1 + 1)) ∧
      Go d MX0_traceOrigins 2 [some (vR a0), some (vI (a1 + 1))] [] S F G11 Q))
theorem R_X0_traceOrigins_2 {d : Nat} {S : AS} {F : AF} {G : AG} {Q : AQ} {a0 : Nat} {a1 : Int} (hk0 : AtAxis S a0) (h : V_X0_traceOrigins_2 d S F G Q a0 a1) : Go d MX0_traceOrigins 2 [some (vR a0), some (vI a1)] [] S F G Q := by
  unfold V_X0_traceOrigins_2 at h
  refine go_iload_n (show decode cX0_traceOrigins 2 = .ok (.iload_n 1, 1) by decide +kernel) (by rfl) ?_
  refine go_aload_n (show decode cX0_traceOrigins 3 = .ok (.aload_n 0, 1) by decide +kernel) (by rfl) ?_
  refine go_getRc (show decode cX0_traceOrigins 4 = .ok (.getfield 18, 3) by decide +kernel) fl_X0_18 rfl hk0.1 (v := (a0 + 3)) hk0.2.2.1 ?_
  refine go_getI (show decode cX0_traceOrigins 7 = .ok (.getfield 39, 3) by decide +kernel) fl_X0_39 (Or.inl rfl) hk0.2.2.2.2.2.2.1.1 ?_
  obtain ⟨ht, hf⟩ := h
  refine go_icmpge (tgt := 50) (show decode cX0_traceOrigins 10 = .ok (.if_icmp .ge 40, 3) by decide +kernel) (by decide) (fun hc => ?_) (fun hc => ?_)
  · have h := ht hc
    exact go_vret (show decode cX0_traceOrigins 50 = .ok (.return_, 1) by decide +kernel) rfl h
  · have h := hf hc
    refine go_iload_n (show decode cX0_traceOrigins 13 = .ok (.iload_n 1, 1) by decide +kernel) (by rfl) ?_
    refine go_aload_n (show decode cX0_traceOrigins 14 = .ok (.aload_n 0, 1) by decide +kernel) (by rfl) ?_
    refine go_getRc (show decode cX0_traceOrigins 15 = .ok (.getfield 21, 3) by decide +kernel) fl_X0_21 rfl hk0.1 (v := (a0 + 5)) hk0.2.2.2.1 ?_
    refine go_alenc (show decode cX0_traceOrigins 18 = .ok (.arraylength, 1) by decide +kernel) (by have h9 : sK S (a0 + 5) = 20 := hk0.2.2.2.2.2.2.2.1.1; omega) (z := 48) (by rw [hk0.2.2.2.2.2.2.2.1.2]; rfl) ?_
    obtain ⟨ht, hf⟩ := h
    refine go_icmpge (tgt := 50) (show decode cX0_traceOrigins 19 = .ok (.if_icmp .ge 31, 3) by decide +kernel) (by decide) (fun hc => ?_) (fun hc => ?_)
    · have h := ht hc
      exact go_vret (show decode cX0_traceOrigins 50 = .ok (.return_, 1) by decide +kernel) rfl h
    · have h := hf hc
      refine go_aload_n (show decode cX0_traceOrigins 22 = .ok (.aload_n 0, 1) by decide +kernel) (by rfl) ?_
      refine go_getRc (show decode cX0_traceOrigins 23 = .ok (.getfield 21, 3) by decide +kernel) fl_X0_21 rfl hk0.1 (v := (a0 + 5)) hk0.2.2.2.1 ?_
      refine go_iload_n (show decode cX0_traceOrigins 26 = .ok (.iload_n 1, 1) by decide +kernel) (by rfl) ?_
      refine go_aload_n (show decode cX0_traceOrigins 27 = .ok (.aload_n 0, 1) by decide +kernel) (by rfl) ?_
      refine go_getRc (show decode cX0_traceOrigins 28 = .ok (.getfield 12, 3) by decide +kernel) fl_X0_12 rfl hk0.1 (v := (a0 + 1)) hk0.2.1 ?_
      refine go_aload_n (show decode cX0_traceOrigins 31 = .ok (.aload_n 0, 1) by decide +kernel) (by rfl) ?_
      refine go_getRc (show decode cX0_traceOrigins 32 = .ok (.getfield 18, 3) by decide +kernel) fl_X0_18 rfl hk0.1 (v := (a0 + 3)) hk0.2.2.1 ?_
      refine go_getRc (show decode cX0_traceOrigins 35 = .ok (.getfield 42, 3) by decide +kernel) fl_X0_42 rfl hk0.2.2.2.2.2.2.1.1 (v := (a0 + 3 + 1)) hk0.2.2.2.2.2.2.1.2.1 ?_
      refine go_iload_n (show decode cX0_traceOrigins 38 = .ok (.iload_n 1, 1) by decide +kernel) (by rfl) ?_
      obtain ⟨q1, h⟩ := h
      obtain ⟨q2, h⟩ := h
      refine go_iaload (show decode cX0_traceOrigins 39 = .ok (.iaload, 1) by decide +kernel) hk0.2.2.2.2.2.2.1.2.2.1 q1 (lt_n (m := 105) q2 hk0.2.2.2.2.2.2.1.2.2.2) ?_
      obtain ⟨q3, h⟩ := h
      obtain ⟨z8, p9, h⟩ := h
      refine go_callV (d2 := d - 1) (M2 := MX1_bandOf) (n := 1) (ci := 1) (av := [vI (G (a0 + 3 + 1) a1)]) (st := [vI a1, vR (a0 + 5)]) (show decode cX0_traceOrigins 40 = .ok (.invokevirtual 45, 3) by decide +kernel) ml_X0_45 mt_X1_bandOf min_X1_bandOf mse_X1_bandOf (by decide) hk0.2.2.2.2.2.1.1 rfl (Nat.le_of_ble_eq_true rfl) (by omega) (ok_mono p9 (fun w4 S5 F6 G7 e9 => ?_))
      obtain ⟨e1, e2, e3, e4⟩ := e9
      subst e1
      replace e2 := e2.symm; subst e2
      replace e3 := e3.symm; subst e3
      replace e4 := e4.symm; subst e4
      show Go d MX0_traceOrigins 43 [some (vR a0), some (vI a1)] [vI z8, vI a1, vR (a0 + 5)] S F G Q
      obtain ⟨q10, h⟩ := h
      refine go_iastore (show decode cX0_traceOrigins 43 = .ok (.iastore, 1) by decide +kernel) hk0.2.2.2.2.2.2.2.1.1 q1 (lt_n (m := 48) q10 hk0.2.2.2.2.2.2.2.1.2)  ?_
      obtain ⟨G11, G11e⟩ : ∃ G11 : AG, G11 = gu G (a0 + 5) a1 z8 := ⟨_, rfl⟩
      have h := h G11 G11e
      rw [← G11e]
      obtain ⟨q12, h⟩ := h
      refine go_iinc (show decode cX0_traceOrigins 44 = .ok (.iinc 1 1, 3) by decide +kernel) (by rfl) q12 (by decide) ?_
      show Go d MX0_traceOrigins 47 [some (vR a0), some (vI (a1 + 1))] [] S F G11 Q
      refine go_goto (tgt := 2) (show decode cX0_traceOrigins 47 = .ok (.goto (-45), 3) by decide +kernel) (by decide) ?_
      exact h
def V_X0_traceOrigins_0 (d : Nat) (S : AS) (F : AF) (G : AG) (Q : AQ) (a0 : Nat) : Prop :=
  Go d MX0_traceOrigins 2 [some (vR a0), some (vI 0)] [] S F G Q
theorem R_X0_traceOrigins_0 {d : Nat} {S : AS} {F : AF} {G : AG} {Q : AQ} {a0 : Nat} (hk0 : AtAxis S a0) (h : V_X0_traceOrigins_0 d S F G Q a0) : Go d MX0_traceOrigins 0 [some (vR a0), none] [] S F G Q := by
  unfold V_X0_traceOrigins_0 at h
  refine go_iconst (show decode cX0_traceOrigins 0 = .ok (.iconst 0, 1) by decide +kernel) (by decide) ?_
  refine go_istore_n (show decode cX0_traceOrigins 1 = .ok (.istore_n 1, 1) by decide +kernel) (by decide) ?_
  show Go d MX0_traceOrigins 2 [some (vR a0), some (vI 0)] [] S F G Q
  exact h
def V_X0_grows_0 (d : Nat) (S : AS) (F : AF) (G : AG) (Q : AQ) (a0 : Nat) : Prop :=
  ((F (a0 + 3) 1 ≤ F (a0 + 1) 1) →
    Q (some (vI 0)) S F G) ∧
  ((¬ F (a0 + 3) 1 ≤ F (a0 + 1) 1) →
    Q (some (vI 1)) S F G)
theorem R_X0_grows_0 {d : Nat} {S : AS} {F : AF} {G : AG} {Q : AQ} {a0 : Nat} (hk0 : AtAxis S a0) (h : V_X0_grows_0 d S F G Q a0) : Go d MX0_grows 0 [some (vR a0)] [] S F G Q := by
  unfold V_X0_grows_0 at h
  refine go_aload_n (show decode cX0_grows 0 = .ok (.aload_n 0, 1) by decide +kernel) (by rfl) ?_
  refine go_getRc (show decode cX0_grows 1 = .ok (.getfield 18, 3) by decide +kernel) fl_X0_18 rfl hk0.1 (v := (a0 + 3)) hk0.2.2.1 ?_
  refine go_getI (show decode cX0_grows 4 = .ok (.getfield 39, 3) by decide +kernel) fl_X0_39 (Or.inl rfl) hk0.2.2.2.2.2.2.1.1 ?_
  refine go_aload_n (show decode cX0_grows 7 = .ok (.aload_n 0, 1) by decide +kernel) (by rfl) ?_
  refine go_getRc (show decode cX0_grows 8 = .ok (.getfield 12, 3) by decide +kernel) fl_X0_12 rfl hk0.1 (v := (a0 + 1)) hk0.2.1 ?_
  refine go_getI (show decode cX0_grows 11 = .ok (.getfield 39, 3) by decide +kernel) fl_X0_39 (Or.inl rfl) hk0.2.2.2.2.2.1.1 ?_
  obtain ⟨ht, hf⟩ := h
  refine go_icmple (tgt := 21) (show decode cX0_grows 14 = .ok (.if_icmp .le 7, 3) by decide +kernel) (by decide) (fun hc => ?_) (fun hc => ?_)
  · have h := ht hc
    refine go_iconst (show decode cX0_grows 21 = .ok (.iconst 0, 1) by decide +kernel) (by decide) ?_
    exact go_zret (show decode cX0_grows 22 = .ok (.ireturn, 1) by decide +kernel) rfl (by decide) h
  · have h := hf hc
    refine go_iconst (show decode cX0_grows 17 = .ok (.iconst 1, 1) by decide +kernel) (by decide) ?_
    refine go_goto (tgt := 22) (show decode cX0_grows 18 = .ok (.goto 4, 3) by decide +kernel) (by decide) ?_
    exact go_zret (show decode cX0_grows 22 = .ok (.ireturn, 1) by decide +kernel) rfl (by decide) h
def V_X0_adopt_105 (d : Nat) (S : AS) (F : AF) (G : AG) (Q : AQ) (a0 : Nat) (a1 : Int) (a2 : Int) : Prop :=
  (1 ≤ d) ∧
  Ok (d - 1) MX1_copy [vR (a0 + 1), vR (a0 + 3)] S F G (fun w2 S3 F4 G5 =>
  S3 = S ∧
  w2 = none ∧
  Q none S F4 G5)
theorem R_X0_adopt_105 {d : Nat} {S : AS} {F : AF} {G : AG} {Q : AQ} {a0 : Nat} {a1 : Int} {a2 : Int} (hk0 : AtAxis S a0) (h : V_X0_adopt_105 d S F G Q a0 a1 a2) : Go d MX0_adopt 105 [some (vR a0), some (vI a1), some (vI a2), none] [] S F G Q := by
  unfold V_X0_adopt_105 at h
  refine go_aload_n (show decode cX0_adopt 105 = .ok (.aload_n 0, 1) by decide +kernel) (by rfl) ?_
  refine go_getRc (show decode cX0_adopt 106 = .ok (.getfield 12, 3) by decide +kernel) fl_X0_12 rfl hk0.1 (v := (a0 + 1)) hk0.2.1 ?_
  refine go_aload_n (show decode cX0_adopt 109 = .ok (.aload_n 0, 1) by decide +kernel) (by rfl) ?_
  refine go_getRc (show decode cX0_adopt 110 = .ok (.getfield 18, 3) by decide +kernel) fl_X0_18 rfl hk0.1 (v := (a0 + 3)) hk0.2.2.1 ?_
  obtain ⟨q1, h⟩ := h
  refine go_callV (d2 := d - 1) (M2 := MX1_copy) (n := 1) (ci := 1) (av := [vR (a0 + 3)]) (st := []) (show decode cX0_adopt 113 = .ok (.invokevirtual 49, 3) by decide +kernel) ml_X0_49 mt_X1_copy min_X1_copy mse_X1_copy (by decide) hk0.2.2.2.2.2.1.1 rfl (Nat.le_of_ble_eq_true rfl) (by omega) (ok_mono h (fun w2 S3 F4 G5 h => ?_))
  obtain ⟨e8, h⟩ := h
  replace e8 := e8.symm; subst e8
  obtain ⟨e9, h⟩ := h
  subst e9
  show Go d MX0_adopt 116 [some (vR a0), some (vI a1), some (vI a2), none] [] S F4 G5 Q
  exact go_vret (show decode cX0_adopt 116 = .ok (.return_, 1) by decide +kernel) rfl h
def V_X0_adopt_99 (d : Nat) (S : AS) (F : AF) (G : AG) (Q : AQ) (a0 : Nat) (a1 : Int) (a2 : Int) (a3 : Int) : Prop :=
  (r32 (a2 + 1)) ∧
  Go d MX0_adopt 20 [some (vR a0), some (vI a1), some (vI (a2 + 1)), none] [] S F G Q
theorem R_X0_adopt_99 {d : Nat} {S : AS} {F : AF} {G : AG} {Q : AQ} {a0 : Nat} {a1 : Int} {a2 : Int} {a3 : Int} (hk0 : AtAxis S a0) (h : V_X0_adopt_99 d S F G Q a0 a1 a2 a3) : Go d MX0_adopt 99 [some (vR a0), some (vI a1), some (vI a2), some (vI a3)] [] S F G Q := by
  unfold V_X0_adopt_99 at h
  obtain ⟨q1, h⟩ := h
  refine go_iinc (show decode cX0_adopt 99 = .ok (.iinc 2 1, 3) by decide +kernel) (by rfl) q1 (by decide) ?_
  show Go d MX0_adopt 102 [some (vR a0), some (vI a1), some (vI (a2 + 1)), some (vI a3)] [] S F G Q
  refine go_goto (tgt := 20) (show decode cX0_adopt 102 = .ok (.goto (-82), 3) by decide +kernel) (by decide) ?_
  refine go_clr 3 ?_
  exact h
def V_X0_adopt_71 (d : Nat) (S : AS) (F : AF) (G : AG) (Q : AQ) (a0 : Nat) (a1 : Int) (a2 : Int) (s0 : Int) : Prop :=
  ((s0 = 0) →
    V_X0_adopt_99 d S F G Q a0 a1 a2 s0) ∧
  ((¬ s0 = 0) →
    ((0 : Int) ≤ a2) ∧
    ((a2 : Int) < 105) ∧
    ((a1 ≤ G (a0 + 3 + 1) a2) →
      V_X0_adopt_99 d S F G Q a0 a1 a2 s0) ∧
    ((¬ a1 ≤ G (a0 + 3 + 1) a2) →
      (r32 ((F a0 4) + 1)) ∧
      ∀ F4 : AF, F4 = fu F a0 4 ((F a0 4) + 1) →
      V_X0_adopt_99 d S F4 G Q a0 a1 a2 s0))
theorem R_X0_adopt_71 {d : Nat} {S : AS} {F : AF} {G : AG} {Q : AQ} {a0 : Nat} {a1 : Int} {a2 : Int} {s0 : Int} (hk0 : AtAxis S a0) (h : V_X0_adopt_71 d S F G Q a0 a1 a2 s0) : Go d MX0_adopt 71 [some (vR a0), some (vI a1), some (vI a2), none] [vI s0] S F G Q := by
  unfold V_X0_adopt_71 at h
  refine go_istore_n (show decode cX0_adopt 71 = .ok (.istore_n 3, 1) by decide +kernel) (by decide) ?_
  show Go d MX0_adopt 72 [some (vR a0), some (vI a1), some (vI a2), some (vI s0)] [] S F G Q
  refine go_iload_n (show decode cX0_adopt 72 = .ok (.iload_n 3, 1) by decide +kernel) (by rfl) ?_
  obtain ⟨ht, hf⟩ := h
  refine go_ifeq (tgt := 99) (show decode cX0_adopt 73 = .ok (.ifCond .eq 26, 3) by decide +kernel) (by decide) (fun hc => ?_) (fun hc => ?_)
  · have h := ht hc
    exact R_X0_adopt_99 hk0 h
  · have h := hf hc
    refine go_aload_n (show decode cX0_adopt 76 = .ok (.aload_n 0, 1) by decide +kernel) (by rfl) ?_
    refine go_getRc (show decode cX0_adopt 77 = .ok (.getfield 18, 3) by decide +kernel) fl_X0_18 rfl hk0.1 (v := (a0 + 3)) hk0.2.2.1 ?_
    refine go_getRc (show decode cX0_adopt 80 = .ok (.getfield 42, 3) by decide +kernel) fl_X0_42 rfl hk0.2.2.2.2.2.2.1.1 (v := (a0 + 3 + 1)) hk0.2.2.2.2.2.2.1.2.1 ?_
    refine go_iload_n (show decode cX0_adopt 83 = .ok (.iload_n 2, 1) by decide +kernel) (by rfl) ?_
    obtain ⟨q1, h⟩ := h
    obtain ⟨q2, h⟩ := h
    refine go_iaload (show decode cX0_adopt 84 = .ok (.iaload, 1) by decide +kernel) hk0.2.2.2.2.2.2.1.2.2.1 q1 (lt_n (m := 105) q2 hk0.2.2.2.2.2.2.1.2.2.2) ?_
    refine go_iload_n (show decode cX0_adopt 85 = .ok (.iload_n 1, 1) by decide +kernel) (by rfl) ?_
    obtain ⟨ht, hf⟩ := h
    refine go_icmpge (tgt := 99) (show decode cX0_adopt 86 = .ok (.if_icmp .ge 13, 3) by decide +kernel) (by decide) (fun hc => ?_) (fun hc => ?_)
    · have h := ht hc
      exact R_X0_adopt_99 hk0 h
    · have h := hf hc
      refine go_aload_n (show decode cX0_adopt 89 = .ok (.aload_n 0, 1) by decide +kernel) (by rfl) ?_
      refine go_dup (show decode cX0_adopt 90 = .ok (.dup, 1) by decide +kernel) ?_
      refine go_getI (show decode cX0_adopt 91 = .ok (.getfield 32, 3) by decide +kernel) fl_X0_32 (Or.inl rfl) hk0.1 ?_
      refine go_iconst (show decode cX0_adopt 94 = .ok (.iconst 1, 1) by decide +kernel) (by decide) ?_
      obtain ⟨q3, h⟩ := h
      refine go_iadd (show decode cX0_adopt 95 = .ok (.iadd, 1) by decide +kernel) q3 ?_
      refine go_putI (show decode cX0_adopt 96 = .ok (.putfield 32, 3) by decide +kernel) fl_X0_32 rfl (Or.inl rfl) hk0.1 ?_
      obtain ⟨F4, F4e⟩ : ∃ F4 : AF, F4 = fu F a0 4 ((F a0 4) + 1) := ⟨_, rfl⟩
      have h := h F4 F4e
      rw [← F4e]
      exact R_X0_adopt_99 hk0 h
def V_X0_adopt_20 (d : Nat) (S : AS) (F : AF) (G : AG) (Q : AQ) (a0 : Nat) (a1 : Int) (a2 : Int) : Prop :=
  ((F (a0 + 3) 1 ≤ a2) →
    V_X0_adopt_105 d S F G Q a0 a1 a2) ∧
  ((¬ F (a0 + 3) 1 ≤ a2) →
    ((48 ≤ a2) →
      V_X0_adopt_105 d S F G Q a0 a1 a2) ∧
    ((¬ 48 ≤ a2) →
      ((0 : Int) ≤ a2) ∧
      ((a2 : Int) < 48) ∧
      ((0 : Int) ≤ G (a0 + 5) a2) ∧
      ((G (a0 + 5) a2 : Int) < 105) ∧
      ((a2 : Int) < 105) ∧
      ((G (a0 + 1 + 1) (G (a0 + 5) a2) = G (a0 + 3 + 1) a2) →
        V_X0_adopt_71 d S F G Q a0 a1 a2 0) ∧
      ((¬ G (a0 + 1 + 1) (G (a0 + 5) a2) = G (a0 + 3 + 1) a2) →
        V_X0_adopt_71 d S F G Q a0 a1 a2 1)))
theorem R_X0_adopt_20 {d : Nat} {S : AS} {F : AF} {G : AG} {Q : AQ} {a0 : Nat} {a1 : Int} {a2 : Int} (hk0 : AtAxis S a0) (h : V_X0_adopt_20 d S F G Q a0 a1 a2) : Go d MX0_adopt 20 [some (vR a0), some (vI a1), some (vI a2), none] [] S F G Q := by
  unfold V_X0_adopt_20 at h
  refine go_iload_n (show decode cX0_adopt 20 = .ok (.iload_n 2, 1) by decide +kernel) (by rfl) ?_
  refine go_aload_n (show decode cX0_adopt 21 = .ok (.aload_n 0, 1) by decide +kernel) (by rfl) ?_
  refine go_getRc (show decode cX0_adopt 22 = .ok (.getfield 18, 3) by decide +kernel) fl_X0_18 rfl hk0.1 (v := (a0 + 3)) hk0.2.2.1 ?_
  refine go_getI (show decode cX0_adopt 25 = .ok (.getfield 39, 3) by decide +kernel) fl_X0_39 (Or.inl rfl) hk0.2.2.2.2.2.2.1.1 ?_
  obtain ⟨ht, hf⟩ := h
  refine go_icmpge (tgt := 105) (show decode cX0_adopt 28 = .ok (.if_icmp .ge 77, 3) by decide +kernel) (by decide) (fun hc => ?_) (fun hc => ?_)
  · have h := ht hc
    exact R_X0_adopt_105 hk0 h
  · have h := hf hc
    refine go_iload_n (show decode cX0_adopt 31 = .ok (.iload_n 2, 1) by decide +kernel) (by rfl) ?_
    refine go_aload_n (show decode cX0_adopt 32 = .ok (.aload_n 0, 1) by decide +kernel) (by rfl) ?_
    refine go_getRc (show decode cX0_adopt 33 = .ok (.getfield 21, 3) by decide +kernel) fl_X0_21 rfl hk0.1 (v := (a0 + 5)) hk0.2.2.2.1 ?_
    refine go_alenc (show decode cX0_adopt 36 = .ok (.arraylength, 1) by decide +kernel) (by have h9 : sK S (a0 + 5) = 20 := hk0.2.2.2.2.2.2.2.1.1; omega) (z := 48) (by rw [hk0.2.2.2.2.2.2.2.1.2]; rfl) ?_
    obtain ⟨ht, hf⟩ := h
    refine go_icmpge (tgt := 105) (show decode cX0_adopt 37 = .ok (.if_icmp .ge 68, 3) by decide +kernel) (by decide) (fun hc => ?_) (fun hc => ?_)
    · have h := ht hc
      exact R_X0_adopt_105 hk0 h
    · have h := hf hc
      refine go_aload_n (show decode cX0_adopt 40 = .ok (.aload_n 0, 1) by decide +kernel) (by rfl) ?_
      refine go_getRc (show decode cX0_adopt 41 = .ok (.getfield 12, 3) by decide +kernel) fl_X0_12 rfl hk0.1 (v := (a0 + 1)) hk0.2.1 ?_
      refine go_getRc (show decode cX0_adopt 44 = .ok (.getfield 42, 3) by decide +kernel) fl_X0_42 rfl hk0.2.2.2.2.2.1.1 (v := (a0 + 1 + 1)) hk0.2.2.2.2.2.1.2.1 ?_
      refine go_aload_n (show decode cX0_adopt 47 = .ok (.aload_n 0, 1) by decide +kernel) (by rfl) ?_
      refine go_getRc (show decode cX0_adopt 48 = .ok (.getfield 21, 3) by decide +kernel) fl_X0_21 rfl hk0.1 (v := (a0 + 5)) hk0.2.2.2.1 ?_
      refine go_iload_n (show decode cX0_adopt 51 = .ok (.iload_n 2, 1) by decide +kernel) (by rfl) ?_
      obtain ⟨q1, h⟩ := h
      obtain ⟨q2, h⟩ := h
      refine go_iaload (show decode cX0_adopt 52 = .ok (.iaload, 1) by decide +kernel) hk0.2.2.2.2.2.2.2.1.1 q1 (lt_n (m := 48) q2 hk0.2.2.2.2.2.2.2.1.2) ?_
      obtain ⟨q3, h⟩ := h
      obtain ⟨q4, h⟩ := h
      refine go_iaload (show decode cX0_adopt 53 = .ok (.iaload, 1) by decide +kernel) hk0.2.2.2.2.2.1.2.2.1 q3 (lt_n (m := 105) q4 hk0.2.2.2.2.2.1.2.2.2) ?_
      refine go_aload_n (show decode cX0_adopt 54 = .ok (.aload_n 0, 1) by decide +kernel) (by rfl) ?_
      refine go_getRc (show decode cX0_adopt 55 = .ok (.getfield 18, 3) by decide +kernel) fl_X0_18 rfl hk0.1 (v := (a0 + 3)) hk0.2.2.1 ?_
      refine go_getRc (show decode cX0_adopt 58 = .ok (.getfield 42, 3) by decide +kernel) fl_X0_42 rfl hk0.2.2.2.2.2.2.1.1 (v := (a0 + 3 + 1)) hk0.2.2.2.2.2.2.1.2.1 ?_
      refine go_iload_n (show decode cX0_adopt 61 = .ok (.iload_n 2, 1) by decide +kernel) (by rfl) ?_
      obtain ⟨q5, h⟩ := h
      refine go_iaload (show decode cX0_adopt 62 = .ok (.iaload, 1) by decide +kernel) hk0.2.2.2.2.2.2.1.2.2.1 q1 (lt_n (m := 105) q5 hk0.2.2.2.2.2.2.1.2.2.2) ?_
      obtain ⟨ht, hf⟩ := h
      refine go_icmpeq (tgt := 70) (show decode cX0_adopt 63 = .ok (.if_icmp .eq 7, 3) by decide +kernel) (by decide) (fun hc => ?_) (fun hc => ?_)
      · have h := ht hc
        refine go_iconst (show decode cX0_adopt 70 = .ok (.iconst 0, 1) by decide +kernel) (by decide) ?_
        exact R_X0_adopt_71 hk0 h
      · have h := hf hc
        refine go_iconst (show decode cX0_adopt 66 = .ok (.iconst 1, 1) by decide +kernel) (by decide) ?_
        refine go_goto (tgt := 71) (show decode cX0_adopt 67 = .ok (.goto 4, 3) by decide +kernel) (by decide) ?_
        exact R_X0_adopt_71 hk0 h
def V_X0_adopt_0 (d : Nat) (S : AS) (F : AF) (G : AG) (Q : AQ) (a0 : Nat) : Prop :=
  (r32 ((F (a0 + 1) 1) - 1)) ∧
  ((0 : Int) ≤ (F (a0 + 1) 1) - 1) ∧
  (((F (a0 + 1) 1) - 1 : Int) < 105) ∧
  ∀ x4 : Int, x4 = G (a0 + 1 + 1) ((F (a0 + 1) 1) - 1) →
  Go d MX0_adopt 20 [some (vR a0), some (vI x4), some (vI 0), none] [] S F G Q
theorem R_X0_adopt_0 {d : Nat} {S : AS} {F : AF} {G : AG} {Q : AQ} {a0 : Nat} (hk0 : AtAxis S a0) (h : V_X0_adopt_0 d S F G Q a0) : Go d MX0_adopt 0 [some (vR a0), none, none, none] [] S F G Q := by
  unfold V_X0_adopt_0 at h
  refine go_aload_n (show decode cX0_adopt 0 = .ok (.aload_n 0, 1) by decide +kernel) (by rfl) ?_
  refine go_getRc (show decode cX0_adopt 1 = .ok (.getfield 12, 3) by decide +kernel) fl_X0_12 rfl hk0.1 (v := (a0 + 1)) hk0.2.1 ?_
  refine go_getRc (show decode cX0_adopt 4 = .ok (.getfield 42, 3) by decide +kernel) fl_X0_42 rfl hk0.2.2.2.2.2.1.1 (v := (a0 + 1 + 1)) hk0.2.2.2.2.2.1.2.1 ?_
  refine go_aload_n (show decode cX0_adopt 7 = .ok (.aload_n 0, 1) by decide +kernel) (by rfl) ?_
  refine go_getRc (show decode cX0_adopt 8 = .ok (.getfield 12, 3) by decide +kernel) fl_X0_12 rfl hk0.1 (v := (a0 + 1)) hk0.2.1 ?_
  refine go_getI (show decode cX0_adopt 11 = .ok (.getfield 39, 3) by decide +kernel) fl_X0_39 (Or.inl rfl) hk0.2.2.2.2.2.1.1 ?_
  refine go_iconst (show decode cX0_adopt 14 = .ok (.iconst 1, 1) by decide +kernel) (by decide) ?_
  obtain ⟨q1, h⟩ := h
  refine go_isub (show decode cX0_adopt 15 = .ok (.isub, 1) by decide +kernel) q1 ?_
  obtain ⟨q2, h⟩ := h
  obtain ⟨q3, h⟩ := h
  refine go_iaload (show decode cX0_adopt 16 = .ok (.iaload, 1) by decide +kernel) hk0.2.2.2.2.2.1.2.2.1 q2 (lt_n (m := 105) q3 hk0.2.2.2.2.2.1.2.2.2) ?_
  obtain ⟨x4, x4e⟩ : ∃ x4 : Int, x4 = G (a0 + 1 + 1) ((F (a0 + 1) 1) - 1) := ⟨_, rfl⟩
  have h := h x4 x4e
  rw [← x4e]
  refine go_istore_n (show decode cX0_adopt 17 = .ok (.istore_n 1, 1) by decide +kernel) (by decide) ?_
  show Go d MX0_adopt 18 [some (vR a0), some (vI x4), none, none] [] S F G Q
  refine go_iconst (show decode cX0_adopt 18 = .ok (.iconst 0, 1) by decide +kernel) (by decide) ?_
  refine go_istore_n (show decode cX0_adopt 19 = .ok (.istore_n 2, 1) by decide +kernel) (by decide) ?_
  show Go d MX0_adopt 20 [some (vR a0), some (vI x4), some (vI 0), none] [] S F G Q
  exact h
def V_X0_planShifted_62 (d : Nat) (S : AS) (F : AF) (G : AG) (Q : AQ) (a0 : Nat) (a1 : Int) (a2 : Int) (a3 : Int) (a4 : Int) : Prop :=
  (r32 (a4 + 1)) ∧
  Go d MX0_planShifted 3 [some (vR a0), some (vI a1), some (vI a2), some (vI a3), some (vI (a4 + 1))] [] S F G Q
theorem R_X0_planShifted_62 {d : Nat} {S : AS} {F : AF} {G : AG} {Q : AQ} {a0 : Nat} {a1 : Int} {a2 : Int} {a3 : Int} {a4 : Int} (hk0 : AtAxis S a0) (h : V_X0_planShifted_62 d S F G Q a0 a1 a2 a3 a4) : Go d MX0_planShifted 62 [some (vR a0), some (vI a1), some (vI a2), some (vI a3), some (vI a4)] [] S F G Q := by
  unfold V_X0_planShifted_62 at h
  obtain ⟨q1, h⟩ := h
  refine go_iinc (show decode cX0_planShifted 62 = .ok (.iinc 4 1, 3) by decide +kernel) (by rfl) q1 (by decide) ?_
  show Go d MX0_planShifted 65 [some (vR a0), some (vI a1), some (vI a2), some (vI a3), some (vI (a4 + 1))] [] S F G Q
  refine go_goto (tgt := 3) (show decode cX0_planShifted 65 = .ok (.goto (-62), 3) by decide +kernel) (by decide) ?_
  exact h
def V_X0_planShifted_3 (d : Nat) (S : AS) (F : AF) (G : AG) (Q : AQ) (a0 : Nat) (a1 : Int) (a2 : Int) (a3 : Int) (a4 : Int) : Prop :=
  ((F (a0 + 1) 1 ≤ a4) →
    Q none S F G) ∧
  ((¬ F (a0 + 1) 1 ≤ a4) →
    ((0 : Int) ≤ a4) ∧
    ((a4 : Int) < 105) ∧
    ((G (a0 + 1 + 1) a4 ≤ a1) →
      V_X0_planShifted_62 d S F G Q a0 a1 a2 a3 a4) ∧
    ((¬ G (a0 + 1 + 1) a4 ≤ a1) →
      ((a2 < G (a0 + 1 + 1) a4) →
        V_X0_planShifted_62 d S F G Q a0 a1 a2 a3 a4) ∧
      ((¬ a2 < G (a0 + 1 + 1) a4) →
        (r32 ((G (a0 + 1 + 1) a4) + a3)) ∧
        (1 ≤ d) ∧
        Ok (d - 1) MX1_put [vR (a0 + 3), vI ((G (a0 + 1 + 1) a4) + a3)] S F G (fun w5 S6 F7 G8 =>
        S6 = S ∧
        w5 = none ∧
        V_X0_planShifted_62 d S F7 G8 Q a0 a1 a2 a3 a4))))
theorem R_X0_planShifted_3 {d : Nat} {S : AS} {F : AF} {G : AG} {Q : AQ} {a0 : Nat} {a1 : Int} {a2 : Int} {a3 : Int} {a4 : Int} (hk0 : AtAxis S a0) (h : V_X0_planShifted_3 d S F G Q a0 a1 a2 a3 a4) : Go d MX0_planShifted 3 [some (vR a0), some (vI a1), some (vI a2), some (vI a3), some (vI a4)] [] S F G Q := by
  unfold V_X0_planShifted_3 at h
  refine go_iload (show decode cX0_planShifted 3 = .ok (.iload 4, 2) by decide +kernel) (by rfl) ?_
  refine go_aload_n (show decode cX0_planShifted 5 = .ok (.aload_n 0, 1) by decide +kernel) (by rfl) ?_
  refine go_getRc (show decode cX0_planShifted 6 = .ok (.getfield 12, 3) by decide +kernel) fl_X0_12 rfl hk0.1 (v := (a0 + 1)) hk0.2.1 ?_
  refine go_getI (show decode cX0_planShifted 9 = .ok (.getfield 39, 3) by decide +kernel) fl_X0_39 (Or.inl rfl) hk0.2.2.2.2.2.1.1 ?_
  obtain ⟨ht, hf⟩ := h
  refine go_icmpge (tgt := 68) (show decode cX0_planShifted 12 = .ok (.if_icmp .ge 56, 3) by decide +kernel) (by decide) (fun hc => ?_) (fun hc => ?_)
  · have h := ht hc
    exact go_vret (show decode cX0_planShifted 68 = .ok (.return_, 1) by decide +kernel) rfl h
  · have h := hf hc
    refine go_aload_n (show decode cX0_planShifted 15 = .ok (.aload_n 0, 1) by decide +kernel) (by rfl) ?_
    refine go_getRc (show decode cX0_planShifted 16 = .ok (.getfield 12, 3) by decide +kernel) fl_X0_12 rfl hk0.1 (v := (a0 + 1)) hk0.2.1 ?_
    refine go_getRc (show decode cX0_planShifted 19 = .ok (.getfield 42, 3) by decide +kernel) fl_X0_42 rfl hk0.2.2.2.2.2.1.1 (v := (a0 + 1 + 1)) hk0.2.2.2.2.2.1.2.1 ?_
    refine go_iload (show decode cX0_planShifted 22 = .ok (.iload 4, 2) by decide +kernel) (by rfl) ?_
    obtain ⟨q1, h⟩ := h
    obtain ⟨q2, h⟩ := h
    refine go_iaload (show decode cX0_planShifted 24 = .ok (.iaload, 1) by decide +kernel) hk0.2.2.2.2.2.1.2.2.1 q1 (lt_n (m := 105) q2 hk0.2.2.2.2.2.1.2.2.2) ?_
    refine go_iload_n (show decode cX0_planShifted 25 = .ok (.iload_n 1, 1) by decide +kernel) (by rfl) ?_
    obtain ⟨ht, hf⟩ := h
    refine go_icmple (tgt := 62) (show decode cX0_planShifted 26 = .ok (.if_icmp .le 36, 3) by decide +kernel) (by decide) (fun hc => ?_) (fun hc => ?_)
    · have h := ht hc
      exact R_X0_planShifted_62 hk0 h
    · have h := hf hc
      refine go_aload_n (show decode cX0_planShifted 29 = .ok (.aload_n 0, 1) by decide +kernel) (by rfl) ?_
      refine go_getRc (show decode cX0_planShifted 30 = .ok (.getfield 12, 3) by decide +kernel) fl_X0_12 rfl hk0.1 (v := (a0 + 1)) hk0.2.1 ?_
      refine go_getRc (show decode cX0_planShifted 33 = .ok (.getfield 42, 3) by decide +kernel) fl_X0_42 rfl hk0.2.2.2.2.2.1.1 (v := (a0 + 1 + 1)) hk0.2.2.2.2.2.1.2.1 ?_
      refine go_iload (show decode cX0_planShifted 36 = .ok (.iload 4, 2) by decide +kernel) (by rfl) ?_
      refine go_iaload (show decode cX0_planShifted 38 = .ok (.iaload, 1) by decide +kernel) hk0.2.2.2.2.2.1.2.2.1 q1 (lt_n (m := 105) q2 hk0.2.2.2.2.2.1.2.2.2) ?_
      refine go_iload_n (show decode cX0_planShifted 39 = .ok (.iload_n 2, 1) by decide +kernel) (by rfl) ?_
      obtain ⟨ht, hf⟩ := h
      refine go_icmpgt (tgt := 62) (show decode cX0_planShifted 40 = .ok (.if_icmp .gt 22, 3) by decide +kernel) (by decide) (fun hc => ?_) (fun hc => ?_)
      · have h := ht hc
        exact R_X0_planShifted_62 hk0 h
      · have h := hf hc
        refine go_aload_n (show decode cX0_planShifted 43 = .ok (.aload_n 0, 1) by decide +kernel) (by rfl) ?_
        refine go_getRc (show decode cX0_planShifted 44 = .ok (.getfield 18, 3) by decide +kernel) fl_X0_18 rfl hk0.1 (v := (a0 + 3)) hk0.2.2.1 ?_
        refine go_aload_n (show decode cX0_planShifted 47 = .ok (.aload_n 0, 1) by decide +kernel) (by rfl) ?_
        refine go_getRc (show decode cX0_planShifted 48 = .ok (.getfield 12, 3) by decide +kernel) fl_X0_12 rfl hk0.1 (v := (a0 + 1)) hk0.2.1 ?_
        refine go_getRc (show decode cX0_planShifted 51 = .ok (.getfield 42, 3) by decide +kernel) fl_X0_42 rfl hk0.2.2.2.2.2.1.1 (v := (a0 + 1 + 1)) hk0.2.2.2.2.2.1.2.1 ?_
        refine go_iload (show decode cX0_planShifted 54 = .ok (.iload 4, 2) by decide +kernel) (by rfl) ?_
        refine go_iaload (show decode cX0_planShifted 56 = .ok (.iaload, 1) by decide +kernel) hk0.2.2.2.2.2.1.2.2.1 q1 (lt_n (m := 105) q2 hk0.2.2.2.2.2.1.2.2.2) ?_
        refine go_iload_n (show decode cX0_planShifted 57 = .ok (.iload_n 3, 1) by decide +kernel) (by rfl) ?_
        obtain ⟨q3, h⟩ := h
        refine go_iadd (show decode cX0_planShifted 58 = .ok (.iadd, 1) by decide +kernel) q3 ?_
        obtain ⟨q4, h⟩ := h
        refine go_callV (d2 := d - 1) (M2 := MX1_put) (n := 1) (ci := 1) (av := [vI ((G (a0 + 1 + 1) a4) + a3)]) (st := []) (show decode cX0_planShifted 59 = .ok (.invokevirtual 36, 3) by decide +kernel) ml_X0_36 mt_X1_put min_X1_put mse_X1_put (by decide) hk0.2.2.2.2.2.2.1.1 rfl (Nat.le_of_ble_eq_true rfl) (by omega) (ok_mono h (fun w5 S6 F7 G8 h => ?_))
        obtain ⟨e8, h⟩ := h
        replace e8 := e8.symm; subst e8
        obtain ⟨e9, h⟩ := h
        subst e9
        show Go d MX0_planShifted 62 [some (vR a0), some (vI a1), some (vI a2), some (vI a3), some (vI a4)] [] S F7 G8 Q
        exact R_X0_planShifted_62 hk0 h
def V_X0_planShifted_0 (d : Nat) (S : AS) (F : AF) (G : AG) (Q : AQ) (a0 : Nat) (a1 : Int) (a2 : Int) (a3 : Int) : Prop :=
  Go d MX0_planShifted 3 [some (vR a0), some (vI a1), some (vI a2), some (vI a3), some (vI 0)] [] S F G Q
theorem R_X0_planShifted_0 {d : Nat} {S : AS} {F : AF} {G : AG} {Q : AQ} {a0 : Nat} {a1 : Int} {a2 : Int} {a3 : Int} (hk0 : AtAxis S a0) (h : V_X0_planShifted_0 d S F G Q a0 a1 a2 a3) : Go d MX0_planShifted 0 [some (vR a0), some (vI a1), some (vI a2), some (vI a3), none] [] S F G Q := by
  unfold V_X0_planShifted_0 at h
  refine go_iconst (show decode cX0_planShifted 0 = .ok (.iconst 0, 1) by decide +kernel) (by decide) ?_
  refine go_istore (show decode cX0_planShifted 1 = .ok (.istore 4, 2) by decide +kernel) (by decide) ?_
  show Go d MX0_planShifted 3 [some (vR a0), some (vI a1), some (vI a2), some (vI a3), some (vI 0)] [] S F G Q
  exact h
def V_X0_traceSources_70 (d : Nat) (S : AS) (F : AF) (G : AG) (Q : AQ) (a0 : Nat) (a1 : Int) (a2 : Int) (a3 : Int) (a4 : Int) (a5 : Int) (s0 : Int) (s1 : Int) (s2 : Nat) : Prop :=
  ((0 : Int) ≤ s1) ∧
  ((s1 : Int) < (sN S s2 : Int)) ∧
  ∀ G3 : AG, G3 = gu G s2 s1 s0 →
  (r32 (a4 + 1)) ∧
  Go d MX0_traceSources 3 [some (vR a0), some (vI a1), some (vI a2), some (vI a3), some (vI (a4 + 1)), none] [] S F G3 Q
theorem R_X0_traceSources_70 {d : Nat} {S : AS} {F : AF} {G : AG} {Q : AQ} {a0 : Nat} {a1 : Int} {a2 : Int} {a3 : Int} {a4 : Int} {a5 : Int} {s0 : Int} {s1 : Int} {s2 : Nat} (hk0 : AtAxis S a0) (hs2 : AtI S s2) (h : V_X0_traceSources_70 d S F G Q a0 a1 a2 a3 a4 a5 s0 s1 s2) : Go d MX0_traceSources 70 [some (vR a0), some (vI a1), some (vI a2), some (vI a3), some (vI a4), some (vI a5)] [vI s0, vI s1, vR s2] S F G Q := by
  unfold V_X0_traceSources_70 at h
  obtain ⟨q1, h⟩ := h
  obtain ⟨q2, h⟩ := h
  refine go_iastore (show decode cX0_traceSources 70 = .ok (.iastore, 1) by decide +kernel) hs2 q1 q2  ?_
  obtain ⟨G3, G3e⟩ : ∃ G3 : AG, G3 = gu G s2 s1 s0 := ⟨_, rfl⟩
  have h := h G3 G3e
  rw [← G3e]
  obtain ⟨q4, h⟩ := h
  refine go_iinc (show decode cX0_traceSources 71 = .ok (.iinc 4 1, 3) by decide +kernel) (by rfl) q4 (by decide) ?_
  show Go d MX0_traceSources 74 [some (vR a0), some (vI a1), some (vI a2), some (vI a3), some (vI (a4 + 1)), some (vI a5)] [] S F G3 Q
  refine go_goto (tgt := 3) (show decode cX0_traceSources 74 = .ok (.goto (-71), 3) by decide +kernel) (by decide) ?_
  refine go_clr 5 ?_
  exact h
def V_X0_traceSources_69 (d : Nat) (S : AS) (F : AF) (G : AG) (Q : AQ) (a0 : Nat) (a1 : Int) (a2 : Int) (a3 : Int) (a4 : Int) (a5 : Int) (s0 : Int) (s1 : Nat) : Prop :=
  V_X0_traceSources_70 d S F G Q a0 a1 a2 a3 a4 a5 (-1) s0 s1
theorem R_X0_traceSources_69 {d : Nat} {S : AS} {F : AF} {G : AG} {Q : AQ} {a0 : Nat} {a1 : Int} {a2 : Int} {a3 : Int} {a4 : Int} {a5 : Int} {s0 : Int} {s1 : Nat} (hk0 : AtAxis S a0) (hs1 : AtI S s1) (h : V_X0_traceSources_69 d S F G Q a0 a1 a2 a3 a4 a5 s0 s1) : Go d MX0_traceSources 69 [some (vR a0), some (vI a1), some (vI a2), some (vI a3), some (vI a4), some (vI a5)] [vI s0, vR s1] S F G Q := by
  unfold V_X0_traceSources_69 at h
  refine go_iconst (show decode cX0_traceSources 69 = .ok (.iconst (-1), 1) by decide +kernel) (by decide) ?_
  exact R_X0_traceSources_70 hk0 hs1 h
def V_X0_traceSources_3 (d : Nat) (S : AS) (F : AF) (G : AG) (Q : AQ) (a0 : Nat) (a1 : Int) (a2 : Int) (a3 : Int) (a4 : Int) : Prop :=
  ((F (a0 + 3) 1 ≤ a4) →
    Q none S F G) ∧
  ((¬ F (a0 + 3) 1 ≤ a4) →
    ((48 ≤ a4) →
      Q none S F G) ∧
    ((¬ 48 ≤ a4) →
      ((0 : Int) ≤ a4) ∧
      ((a4 : Int) < 105) ∧
      (r32 ((G (a0 + 3 + 1) a4) - a3)) ∧
      ∀ x4 : Int, x4 = (G (a0 + 3 + 1) a4) - a3 →
      ((x4 < a1) →
        V_X0_traceSources_69 d S F G Q a0 a1 a2 a3 a4 x4 a4 (a0 + 6)) ∧
      ((¬ x4 < a1) →
        ((a2 < x4) →
          V_X0_traceSources_69 d S F G Q a0 a1 a2 a3 a4 x4 a4 (a0 + 6)) ∧
        ((¬ a2 < x4) →
          (1 ≤ d) ∧
          ∃ z10 : Int, Pu (d - 1) MX1_bandOf [vR (a0 + 1), vI x4] S F G (some (vI z10)) ∧
          V_X0_traceSources_70 d S F G Q a0 a1 a2 a3 a4 x4 z10 a4 (a0 + 6)))))
theorem R_X0_traceSources_3 {d : Nat} {S : AS} {F : AF} {G : AG} {Q : AQ} {a0 : Nat} {a1 : Int} {a2 : Int} {a3 : Int} {a4 : Int} (hk0 : AtAxis S a0) (h : V_X0_traceSources_3 d S F G Q a0 a1 a2 a3 a4) : Go d MX0_traceSources 3 [some (vR a0), some (vI a1), some (vI a2), some (vI a3), some (vI a4), none] [] S F G Q := by
  unfold V_X0_traceSources_3 at h
  refine go_iload (show decode cX0_traceSources 3 = .ok (.iload 4, 2) by decide +kernel) (by rfl) ?_
  refine go_aload_n (show decode cX0_traceSources 5 = .ok (.aload_n 0, 1) by decide +kernel) (by rfl) ?_
  refine go_getRc (show decode cX0_traceSources 6 = .ok (.getfield 18, 3) by decide +kernel) fl_X0_18 rfl hk0.1 (v := (a0 + 3)) hk0.2.2.1 ?_
  refine go_getI (show decode cX0_traceSources 9 = .ok (.getfield 39, 3) by decide +kernel) fl_X0_39 (Or.inl rfl) hk0.2.2.2.2.2.2.1.1 ?_
  obtain ⟨ht, hf⟩ := h
  refine go_icmpge (tgt := 77) (show decode cX0_traceSources 12 = .ok (.if_icmp .ge 65, 3) by decide +kernel) (by decide) (fun hc => ?_) (fun hc => ?_)
  · have h := ht hc
    exact go_vret (show decode cX0_traceSources 77 = .ok (.return_, 1) by decide +kernel) rfl h
  · have h := hf hc
    refine go_iload (show decode cX0_traceSources 15 = .ok (.iload 4, 2) by decide +kernel) (by rfl) ?_
    refine go_aload_n (show decode cX0_traceSources 17 = .ok (.aload_n 0, 1) by decide +kernel) (by rfl) ?_
    refine go_getRc (show decode cX0_traceSources 18 = .ok (.getfield 25, 3) by decide +kernel) fl_X0_25 rfl hk0.1 (v := (a0 + 6)) hk0.2.2.2.2.1 ?_
    refine go_alenc (show decode cX0_traceSources 21 = .ok (.arraylength, 1) by decide +kernel) (by have h9 : sK S (a0 + 6) = 20 := hk0.2.2.2.2.2.2.2.2.1; omega) (z := 48) (by rw [hk0.2.2.2.2.2.2.2.2.2]; rfl) ?_
    obtain ⟨ht, hf⟩ := h
    refine go_icmpge (tgt := 77) (show decode cX0_traceSources 22 = .ok (.if_icmp .ge 55, 3) by decide +kernel) (by decide) (fun hc => ?_) (fun hc => ?_)
    · have h := ht hc
      exact go_vret (show decode cX0_traceSources 77 = .ok (.return_, 1) by decide +kernel) rfl h
    · have h := hf hc
      refine go_aload_n (show decode cX0_traceSources 25 = .ok (.aload_n 0, 1) by decide +kernel) (by rfl) ?_
      refine go_getRc (show decode cX0_traceSources 26 = .ok (.getfield 18, 3) by decide +kernel) fl_X0_18 rfl hk0.1 (v := (a0 + 3)) hk0.2.2.1 ?_
      refine go_getRc (show decode cX0_traceSources 29 = .ok (.getfield 42, 3) by decide +kernel) fl_X0_42 rfl hk0.2.2.2.2.2.2.1.1 (v := (a0 + 3 + 1)) hk0.2.2.2.2.2.2.1.2.1 ?_
      refine go_iload (show decode cX0_traceSources 32 = .ok (.iload 4, 2) by decide +kernel) (by rfl) ?_
      obtain ⟨q1, h⟩ := h
      obtain ⟨q2, h⟩ := h
      refine go_iaload (show decode cX0_traceSources 34 = .ok (.iaload, 1) by decide +kernel) hk0.2.2.2.2.2.2.1.2.2.1 q1 (lt_n (m := 105) q2 hk0.2.2.2.2.2.2.1.2.2.2) ?_
      refine go_iload_n (show decode cX0_traceSources 35 = .ok (.iload_n 3, 1) by decide +kernel) (by rfl) ?_
      obtain ⟨q3, h⟩ := h
      refine go_isub (show decode cX0_traceSources 36 = .ok (.isub, 1) by decide +kernel) q3 ?_
      obtain ⟨x4, x4e⟩ : ∃ x4 : Int, x4 = (G (a0 + 3 + 1) a4) - a3 := ⟨_, rfl⟩
      have h := h x4 x4e
      rw [← x4e]
      refine go_istore (show decode cX0_traceSources 37 = .ok (.istore 5, 2) by decide +kernel) (by decide) ?_
      show Go d MX0_traceSources 39 [some (vR a0), some (vI a1), some (vI a2), some (vI a3), some (vI a4), some (vI x4)] [] S F G Q
      refine go_aload_n (show decode cX0_traceSources 39 = .ok (.aload_n 0, 1) by decide +kernel) (by rfl) ?_
      refine go_getRc (show decode cX0_traceSources 40 = .ok (.getfield 25, 3) by decide +kernel) fl_X0_25 rfl hk0.1 (v := (a0 + 6)) hk0.2.2.2.2.1 ?_
      refine go_iload (show decode cX0_traceSources 43 = .ok (.iload 4, 2) by decide +kernel) (by rfl) ?_
      refine go_iload (show decode cX0_traceSources 45 = .ok (.iload 5, 2) by decide +kernel) (by rfl) ?_
      refine go_iload_n (show decode cX0_traceSources 47 = .ok (.iload_n 1, 1) by decide +kernel) (by rfl) ?_
      obtain ⟨ht, hf⟩ := h
      refine go_icmplt (tgt := 69) (show decode cX0_traceSources 48 = .ok (.if_icmp .lt 21, 3) by decide +kernel) (by decide) (fun hc => ?_) (fun hc => ?_)
      · have h := ht hc
        exact R_X0_traceSources_69 hk0 hk0.2.2.2.2.2.2.2.2.1 h
      · have h := hf hc
        refine go_iload (show decode cX0_traceSources 51 = .ok (.iload 5, 2) by decide +kernel) (by rfl) ?_
        refine go_iload_n (show decode cX0_traceSources 53 = .ok (.iload_n 2, 1) by decide +kernel) (by rfl) ?_
        obtain ⟨ht, hf⟩ := h
        refine go_icmpgt (tgt := 69) (show decode cX0_traceSources 54 = .ok (.if_icmp .gt 15, 3) by decide +kernel) (by decide) (fun hc => ?_) (fun hc => ?_)
        · have h := ht hc
          exact R_X0_traceSources_69 hk0 hk0.2.2.2.2.2.2.2.2.1 h
        · have h := hf hc
          refine go_aload_n (show decode cX0_traceSources 57 = .ok (.aload_n 0, 1) by decide +kernel) (by rfl) ?_
          refine go_getRc (show decode cX0_traceSources 58 = .ok (.getfield 12, 3) by decide +kernel) fl_X0_12 rfl hk0.1 (v := (a0 + 1)) hk0.2.1 ?_
          refine go_iload (show decode cX0_traceSources 61 = .ok (.iload 5, 2) by decide +kernel) (by rfl) ?_
          obtain ⟨q5, h⟩ := h
          obtain ⟨z10, p11, h⟩ := h
          refine go_callV (d2 := d - 1) (M2 := MX1_bandOf) (n := 1) (ci := 1) (av := [vI x4]) (st := [vI a4, vR (a0 + 6)]) (show decode cX0_traceSources 63 = .ok (.invokevirtual 45, 3) by decide +kernel) ml_X0_45 mt_X1_bandOf min_X1_bandOf mse_X1_bandOf (by decide) hk0.2.2.2.2.2.1.1 rfl (Nat.le_of_ble_eq_true rfl) (by omega) (ok_mono p11 (fun w6 S7 F8 G9 e9 => ?_))
          obtain ⟨e1, e2, e3, e4⟩ := e9
          subst e1
          replace e2 := e2.symm; subst e2
          replace e3 := e3.symm; subst e3
          replace e4 := e4.symm; subst e4
          show Go d MX0_traceSources 66 [some (vR a0), some (vI a1), some (vI a2), some (vI a3), some (vI a4), some (vI x4)] [vI z10, vI a4, vR (a0 + 6)] S F G Q
          refine go_goto (tgt := 70) (show decode cX0_traceSources 66 = .ok (.goto 4, 3) by decide +kernel) (by decide) ?_
          exact R_X0_traceSources_70 hk0 hk0.2.2.2.2.2.2.2.2.1 h
def V_X0_traceSources_0 (d : Nat) (S : AS) (F : AF) (G : AG) (Q : AQ) (a0 : Nat) (a1 : Int) (a2 : Int) (a3 : Int) : Prop :=
  Go d MX0_traceSources 3 [some (vR a0), some (vI a1), some (vI a2), some (vI a3), some (vI 0), none] [] S F G Q
theorem R_X0_traceSources_0 {d : Nat} {S : AS} {F : AF} {G : AG} {Q : AQ} {a0 : Nat} {a1 : Int} {a2 : Int} {a3 : Int} (hk0 : AtAxis S a0) (h : V_X0_traceSources_0 d S F G Q a0 a1 a2 a3) : Go d MX0_traceSources 0 [some (vR a0), some (vI a1), some (vI a2), some (vI a3), none, none] [] S F G Q := by
  unfold V_X0_traceSources_0 at h
  refine go_iconst (show decode cX0_traceSources 0 = .ok (.iconst 0, 1) by decide +kernel) (by decide) ?_
  refine go_istore (show decode cX0_traceSources 1 = .ok (.istore 4, 2) by decide +kernel) (by decide) ?_
  show Go d MX0_traceSources 3 [some (vR a0), some (vI a1), some (vI a2), some (vI a3), some (vI 0), none] [] S F G Q
  exact h
set_option maxRecDepth 50000 in
def V_X5_init_30 (d : Nat) (S : AS) (F : AF) (G : AG) (Q : AQ) (a0 : Nat) : Prop :=
  (sn S < 999998) ∧
  ∀ x2 : Nat, x2 = sn S + 1 →
  ∀ S3 : AS, S3 = na S 21 30 30 →
  ∀ F4 : AF, F4 = nF S F →
  ∀ G5 : AG, G5 = nG S G →
  (sK S3 a0 = 5) ∧
  (x2 ≤ sn S3) ∧
  ∀ S8 : AS, S8 = ru S3 a0 8 x2 →
  (sK S8 a0 = 5) ∧
  ∀ F10 : AF, F10 = fu F4 a0 11 (-1) →
  Q none S8 F10 G5
set_option maxRecDepth 50000 in
theorem R_X5_init_30 {d : Nat} {S : AS} {F : AF} {G : AG} {Q : AQ} {a0 : Nat} (h : V_X5_init_30 d S F G Q a0) : Go d MX5_init 30 [some (vR a0)] [] S F G Q := by
  unfold V_X5_init_30 at h
  refine go_aload_n (show decode cX5_init 30 = .ok (.aload_n 0, 1) by decide +kernel) (by rfl) ?_
  refine go_bipush (show decode cX5_init 31 = .ok (.bipush 30, 2) by decide +kernel) (by decide) ?_
  obtain ⟨q1, h⟩ := h
  refine go_newa (K := 21) (show decode cX5_init 33 = .ok (.newarray .long, 2) by decide +kernel) rfl (by decide) ar_21 (by decide) (by decide) q1 ?_
  show Go d MX5_init 35 [some (vR a0)] [vR (sn S + 1), vR a0] (na S 21 30 30) (nF S F) (nG S G) Q
  obtain ⟨x2, x2e⟩ : ∃ x2 : Nat, x2 = sn S + 1 := ⟨_, rfl⟩
  have h := h x2 x2e
  rw [← x2e]
  obtain ⟨S3, S3e⟩ : ∃ S3 : AS, S3 = na S 21 30 30 := ⟨_, rfl⟩
  have h := h S3 S3e
  rw [← S3e]
  obtain ⟨F4, F4e⟩ : ∃ F4 : AF, F4 = nF S F := ⟨_, rfl⟩
  have h := h F4 F4e
  rw [← F4e]
  obtain ⟨G5, G5e⟩ : ∃ G5 : AG, G5 = nG S G := ⟨_, rfl⟩
  have h := h G5 G5e
  rw [← G5e]
  obtain ⟨q6, h⟩ := h
  obtain ⟨q7, h⟩ := h
  refine go_putR (show decode cX5_init 35 = .ok (.putfield 22, 3) by decide +kernel) fl_X5_22 rfl (Or.inr ⟨rfl, rfl⟩) q6 q7 ?_
  obtain ⟨S8, S8e⟩ : ∃ S8 : AS, S8 = ru S3 a0 8 x2 := ⟨_, rfl⟩
  have h := h S8 S8e
  rw [← S8e]
  refine go_aload_n (show decode cX5_init 38 = .ok (.aload_n 0, 1) by decide +kernel) (by rfl) ?_
  refine go_iconst (show decode cX5_init 39 = .ok (.iconst (-1), 1) by decide +kernel) (by decide) ?_
  obtain ⟨q9, h⟩ := h
  refine go_putI (show decode cX5_init 40 = .ok (.putfield 26, 3) by decide +kernel) fl_X5_26 rfl (Or.inl rfl) q9 ?_
  obtain ⟨F10, F10e⟩ : ∃ F10 : AF, F10 = fu F4 a0 11 (-1) := ⟨_, rfl⟩
  have h := h F10 F10e
  rw [← F10e]
  exact go_vret (show decode cX5_init 43 = .ok (.return_, 1) by decide +kernel) rfl h
set_option maxRecDepth 50000 in
def V_X5_init_0 (d : Nat) (S : AS) (F : AF) (G : AG) (Q : AQ) (a0 : Nat) : Prop :=
  (1 ≤ d) ∧
  (1 ≤ a0) ∧
  (sn S < 999998) ∧
  ∀ x4 : Nat, x4 = sn S + 1 →
  ∀ S5 : AS, S5 = na S 22 500 500 →
  ∀ F6 : AF, F6 = nF S F →
  ∀ G7 : AG, G7 = nG S G →
  (sK S5 a0 = 5) ∧
  (x4 ≤ sn S5) ∧
  ∀ S10 : AS, S10 = ru S5 a0 0 x4 →
  (sn S10 < 999998) ∧
  ∀ x12 : Nat, x12 = sn S10 + 1 →
  ∀ S13 : AS, S13 = na S10 20 30 30 →
  ∀ F14 : AF, F14 = nF S10 F6 →
  ∀ G15 : AG, G15 = nG S10 G7 →
  (sK S13 a0 = 5) ∧
  (x12 ≤ sn S13) ∧
  ∀ S18 : AS, S18 = ru S13 a0 6 x12 →
  (sn S18 < 999998) ∧
  ∀ x20 : Nat, x20 = sn S18 + 1 →
  ∀ S21 : AS, S21 = na S18 20 150 150 →
  ∀ F22 : AF, F22 = nF S18 F14 →
  ∀ G23 : AG, G23 = nG S18 G15 →
  (sK S21 a0 = 5) ∧
  (x20 ≤ sn S21) ∧
  ∀ S26 : AS, S26 = ru S21 a0 7 x20 →
  V_X5_init_30 d S26 F22 G23 Q a0
set_option maxRecDepth 50000 in
theorem R_X5_init_0 {d : Nat} {S : AS} {F : AF} {G : AG} {Q : AQ} {a0 : Nat} (h : V_X5_init_0 d S F G Q a0) : Go d MX5_init 0 [some (vR a0)] [] S F G Q := by
  unfold V_X5_init_0 at h
  refine go_aload_n (show decode cX5_init 0 = .ok (.aload_n 0, 1) by decide +kernel) (by rfl) ?_
  obtain ⟨q1, h⟩ := h
  obtain ⟨q2, h⟩ := h
  refine go_objInit (show decode cX5_init 1 = .ok (.invokespecial 3, 3) by decide +kernel) ml_X5_3 oi_1 oi_2 q2 (Nat.le_of_ble_eq_true rfl) q1 ?_
  refine go_aload_n (show decode cX5_init 4 = .ok (.aload_n 0, 1) by decide +kernel) (by rfl) ?_
  refine go_sipush (show decode cX5_init 5 = .ok (.sipush 500, 3) by decide +kernel) (by decide) ?_
  obtain ⟨q3, h⟩ := h
  refine go_newa (K := 22) (show decode cX5_init 8 = .ok (.newarray .byte, 2) by decide +kernel) rfl (by decide) ar_22 (by decide) (by decide) q3 ?_
  show Go d MX5_init 10 [some (vR a0)] [vR (sn S + 1), vR a0] (na S 22 500 500) (nF S F) (nG S G) Q
  obtain ⟨x4, x4e⟩ : ∃ x4 : Nat, x4 = sn S + 1 := ⟨_, rfl⟩
  have h := h x4 x4e
  rw [← x4e]
  obtain ⟨S5, S5e⟩ : ∃ S5 : AS, S5 = na S 22 500 500 := ⟨_, rfl⟩
  have h := h S5 S5e
  rw [← S5e]
  obtain ⟨F6, F6e⟩ : ∃ F6 : AF, F6 = nF S F := ⟨_, rfl⟩
  have h := h F6 F6e
  rw [← F6e]
  obtain ⟨G7, G7e⟩ : ∃ G7 : AG, G7 = nG S G := ⟨_, rfl⟩
  have h := h G7 G7e
  rw [← G7e]
  obtain ⟨q8, h⟩ := h
  obtain ⟨q9, h⟩ := h
  refine go_putR (show decode cX5_init 10 = .ok (.putfield 9, 3) by decide +kernel) fl_X5_9 rfl (Or.inr ⟨rfl, rfl⟩) q8 q9 ?_
  obtain ⟨S10, S10e⟩ : ∃ S10 : AS, S10 = ru S5 a0 0 x4 := ⟨_, rfl⟩
  have h := h S10 S10e
  rw [← S10e]
  refine go_aload_n (show decode cX5_init 13 = .ok (.aload_n 0, 1) by decide +kernel) (by rfl) ?_
  refine go_bipush (show decode cX5_init 14 = .ok (.bipush 30, 2) by decide +kernel) (by decide) ?_
  obtain ⟨q11, h⟩ := h
  refine go_newa (K := 20) (show decode cX5_init 16 = .ok (.newarray .int, 2) by decide +kernel) rfl (by decide) ar_20 (by decide) (by decide) q11 ?_
  show Go d MX5_init 18 [some (vR a0)] [vR (sn S10 + 1), vR a0] (na S10 20 30 30) (nF S10 F6) (nG S10 G7) Q
  obtain ⟨x12, x12e⟩ : ∃ x12 : Nat, x12 = sn S10 + 1 := ⟨_, rfl⟩
  have h := h x12 x12e
  rw [← x12e]
  obtain ⟨S13, S13e⟩ : ∃ S13 : AS, S13 = na S10 20 30 30 := ⟨_, rfl⟩
  have h := h S13 S13e
  rw [← S13e]
  obtain ⟨F14, F14e⟩ : ∃ F14 : AF, F14 = nF S10 F6 := ⟨_, rfl⟩
  have h := h F14 F14e
  rw [← F14e]
  obtain ⟨G15, G15e⟩ : ∃ G15 : AG, G15 = nG S10 G7 := ⟨_, rfl⟩
  have h := h G15 G15e
  rw [← G15e]
  obtain ⟨q16, h⟩ := h
  obtain ⟨q17, h⟩ := h
  refine go_putR (show decode cX5_init 18 = .ok (.putfield 15, 3) by decide +kernel) fl_X5_15 rfl (Or.inr ⟨rfl, rfl⟩) q16 q17 ?_
  obtain ⟨S18, S18e⟩ : ∃ S18 : AS, S18 = ru S13 a0 6 x12 := ⟨_, rfl⟩
  have h := h S18 S18e
  rw [← S18e]
  refine go_aload_n (show decode cX5_init 21 = .ok (.aload_n 0, 1) by decide +kernel) (by rfl) ?_
  refine go_sipush (show decode cX5_init 22 = .ok (.sipush 150, 3) by decide +kernel) (by decide) ?_
  obtain ⟨q19, h⟩ := h
  refine go_newa (K := 20) (show decode cX5_init 25 = .ok (.newarray .int, 2) by decide +kernel) rfl (by decide) ar_20 (by decide) (by decide) q19 ?_
  show Go d MX5_init 27 [some (vR a0)] [vR (sn S18 + 1), vR a0] (na S18 20 150 150) (nF S18 F14) (nG S18 G15) Q
  obtain ⟨x20, x20e⟩ : ∃ x20 : Nat, x20 = sn S18 + 1 := ⟨_, rfl⟩
  have h := h x20 x20e
  rw [← x20e]
  obtain ⟨S21, S21e⟩ : ∃ S21 : AS, S21 = na S18 20 150 150 := ⟨_, rfl⟩
  have h := h S21 S21e
  rw [← S21e]
  obtain ⟨F22, F22e⟩ : ∃ F22 : AF, F22 = nF S18 F14 := ⟨_, rfl⟩
  have h := h F22 F22e
  rw [← F22e]
  obtain ⟨G23, G23e⟩ : ∃ G23 : AG, G23 = nG S18 G15 := ⟨_, rfl⟩
  have h := h G23 G23e
  rw [← G23e]
  obtain ⟨q24, h⟩ := h
  obtain ⟨q25, h⟩ := h
  refine go_putR (show decode cX5_init 27 = .ok (.putfield 19, 3) by decide +kernel) fl_X5_19 rfl (Or.inr ⟨rfl, rfl⟩) q24 q25 ?_
  obtain ⟨S26, S26e⟩ : ∃ S26 : AS, S26 = ru S21 a0 7 x20 := ⟨_, rfl⟩
  have h := h S26 S26e
  rw [← S26e]
  exact R_X5_init_30 h
def V_X5_hasRoom_0 (d : Nat) (S : AS) (F : AF) (G : AG) (Q : AQ)  : Prop :=
  (r32 ((F 46 1) + 20)) ∧
  ((500 < (F 46 1) + 20) →
    Q (some (vI 0)) S F G) ∧
  ((¬ 500 < (F 46 1) + 20) →
    Q (some (vI 1)) S F G)
theorem R_X5_hasRoom_0 {d : Nat} {S : AS} {F : AF} {G : AG} {Q : AQ}  (hsh : ShC S) (h : V_X5_hasRoom_0 d S F G Q ) : Go d MX5_hasRoom 0 [some (vR 46)] [] S F G Q := by
  unfold V_X5_hasRoom_0 at h
  refine go_aload_n (show decode cX5_hasRoom 0 = .ok (.aload_n 0, 1) by decide +kernel) (by rfl) ?_
  refine go_getI (show decode cX5_hasRoom 1 = .ok (.getfield 30, 3) by decide +kernel) fl_X5_30 (Or.inl rfl) (shc_k hsh 46 (by decide) (by decide)) ?_
  refine go_bipush (show decode cX5_hasRoom 4 = .ok (.bipush 20, 2) by decide +kernel) (by decide) ?_
  obtain ⟨q1, h⟩ := h
  refine go_iadd (show decode cX5_hasRoom 6 = .ok (.iadd, 1) by decide +kernel) q1 ?_
  refine go_aload_n (show decode cX5_hasRoom 7 = .ok (.aload_n 0, 1) by decide +kernel) (by rfl) ?_
  refine go_getRc (show decode cX5_hasRoom 8 = .ok (.getfield 9, 3) by decide +kernel) fl_X5_9 rfl (shc_k hsh 46 (by decide) (by decide)) (v := 47) (shc_r hsh 46 0 (by decide) (by decide) (by decide)) ?_
  refine go_alenc (show decode cX5_hasRoom 11 = .ok (.arraylength, 1) by decide +kernel) (by have h9 : sK S 47 = 22 := (shc_k hsh 47 (by decide) (by decide)); omega) (z := 500) (by rw [(shc_n hsh 47 (by decide) (by decide))]; rfl) ?_
  obtain ⟨ht, hf⟩ := h
  refine go_icmpgt (tgt := 19) (show decode cX5_hasRoom 12 = .ok (.if_icmp .gt 7, 3) by decide +kernel) (by decide) (fun hc => ?_) (fun hc => ?_)
  · have h := ht hc
    refine go_iconst (show decode cX5_hasRoom 19 = .ok (.iconst 0, 1) by decide +kernel) (by decide) ?_
    exact go_zret (show decode cX5_hasRoom 20 = .ok (.ireturn, 1) by decide +kernel) rfl (by decide) h
  · have h := hf hc
    refine go_iconst (show decode cX5_hasRoom 15 = .ok (.iconst 1, 1) by decide +kernel) (by decide) ?_
    refine go_goto (tgt := 20) (show decode cX5_hasRoom 16 = .ok (.goto 4, 3) by decide +kernel) (by decide) ?_
    exact go_zret (show decode cX5_hasRoom 20 = .ok (.ireturn, 1) by decide +kernel) rfl (by decide) h
def V_X5_put_3 (d : Nat) (S : AS) (F : AF) (G : AG) (Q : AQ) (a1 : Int) (a2 : Int) : Prop :=
  ((a2 < 0) →
    Q none S F G) ∧
  ((¬ a2 < 0) →
    ((500 ≤ F 46 1) →
      Q none S F G) ∧
    ((¬ 500 ≤ F 46 1) →
      ((0 : Int) ≤ F 46 1) ∧
      ((F 46 1 : Int) < 500) ∧
      (-128 ≤ iB (bShr a1 a2) ∧ iB (bShr a1 a2) < 128) ∧
      ∀ G4 : AG, G4 = gu G 47 (F 46 1) (iB (bShr a1 a2)) →
      (r32 ((F 46 1) + 1)) ∧
      ∀ F6 : AF, F6 = fu F 46 1 ((F 46 1) + 1) →
      (r32 (a2 + (-8))) ∧
      Go d MX5_put 3 [some (vR 46), some (vI a1), some (vI (a2 + (-8)))] [] S F6 G4 Q))
theorem R_X5_put_3 {d : Nat} {S : AS} {F : AF} {G : AG} {Q : AQ} {a1 : Int} {a2 : Int} (hsh : ShC S) (h : V_X5_put_3 d S F G Q a1 a2) : Go d MX5_put 3 [some (vR 46), some (vI a1), some (vI a2)] [] S F G Q := by
  unfold V_X5_put_3 at h
  refine go_iload_n (show decode cX5_put 3 = .ok (.iload_n 2, 1) by decide +kernel) (by rfl) ?_
  obtain ⟨ht, hf⟩ := h
  refine go_iflt (tgt := 48) (show decode cX5_put 4 = .ok (.ifCond .lt 44, 3) by decide +kernel) (by decide) (fun hc => ?_) (fun hc => ?_)
  · have h := ht hc
    exact go_vret (show decode cX5_put 48 = .ok (.return_, 1) by decide +kernel) rfl h
  · have h := hf hc
    refine go_aload_n (show decode cX5_put 7 = .ok (.aload_n 0, 1) by decide +kernel) (by rfl) ?_
    refine go_getI (show decode cX5_put 8 = .ok (.getfield 30, 3) by decide +kernel) fl_X5_30 (Or.inl rfl) (shc_k hsh 46 (by decide) (by decide)) ?_
    refine go_aload_n (show decode cX5_put 11 = .ok (.aload_n 0, 1) by decide +kernel) (by rfl) ?_
    refine go_getRc (show decode cX5_put 12 = .ok (.getfield 9, 3) by decide +kernel) fl_X5_9 rfl (shc_k hsh 46 (by decide) (by decide)) (v := 47) (shc_r hsh 46 0 (by decide) (by decide) (by decide)) ?_
    refine go_alenc (show decode cX5_put 15 = .ok (.arraylength, 1) by decide +kernel) (by have h9 : sK S 47 = 22 := (shc_k hsh 47 (by decide) (by decide)); omega) (z := 500) (by rw [(shc_n hsh 47 (by decide) (by decide))]; rfl) ?_
    obtain ⟨ht, hf⟩ := h
    refine go_icmpge (tgt := 48) (show decode cX5_put 16 = .ok (.if_icmp .ge 32, 3) by decide +kernel) (by decide) (fun hc => ?_) (fun hc => ?_)
    · have h := ht hc
      exact go_vret (show decode cX5_put 48 = .ok (.return_, 1) by decide +kernel) rfl h
    · have h := hf hc
      refine go_aload_n (show decode cX5_put 19 = .ok (.aload_n 0, 1) by decide +kernel) (by rfl) ?_
      refine go_getRc (show decode cX5_put 20 = .ok (.getfield 9, 3) by decide +kernel) fl_X5_9 rfl (shc_k hsh 46 (by decide) (by decide)) (v := 47) (shc_r hsh 46 0 (by decide) (by decide) (by decide)) ?_
      refine go_aload_n (show decode cX5_put 23 = .ok (.aload_n 0, 1) by decide +kernel) (by rfl) ?_
      refine go_getI (show decode cX5_put 24 = .ok (.getfield 30, 3) by decide +kernel) fl_X5_30 (Or.inl rfl) (shc_k hsh 46 (by decide) (by decide)) ?_
      refine go_iload_n (show decode cX5_put 27 = .ok (.iload_n 1, 1) by decide +kernel) (by rfl) ?_
      refine go_iload_n (show decode cX5_put 28 = .ok (.iload_n 2, 1) by decide +kernel) (by rfl) ?_
      refine go_ishr (show decode cX5_put 29 = .ok (.ishr, 1) by decide +kernel) ?_
      refine go_i2b (show decode cX5_put 30 = .ok (.i2b, 1) by decide +kernel) ?_
      obtain ⟨q1, h⟩ := h
      obtain ⟨q2, h⟩ := h
      obtain ⟨q3, h⟩ := h
      refine go_bastore (show decode cX5_put 31 = .ok (.bastore, 1) by decide +kernel) (shc_k hsh 47 (by decide) (by decide)) q1 (lt_n (m := 500) q2 (shc_n hsh 47 (by decide) (by decide))) q3 ?_
      obtain ⟨G4, G4e⟩ : ∃ G4 : AG, G4 = gu G 47 (F 46 1) (iB (bShr a1 a2)) := ⟨_, rfl⟩
      have h := h G4 G4e
      rw [← G4e]
      refine go_aload_n (show decode cX5_put 32 = .ok (.aload_n 0, 1) by decide +kernel) (by rfl) ?_
      refine go_dup (show decode cX5_put 33 = .ok (.dup, 1) by decide +kernel) ?_
      refine go_getI (show decode cX5_put 34 = .ok (.getfield 30, 3) by decide +kernel) fl_X5_30 (Or.inl rfl) (shc_k hsh 46 (by decide) (by decide)) ?_
      refine go_iconst (show decode cX5_put 37 = .ok (.iconst 1, 1) by decide +kernel) (by decide) ?_
      obtain ⟨q5, h⟩ := h
      refine go_iadd (show decode cX5_put 38 = .ok (.iadd, 1) by decide +kernel) q5 ?_
      refine go_putI (show decode cX5_put 39 = .ok (.putfield 30, 3) by decide +kernel) fl_X5_30 rfl (Or.inl rfl) (shc_k hsh 46 (by decide) (by decide)) ?_
      obtain ⟨F6, F6e⟩ : ∃ F6 : AF, F6 = fu F 46 1 ((F 46 1) + 1) := ⟨_, rfl⟩
      have h := h F6 F6e
      rw [← F6e]
      obtain ⟨q7, h⟩ := h
      refine go_iinc (show decode cX5_put 42 = .ok (.iinc 2 (-8), 3) by decide +kernel) (by rfl) q7 (by decide) ?_
      show Go d MX5_put 45 [some (vR 46), some (vI a1), some (vI (a2 + (-8)))] [] S F6 G4 Q
      refine go_goto (tgt := 3) (show decode cX5_put 45 = .ok (.goto (-42), 3) by decide +kernel) (by decide) ?_
      exact h
def V_X5_put_0 (d : Nat) (S : AS) (F : AF) (G : AG) (Q : AQ) (a1 : Int) : Prop :=
  Go d MX5_put 3 [some (vR 46), some (vI a1), some (vI 24)] [] S F G Q
theorem R_X5_put_0 {d : Nat} {S : AS} {F : AF} {G : AG} {Q : AQ} {a1 : Int} (hsh : ShC S) (h : V_X5_put_0 d S F G Q a1) : Go d MX5_put 0 [some (vR 46), some (vI a1), none] [] S F G Q := by
  unfold V_X5_put_0 at h
  refine go_bipush (show decode cX5_put 0 = .ok (.bipush 24, 2) by decide +kernel) (by decide) ?_
  refine go_istore_n (show decode cX5_put 2 = .ok (.istore_n 2, 1) by decide +kernel) (by decide) ?_
  show Go d MX5_put 3 [some (vR 46), some (vI a1), some (vI 24)] [] S F G Q
  exact h
def V_X5_read_42 (d : Nat) (S : AS) (F : AF) (G : AG) (Q : AQ) (a1 : Int) (a2 : Int) : Prop :=
  ((30 < a2) →
    Q (some (vI (F 46 10))) S F G) ∧
  ((¬ 30 < a2) →
    ((F 46 3 = 0) →
      Q (some (vI (F 46 10))) S F G) ∧
    ((¬ F 46 3 = 0) →
      ((¬ F 46 10 = 0) →
        Q (some (vI (F 46 10))) S F G) ∧
      ((F 46 10 = 0) →
        (1 ≤ d) ∧
        Ok (d - 1) MX5_readAct [vR 46] S F G (fun w2 S3 F4 G5 =>
        S3 = S ∧
        w2 = none ∧
        (r32 (a2 + 1)) ∧
        Go d MX5_read 42 [some (vR 46), some (vI a1), some (vI (a2 + 1))] [] S F4 G5 Q))))
theorem R_X5_read_42 {d : Nat} {S : AS} {F : AF} {G : AG} {Q : AQ} {a1 : Int} {a2 : Int} (hsh : ShC S) (h : V_X5_read_42 d S F G Q a1 a2) : Go d MX5_read 42 [some (vR 46), some (vI a1), some (vI a2)] [] S F G Q := by
  unfold V_X5_read_42 at h
  refine go_iload_n (show decode cX5_read 42 = .ok (.iload_n 2, 1) by decide +kernel) (by rfl) ?_
  refine go_bipush (show decode cX5_read 43 = .ok (.bipush 30, 2) by decide +kernel) (by decide) ?_
  obtain ⟨ht, hf⟩ := h
  refine go_icmpgt (tgt := 72) (show decode cX5_read 45 = .ok (.if_icmp .gt 27, 3) by decide +kernel) (by decide) (fun hc => ?_) (fun hc => ?_)
  · have h := ht hc
    refine go_aload_n (show decode cX5_read 72 = .ok (.aload_n 0, 1) by decide +kernel) (by rfl) ?_
    refine go_getI (show decode cX5_read 73 = .ok (.getfield 51, 3) by decide +kernel) fl_X5_51 (Or.inl rfl) (shc_k hsh 46 (by decide) (by decide)) ?_
    exact go_iret (show decode cX5_read 76 = .ok (.ireturn, 1) by decide +kernel) rfl h
  · have h := hf hc
    refine go_aload_n (show decode cX5_read 48 = .ok (.aload_n 0, 1) by decide +kernel) (by rfl) ?_
    refine go_getI (show decode cX5_read 49 = .ok (.getfield 57, 3) by decide +kernel) fl_X5_57 (Or.inl rfl) (shc_k hsh 46 (by decide) (by decide)) ?_
    obtain ⟨ht, hf⟩ := h
    refine go_ifeq (tgt := 72) (show decode cX5_read 52 = .ok (.ifCond .eq 20, 3) by decide +kernel) (by decide) (fun hc => ?_) (fun hc => ?_)
    · have h := ht hc
      refine go_aload_n (show decode cX5_read 72 = .ok (.aload_n 0, 1) by decide +kernel) (by rfl) ?_
      refine go_getI (show decode cX5_read 73 = .ok (.getfield 51, 3) by decide +kernel) fl_X5_51 (Or.inl rfl) (shc_k hsh 46 (by decide) (by decide)) ?_
      exact go_iret (show decode cX5_read 76 = .ok (.ireturn, 1) by decide +kernel) rfl h
    · have h := hf hc
      refine go_aload_n (show decode cX5_read 55 = .ok (.aload_n 0, 1) by decide +kernel) (by rfl) ?_
      refine go_getI (show decode cX5_read 56 = .ok (.getfield 51, 3) by decide +kernel) fl_X5_51 (Or.inl rfl) (shc_k hsh 46 (by decide) (by decide)) ?_
      obtain ⟨ht, hf⟩ := h
      refine go_ifne (tgt := 72) (show decode cX5_read 59 = .ok (.ifCond .ne 13, 3) by decide +kernel) (by decide) (fun hc => ?_) (fun hc => ?_)
      · have h := ht hc
        refine go_aload_n (show decode cX5_read 72 = .ok (.aload_n 0, 1) by decide +kernel) (by rfl) ?_
        refine go_getI (show decode cX5_read 73 = .ok (.getfield 51, 3) by decide +kernel) fl_X5_51 (Or.inl rfl) (shc_k hsh 46 (by decide) (by decide)) ?_
        exact go_iret (show decode cX5_read 76 = .ok (.ireturn, 1) by decide +kernel) rfl h
      · have h := hf hc
        refine go_aload_n (show decode cX5_read 62 = .ok (.aload_n 0, 1) by decide +kernel) (by rfl) ?_
        obtain ⟨q1, h⟩ := h
        refine go_callV (d2 := d - 1) (M2 := MX5_readAct) (n := 0) (ci := 5) (av := []) (st := []) (show decode cX5_read 63 = .ok (.invokevirtual 60, 3) by decide +kernel) ml_X5_60 mt_X5_readAct min_X5_readAct mse_X5_readAct (by decide) (shc_k hsh 46 (by decide) (by decide)) rfl (Nat.le_of_ble_eq_true rfl) (by omega) (ok_mono h (fun w2 S3 F4 G5 h => ?_))
        obtain ⟨e8, h⟩ := h
        replace e8 := e8.symm; subst e8
        obtain ⟨e9, h⟩ := h
        subst e9
        show Go d MX5_read 66 [some (vR 46), some (vI a1), some (vI a2)] [] S F4 G5 Q
        obtain ⟨q6, h⟩ := h
        refine go_iinc (show decode cX5_read 66 = .ok (.iinc 2 1, 3) by decide +kernel) (by rfl) q6 (by decide) ?_
        show Go d MX5_read 69 [some (vR 46), some (vI a1), some (vI (a2 + 1))] [] S F4 G5 Q
        refine go_goto (tgt := 42) (show decode cX5_read 69 = .ok (.goto (-27), 3) by decide +kernel) (by decide) ?_
        exact h
def V_X5_read_0 (d : Nat) (S : AS) (F : AF) (G : AG) (Q : AQ) (a1 : Int) : Prop :=
  (1 ≤ d) ∧
  ∀ F2 : AF, F2 = fu F 46 2 (max 0 (min a1 (F 46 1))) →
  ∀ F3 : AF, F3 = fu F2 46 5 0 →
  ∀ F4 : AF, F4 = fu F3 46 9 0 →
  ∀ F5 : AF, F5 = fu F4 46 10 0 →
  ∀ F6 : AF, F6 = fu F5 46 11 (-1) →
  Ok (d - 1) MX5_step [vR 46] S F6 G (fun w7 S8 F9 G10 =>
  S8 = S ∧
  w7 = none ∧
  Go d MX5_read 42 [some (vR 46), some (vI a1), some (vI 0)] [] S F9 G10 Q)
theorem R_X5_read_0 {d : Nat} {S : AS} {F : AF} {G : AG} {Q : AQ} {a1 : Int} (hsh : ShC S) (h : V_X5_read_0 d S F G Q a1) : Go d MX5_read 0 [some (vR 46), some (vI a1), none] [] S F G Q := by
  unfold V_X5_read_0 at h
  refine go_aload_n (show decode cX5_read 0 = .ok (.aload_n 0, 1) by decide +kernel) (by rfl) ?_
  refine go_iconst (show decode cX5_read 1 = .ok (.iconst 0, 1) by decide +kernel) (by decide) ?_
  refine go_iload_n (show decode cX5_read 2 = .ok (.iload_n 1, 1) by decide +kernel) (by rfl) ?_
  refine go_aload_n (show decode cX5_read 3 = .ok (.aload_n 0, 1) by decide +kernel) (by rfl) ?_
  refine go_getI (show decode cX5_read 4 = .ok (.getfield 30, 3) by decide +kernel) fl_X5_30 (Or.inl rfl) (shc_k hsh 46 (by decide) (by decide)) ?_
  obtain ⟨q1, h⟩ := h
  refine go_minIm (show decode cX5_read 7 = .ok (.invokestatic 36, 3) by decide +kernel) ml_X5_36 mh_min_s mh_i mh_min_c (Nat.le_of_ble_eq_true rfl) q1 ?_
  refine go_maxIm (show decode cX5_read 10 = .ok (.invokestatic 42, 3) by decide +kernel) ml_X5_42 mh_max_s mh_i mh_max_c (Nat.le_of_ble_eq_true rfl) q1 ?_
  refine go_putI (show decode cX5_read 13 = .ok (.putfield 45, 3) by decide +kernel) fl_X5_45 rfl (Or.inl rfl) (shc_k hsh 46 (by decide) (by decide)) ?_
  obtain ⟨F2, F2e⟩ : ∃ F2 : AF, F2 = fu F 46 2 (max 0 (min a1 (F 46 1))) := ⟨_, rfl⟩
  have h := h F2 F2e
  rw [← F2e]
  refine go_aload_n (show decode cX5_read 16 = .ok (.aload_n 0, 1) by decide +kernel) (by rfl) ?_
  refine go_iconst (show decode cX5_read 17 = .ok (.iconst 0, 1) by decide +kernel) (by decide) ?_
  refine go_putI (show decode cX5_read 18 = .ok (.putfield 48, 3) by decide +kernel) fl_X5_48 rfl (Or.inl rfl) (shc_k hsh 46 (by decide) (by decide)) ?_
  obtain ⟨F3, F3e⟩ : ∃ F3 : AF, F3 = fu F2 46 5 0 := ⟨_, rfl⟩
  have h := h F3 F3e
  rw [← F3e]
  refine go_aload_n (show decode cX5_read 21 = .ok (.aload_n 0, 1) by decide +kernel) (by rfl) ?_
  refine go_iconst (show decode cX5_read 22 = .ok (.iconst 0, 1) by decide +kernel) (by decide) ?_
  refine go_putI (show decode cX5_read 23 = .ok (.putfield 33, 3) by decide +kernel) fl_X5_33 rfl (Or.inl rfl) (shc_k hsh 46 (by decide) (by decide)) ?_
  obtain ⟨F4, F4e⟩ : ∃ F4 : AF, F4 = fu F3 46 9 0 := ⟨_, rfl⟩
  have h := h F4 F4e
  rw [← F4e]
  refine go_aload_n (show decode cX5_read 26 = .ok (.aload_n 0, 1) by decide +kernel) (by rfl) ?_
  refine go_iconst (show decode cX5_read 27 = .ok (.iconst 0, 1) by decide +kernel) (by decide) ?_
  refine go_putI (show decode cX5_read 28 = .ok (.putfield 51, 3) by decide +kernel) fl_X5_51 rfl (Or.inl rfl) (shc_k hsh 46 (by decide) (by decide)) ?_
  obtain ⟨F5, F5e⟩ : ∃ F5 : AF, F5 = fu F4 46 10 0 := ⟨_, rfl⟩
  have h := h F5 F5e
  rw [← F5e]
  refine go_aload_n (show decode cX5_read 31 = .ok (.aload_n 0, 1) by decide +kernel) (by rfl) ?_
  refine go_iconst (show decode cX5_read 32 = .ok (.iconst (-1), 1) by decide +kernel) (by decide) ?_
  refine go_putI (show decode cX5_read 33 = .ok (.putfield 26, 3) by decide +kernel) fl_X5_26 rfl (Or.inl rfl) (shc_k hsh 46 (by decide) (by decide)) ?_
  obtain ⟨F6, F6e⟩ : ∃ F6 : AF, F6 = fu F5 46 11 (-1) := ⟨_, rfl⟩
  have h := h F6 F6e
  rw [← F6e]
  refine go_aload_n (show decode cX5_read 36 = .ok (.aload_n 0, 1) by decide +kernel) (by rfl) ?_
  refine go_callV (d2 := d - 1) (M2 := MX5_step) (n := 0) (ci := 5) (av := []) (st := []) (show decode cX5_read 37 = .ok (.invokevirtual 54, 3) by decide +kernel) ml_X5_54 mt_X5_step min_X5_step mse_X5_step (by decide) (shc_k hsh 46 (by decide) (by decide)) rfl (Nat.le_of_ble_eq_true rfl) (by omega) (ok_mono h (fun w7 S8 F9 G10 h => ?_))
  obtain ⟨e8, h⟩ := h
  replace e8 := e8.symm; subst e8
  obtain ⟨e9, h⟩ := h
  subst e9
  show Go d MX5_read 40 [some (vR 46), some (vI a1), none] [] S F9 G10 Q
  refine go_iconst (show decode cX5_read 40 = .ok (.iconst 0, 1) by decide +kernel) (by decide) ?_
  refine go_istore_n (show decode cX5_read 41 = .ok (.istore_n 2, 1) by decide +kernel) (by decide) ?_
  show Go d MX5_read 42 [some (vR 46), some (vI a1), some (vI 0)] [] S F9 G10 Q
  exact h
def V_X5_step_102 (d : Nat) (S : AS) (F : AF) (G : AG) (Q : AQ)  : Prop :=
  ((F 46 2 ≤ F 46 5) →
    Q none S F G) ∧
  ((¬ F 46 2 ≤ F 46 5) →
    (1 ≤ d) ∧
    ∃ z6 : Int, Pu (d - 1) MX5_kindOfByte [vR 46, vI (F 46 5)] S F G (some (vI z6)) ∧
    ((¬ z6 = F 46 3) →
      Q none S F G) ∧
    ((z6 = F 46 3) →
      (r32 ((F 46 5) + 1)) ∧
      ∀ F9 : AF, F9 = fu F 46 5 ((F 46 5) + 1) →
      Go d MX5_step 102 [some (vR 46)] [] S F9 G Q))
theorem R_X5_step_102 {d : Nat} {S : AS} {F : AF} {G : AG} {Q : AQ}  (hsh : ShC S) (h : V_X5_step_102 d S F G Q ) : Go d MX5_step 102 [some (vR 46)] [] S F G Q := by
  unfold V_X5_step_102 at h
  refine go_aload_n (show decode cX5_step 102 = .ok (.aload_n 0, 1) by decide +kernel) (by rfl) ?_
  refine go_getI (show decode cX5_step 103 = .ok (.getfield 48, 3) by decide +kernel) fl_X5_48 (Or.inl rfl) (shc_k hsh 46 (by decide) (by decide)) ?_
  refine go_aload_n (show decode cX5_step 106 = .ok (.aload_n 0, 1) by decide +kernel) (by rfl) ?_
  refine go_getI (show decode cX5_step 107 = .ok (.getfield 45, 3) by decide +kernel) fl_X5_45 (Or.inl rfl) (shc_k hsh 46 (by decide) (by decide)) ?_
  obtain ⟨ht, hf⟩ := h
  refine go_icmpge (tgt := 141) (show decode cX5_step 110 = .ok (.if_icmp .ge 31, 3) by decide +kernel) (by decide) (fun hc => ?_) (fun hc => ?_)
  · have h := ht hc
    exact go_vret (show decode cX5_step 141 = .ok (.return_, 1) by decide +kernel) rfl h
  · have h := hf hc
    refine go_aload_n (show decode cX5_step 113 = .ok (.aload_n 0, 1) by decide +kernel) (by rfl) ?_
    refine go_aload_n (show decode cX5_step 114 = .ok (.aload_n 0, 1) by decide +kernel) (by rfl) ?_
    refine go_getI (show decode cX5_step 115 = .ok (.getfield 48, 3) by decide +kernel) fl_X5_48 (Or.inl rfl) (shc_k hsh 46 (by decide) (by decide)) ?_
    obtain ⟨q1, h⟩ := h
    obtain ⟨z6, p7, h⟩ := h
    refine go_callV (d2 := d - 1) (M2 := MX5_kindOfByte) (n := 1) (ci := 5) (av := [vI (F 46 5)]) (st := []) (show decode cX5_step 118 = .ok (.invokevirtual 100, 3) by decide +kernel) ml_X5_100 mt_X5_kindOfByte min_X5_kindOfByte mse_X5_kindOfByte (by decide) (shc_k hsh 46 (by decide) (by decide)) rfl (Nat.le_of_ble_eq_true rfl) (by omega) (ok_mono p7 (fun w2 S3 F4 G5 e9 => ?_))
    obtain ⟨e1, e2, e3, e4⟩ := e9
    subst e1
    replace e2 := e2.symm; subst e2
    replace e3 := e3.symm; subst e3
    replace e4 := e4.symm; subst e4
    show Go d MX5_step 121 [some (vR 46)] [vI z6] S F G Q
    refine go_aload_n (show decode cX5_step 121 = .ok (.aload_n 0, 1) by decide +kernel) (by rfl) ?_
    refine go_getI (show decode cX5_step 122 = .ok (.getfield 57, 3) by decide +kernel) fl_X5_57 (Or.inl rfl) (shc_k hsh 46 (by decide) (by decide)) ?_
    obtain ⟨ht, hf⟩ := h
    refine go_icmpne (tgt := 141) (show decode cX5_step 125 = .ok (.if_icmp .ne 16, 3) by decide +kernel) (by decide) (fun hc => ?_) (fun hc => ?_)
    · have h := ht hc
      exact go_vret (show decode cX5_step 141 = .ok (.return_, 1) by decide +kernel) rfl h
    · have h := hf hc
      refine go_aload_n (show decode cX5_step 128 = .ok (.aload_n 0, 1) by decide +kernel) (by rfl) ?_
      refine go_dup (show decode cX5_step 129 = .ok (.dup, 1) by decide +kernel) ?_
      refine go_getI (show decode cX5_step 130 = .ok (.getfield 48, 3) by decide +kernel) fl_X5_48 (Or.inl rfl) (shc_k hsh 46 (by decide) (by decide)) ?_
      refine go_iconst (show decode cX5_step 133 = .ok (.iconst 1, 1) by decide +kernel) (by decide) ?_
      obtain ⟨q8, h⟩ := h
      refine go_iadd (show decode cX5_step 134 = .ok (.iadd, 1) by decide +kernel) q8 ?_
      refine go_putI (show decode cX5_step 135 = .ok (.putfield 48, 3) by decide +kernel) fl_X5_48 rfl (Or.inl rfl) (shc_k hsh 46 (by decide) (by decide)) ?_
      obtain ⟨F9, F9e⟩ : ∃ F9 : AF, F9 = fu F 46 5 ((F 46 5) + 1) := ⟨_, rfl⟩
      have h := h F9 F9e
      rw [← F9e]
      refine go_goto (tgt := 102) (show decode cX5_step 138 = .ok (.goto (-36), 3) by decide +kernel) (by decide) ?_
      exact h
def V_X5_step_54 (d : Nat) (S : AS) (F : AF) (G : AG) (Q : AQ)  : Prop :=
  ∀ F1 : AF, F1 = fu F 46 5 (F 46 4) →
  (1 ≤ d) ∧
  ∃ z7 : Int, Pu (d - 1) MX5_kindOfByte [vR 46, vI (F1 46 4)] S F1 G (some (vI z7)) ∧
  ∀ F9 : AF, F9 = fu F1 46 3 z7 →
  ((¬ F9 46 3 = 3) →
    ((F9 46 3 = 0) →
      Q none S F9 G) ∧
    ((¬ F9 46 3 = 0) →
      Go d MX5_step 102 [some (vR 46)] [] S F9 G Q)) ∧
  ((F9 46 3 = 3) →
    (r32 ((F9 46 5) + 1)) ∧
    ∀ F11 : AF, F11 = fu F9 46 5 ((F9 46 5) + 1) →
    Q none S F11 G)
theorem R_X5_step_54 {d : Nat} {S : AS} {F : AF} {G : AG} {Q : AQ}  (hsh : ShC S) (h : V_X5_step_54 d S F G Q ) : Go d MX5_step 54 [some (vR 46)] [] S F G Q := by
  unfold V_X5_step_54 at h
  refine go_aload_n (show decode cX5_step 54 = .ok (.aload_n 0, 1) by decide +kernel) (by rfl) ?_
  refine go_aload_n (show decode cX5_step 55 = .ok (.aload_n 0, 1) by decide +kernel) (by rfl) ?_
  refine go_getI (show decode cX5_step 56 = .ok (.getfield 97, 3) by decide +kernel) fl_X5_97 (Or.inl rfl) (shc_k hsh 46 (by decide) (by decide)) ?_
  refine go_putI (show decode cX5_step 59 = .ok (.putfield 48, 3) by decide +kernel) fl_X5_48 rfl (Or.inl rfl) (shc_k hsh 46 (by decide) (by decide)) ?_
  obtain ⟨F1, F1e⟩ : ∃ F1 : AF, F1 = fu F 46 5 (F 46 4) := ⟨_, rfl⟩
  have h := h F1 F1e
  rw [← F1e]
  refine go_aload_n (show decode cX5_step 62 = .ok (.aload_n 0, 1) by decide +kernel) (by rfl) ?_
  refine go_aload_n (show decode cX5_step 63 = .ok (.aload_n 0, 1) by decide +kernel) (by rfl) ?_
  refine go_aload_n (show decode cX5_step 64 = .ok (.aload_n 0, 1) by decide +kernel) (by rfl) ?_
  refine go_getI (show decode cX5_step 65 = .ok (.getfield 97, 3) by decide +kernel) fl_X5_97 (Or.inl rfl) (shc_k hsh 46 (by decide) (by decide)) ?_
  obtain ⟨q2, h⟩ := h
  obtain ⟨z7, p8, h⟩ := h
  refine go_callV (d2 := d - 1) (M2 := MX5_kindOfByte) (n := 1) (ci := 5) (av := [vI (F1 46 4)]) (st := [vR 46]) (show decode cX5_step 68 = .ok (.invokevirtual 100, 3) by decide +kernel) ml_X5_100 mt_X5_kindOfByte min_X5_kindOfByte mse_X5_kindOfByte (by decide) (shc_k hsh 46 (by decide) (by decide)) rfl (Nat.le_of_ble_eq_true rfl) (by omega) (ok_mono p8 (fun w3 S4 F5 G6 e9 => ?_))
  obtain ⟨e1, e2, e3, e4⟩ := e9
  subst e1
  replace e2 := e2.symm; subst e2
  replace e3 := e3.symm; subst e3
  replace e4 := e4.symm; subst e4
  show Go d MX5_step 71 [some (vR 46)] [vI z7, vR 46] S F1 G Q
  refine go_putI (show decode cX5_step 71 = .ok (.putfield 57, 3) by decide +kernel) fl_X5_57 rfl (Or.inl rfl) (shc_k hsh 46 (by decide) (by decide)) ?_
  obtain ⟨F9, F9e⟩ : ∃ F9 : AF, F9 = fu F1 46 3 z7 := ⟨_, rfl⟩
  have h := h F9 F9e
  rw [← F9e]
  refine go_aload_n (show decode cX5_step 74 = .ok (.aload_n 0, 1) by decide +kernel) (by rfl) ?_
  refine go_getI (show decode cX5_step 75 = .ok (.getfield 57, 3) by decide +kernel) fl_X5_57 (Or.inl rfl) (shc_k hsh 46 (by decide) (by decide)) ?_
  refine go_iconst (show decode cX5_step 78 = .ok (.iconst 3, 1) by decide +kernel) (by decide) ?_
  obtain ⟨ht, hf⟩ := h
  refine go_icmpne (tgt := 95) (show decode cX5_step 79 = .ok (.if_icmp .ne 16, 3) by decide +kernel) (by decide) (fun hc => ?_) (fun hc => ?_)
  · have h := ht hc
    refine go_aload_n (show decode cX5_step 95 = .ok (.aload_n 0, 1) by decide +kernel) (by rfl) ?_
    refine go_getI (show decode cX5_step 96 = .ok (.getfield 57, 3) by decide +kernel) fl_X5_57 (Or.inl rfl) (shc_k hsh 46 (by decide) (by decide)) ?_
    obtain ⟨ht, hf⟩ := h
    refine go_ifeq (tgt := 141) (show decode cX5_step 99 = .ok (.ifCond .eq 42, 3) by decide +kernel) (by decide) (fun hc => ?_) (fun hc => ?_)
    · have h := ht hc
      exact go_vret (show decode cX5_step 141 = .ok (.return_, 1) by decide +kernel) rfl h
    · have h := hf hc
      exact h
  · have h := hf hc
    refine go_aload_n (show decode cX5_step 82 = .ok (.aload_n 0, 1) by decide +kernel) (by rfl) ?_
    refine go_dup (show decode cX5_step 83 = .ok (.dup, 1) by decide +kernel) ?_
    refine go_getI (show decode cX5_step 84 = .ok (.getfield 48, 3) by decide +kernel) fl_X5_48 (Or.inl rfl) (shc_k hsh 46 (by decide) (by decide)) ?_
    refine go_iconst (show decode cX5_step 87 = .ok (.iconst 1, 1) by decide +kernel) (by decide) ?_
    obtain ⟨q10, h⟩ := h
    refine go_iadd (show decode cX5_step 88 = .ok (.iadd, 1) by decide +kernel) q10 ?_
    refine go_putI (show decode cX5_step 89 = .ok (.putfield 48, 3) by decide +kernel) fl_X5_48 rfl (Or.inl rfl) (shc_k hsh 46 (by decide) (by decide)) ?_
    obtain ⟨F11, F11e⟩ : ∃ F11 : AF, F11 = fu F9 46 5 ((F9 46 5) + 1) := ⟨_, rfl⟩
    have h := h F11 F11e
    rw [← F11e]
    refine go_goto (tgt := 141) (show decode cX5_step 92 = .ok (.goto 49, 3) by decide +kernel) (by decide) ?_
    exact go_vret (show decode cX5_step 141 = .ok (.return_, 1) by decide +kernel) rfl h
def V_X5_step_16 (d : Nat) (S : AS) (F : AF) (G : AG) (Q : AQ)  : Prop :=
  ((F 46 2 ≤ F 46 4) →
    V_X5_step_54 d S F G Q ) ∧
  ((¬ F 46 2 ≤ F 46 4) →
    ((0 : Int) ≤ F 46 4) ∧
    ((F 46 4 : Int) < 500) ∧
    ((¬ G 47 (F 46 4) = 32) →
      V_X5_step_54 d S F G Q ) ∧
    ((G 47 (F 46 4) = 32) →
      (r32 ((F 46 4) + 1)) ∧
      ∀ F4 : AF, F4 = fu F 46 4 ((F 46 4) + 1) →
      Go d MX5_step 16 [some (vR 46)] [] S F4 G Q))
theorem R_X5_step_16 {d : Nat} {S : AS} {F : AF} {G : AG} {Q : AQ}  (hsh : ShC S) (h : V_X5_step_16 d S F G Q ) : Go d MX5_step 16 [some (vR 46)] [] S F G Q := by
  unfold V_X5_step_16 at h
  refine go_aload_n (show decode cX5_step 16 = .ok (.aload_n 0, 1) by decide +kernel) (by rfl) ?_
  refine go_getI (show decode cX5_step 17 = .ok (.getfield 97, 3) by decide +kernel) fl_X5_97 (Or.inl rfl) (shc_k hsh 46 (by decide) (by decide)) ?_
  refine go_aload_n (show decode cX5_step 20 = .ok (.aload_n 0, 1) by decide +kernel) (by rfl) ?_
  refine go_getI (show decode cX5_step 21 = .ok (.getfield 45, 3) by decide +kernel) fl_X5_45 (Or.inl rfl) (shc_k hsh 46 (by decide) (by decide)) ?_
  obtain ⟨ht, hf⟩ := h
  refine go_icmpge (tgt := 54) (show decode cX5_step 24 = .ok (.if_icmp .ge 30, 3) by decide +kernel) (by decide) (fun hc => ?_) (fun hc => ?_)
  · have h := ht hc
    exact R_X5_step_54 hsh h
  · have h := hf hc
    refine go_aload_n (show decode cX5_step 27 = .ok (.aload_n 0, 1) by decide +kernel) (by rfl) ?_
    refine go_getRc (show decode cX5_step 28 = .ok (.getfield 9, 3) by decide +kernel) fl_X5_9 rfl (shc_k hsh 46 (by decide) (by decide)) (v := 47) (shc_r hsh 46 0 (by decide) (by decide) (by decide)) ?_
    refine go_aload_n (show decode cX5_step 31 = .ok (.aload_n 0, 1) by decide +kernel) (by rfl) ?_
    refine go_getI (show decode cX5_step 32 = .ok (.getfield 97, 3) by decide +kernel) fl_X5_97 (Or.inl rfl) (shc_k hsh 46 (by decide) (by decide)) ?_
    obtain ⟨q1, h⟩ := h
    obtain ⟨q2, h⟩ := h
    refine go_baload (show decode cX5_step 35 = .ok (.baload, 1) by decide +kernel) (shc_k hsh 47 (by decide) (by decide)) q1 (lt_n (m := 500) q2 (shc_n hsh 47 (by decide) (by decide))) ?_
    refine go_bipush (show decode cX5_step 36 = .ok (.bipush 32, 2) by decide +kernel) (by decide) ?_
    obtain ⟨ht, hf⟩ := h
    refine go_icmpne (tgt := 54) (show decode cX5_step 38 = .ok (.if_icmp .ne 16, 3) by decide +kernel) (by decide) (fun hc => ?_) (fun hc => ?_)
    · have h := ht hc
      exact R_X5_step_54 hsh h
    · have h := hf hc
      refine go_aload_n (show decode cX5_step 41 = .ok (.aload_n 0, 1) by decide +kernel) (by rfl) ?_
      refine go_dup (show decode cX5_step 42 = .ok (.dup, 1) by decide +kernel) ?_
      refine go_getI (show decode cX5_step 43 = .ok (.getfield 97, 3) by decide +kernel) fl_X5_97 (Or.inl rfl) (shc_k hsh 46 (by decide) (by decide)) ?_
      refine go_iconst (show decode cX5_step 46 = .ok (.iconst 1, 1) by decide +kernel) (by decide) ?_
      obtain ⟨q3, h⟩ := h
      refine go_iadd (show decode cX5_step 47 = .ok (.iadd, 1) by decide +kernel) q3 ?_
      refine go_putI (show decode cX5_step 48 = .ok (.putfield 97, 3) by decide +kernel) fl_X5_97 rfl (Or.inl rfl) (shc_k hsh 46 (by decide) (by decide)) ?_
      obtain ⟨F4, F4e⟩ : ∃ F4 : AF, F4 = fu F 46 4 ((F 46 4) + 1) := ⟨_, rfl⟩
      have h := h F4 F4e
      rw [← F4e]
      refine go_goto (tgt := 16) (show decode cX5_step 51 = .ok (.goto (-35), 3) by decide +kernel) (by decide) ?_
      exact h
def V_X5_step_0 (d : Nat) (S : AS) (F : AF) (G : AG) (Q : AQ)  : Prop :=
  ((F 46 10 = 0) →
    ∀ F1 : AF, F1 = fu F 46 4 (F 46 5) →
    Go d MX5_step 16 [some (vR 46)] [] S F1 G Q) ∧
  ((¬ F 46 10 = 0) →
    Q none S F G)
theorem R_X5_step_0 {d : Nat} {S : AS} {F : AF} {G : AG} {Q : AQ}  (hsh : ShC S) (h : V_X5_step_0 d S F G Q ) : Go d MX5_step 0 [some (vR 46)] [] S F G Q := by
  unfold V_X5_step_0 at h
  refine go_aload_n (show decode cX5_step 0 = .ok (.aload_n 0, 1) by decide +kernel) (by rfl) ?_
  refine go_getI (show decode cX5_step 1 = .ok (.getfield 51, 3) by decide +kernel) fl_X5_51 (Or.inl rfl) (shc_k hsh 46 (by decide) (by decide)) ?_
  obtain ⟨ht, hf⟩ := h
  refine go_ifeq (tgt := 8) (show decode cX5_step 4 = .ok (.ifCond .eq 4, 3) by decide +kernel) (by decide) (fun hc => ?_) (fun hc => ?_)
  · have h := ht hc
    refine go_aload_n (show decode cX5_step 8 = .ok (.aload_n 0, 1) by decide +kernel) (by rfl) ?_
    refine go_aload_n (show decode cX5_step 9 = .ok (.aload_n 0, 1) by decide +kernel) (by rfl) ?_
    refine go_getI (show decode cX5_step 10 = .ok (.getfield 48, 3) by decide +kernel) fl_X5_48 (Or.inl rfl) (shc_k hsh 46 (by decide) (by decide)) ?_
    refine go_putI (show decode cX5_step 13 = .ok (.putfield 97, 3) by decide +kernel) fl_X5_97 rfl (Or.inl rfl) (shc_k hsh 46 (by decide) (by decide)) ?_
    obtain ⟨F1, F1e⟩ : ∃ F1 : AF, F1 = fu F 46 4 (F 46 5) := ⟨_, rfl⟩
    have h := h F1 F1e
    rw [← F1e]
    exact h
  · have h := hf hc
    exact go_vret (show decode cX5_step 7 = .ok (.return_, 1) by decide +kernel) rfl h
def V_X5_kindOfByte_35 (d : Nat) (S : AS) (F : AF) (G : AG) (Q : AQ) (a1 : Int) (a2 : Int) : Prop :=
  ((a2 < 48) →
    Q (some (vI 3)) S F G) ∧
  ((¬ a2 < 48) →
    ((57 < a2) →
      Q (some (vI 3)) S F G) ∧
    ((¬ 57 < a2) →
      Q (some (vI 2)) S F G))
theorem R_X5_kindOfByte_35 {d : Nat} {S : AS} {F : AF} {G : AG} {Q : AQ} {a1 : Int} {a2 : Int} (hsh : ShC S) (h : V_X5_kindOfByte_35 d S F G Q a1 a2) : Go d MX5_kindOfByte 35 [some (vR 46), some (vI a1), some (vI a2)] [] S F G Q := by
  unfold V_X5_kindOfByte_35 at h
  refine go_iload_n (show decode cX5_kindOfByte 35 = .ok (.iload_n 2, 1) by decide +kernel) (by rfl) ?_
  refine go_bipush (show decode cX5_kindOfByte 36 = .ok (.bipush 48, 2) by decide +kernel) (by decide) ?_
  obtain ⟨ht, hf⟩ := h
  refine go_icmplt (tgt := 51) (show decode cX5_kindOfByte 38 = .ok (.if_icmp .lt 13, 3) by decide +kernel) (by decide) (fun hc => ?_) (fun hc => ?_)
  · have h := ht hc
    refine go_iconst (show decode cX5_kindOfByte 51 = .ok (.iconst 3, 1) by decide +kernel) (by decide) ?_
    exact go_iret (show decode cX5_kindOfByte 52 = .ok (.ireturn, 1) by decide +kernel) rfl h
  · have h := hf hc
    refine go_iload_n (show decode cX5_kindOfByte 41 = .ok (.iload_n 2, 1) by decide +kernel) (by rfl) ?_
    refine go_bipush (show decode cX5_kindOfByte 42 = .ok (.bipush 57, 2) by decide +kernel) (by decide) ?_
    obtain ⟨ht, hf⟩ := h
    refine go_icmpgt (tgt := 51) (show decode cX5_kindOfByte 44 = .ok (.if_icmp .gt 7, 3) by decide +kernel) (by decide) (fun hc => ?_) (fun hc => ?_)
    · have h := ht hc
      refine go_iconst (show decode cX5_kindOfByte 51 = .ok (.iconst 3, 1) by decide +kernel) (by decide) ?_
      exact go_iret (show decode cX5_kindOfByte 52 = .ok (.ireturn, 1) by decide +kernel) rfl h
    · have h := hf hc
      refine go_iconst (show decode cX5_kindOfByte 47 = .ok (.iconst 2, 1) by decide +kernel) (by decide) ?_
      refine go_goto (tgt := 52) (show decode cX5_kindOfByte 48 = .ok (.goto 4, 3) by decide +kernel) (by decide) ?_
      exact go_iret (show decode cX5_kindOfByte 52 = .ok (.ireturn, 1) by decide +kernel) rfl h
def V_X5_kindOfByte_0 (d : Nat) (S : AS) (F : AF) (G : AG) (Q : AQ) (a1 : Int) : Prop :=
  ((a1 < 0) →
    Q (some (vI 0)) S F G) ∧
  ((¬ a1 < 0) →
    ((a1 < F 46 2) →
      ((0 : Int) ≤ a1) ∧
      ((a1 : Int) < 500) ∧
      ∀ x3 : Int, x3 = G 47 a1 →
      ((x3 < 97) →
        V_X5_kindOfByte_35 d S F G Q a1 x3) ∧
      ((¬ x3 < 97) →
        ((122 < x3) →
          V_X5_kindOfByte_35 d S F G Q a1 x3) ∧
        ((¬ 122 < x3) →
          Q (some (vI 1)) S F G))) ∧
    ((¬ a1 < F 46 2) →
      Q (some (vI 0)) S F G))
theorem R_X5_kindOfByte_0 {d : Nat} {S : AS} {F : AF} {G : AG} {Q : AQ} {a1 : Int} (hsh : ShC S) (h : V_X5_kindOfByte_0 d S F G Q a1) : Go d MX5_kindOfByte 0 [some (vR 46), some (vI a1), none] [] S F G Q := by
  unfold V_X5_kindOfByte_0 at h
  refine go_iload_n (show decode cX5_kindOfByte 0 = .ok (.iload_n 1, 1) by decide +kernel) (by rfl) ?_
  obtain ⟨ht, hf⟩ := h
  refine go_iflt (tgt := 12) (show decode cX5_kindOfByte 1 = .ok (.ifCond .lt 11, 3) by decide +kernel) (by decide) (fun hc => ?_) (fun hc => ?_)
  · have h := ht hc
    refine go_iconst (show decode cX5_kindOfByte 12 = .ok (.iconst 0, 1) by decide +kernel) (by decide) ?_
    exact go_iret (show decode cX5_kindOfByte 13 = .ok (.ireturn, 1) by decide +kernel) rfl h
  · have h := hf hc
    refine go_iload_n (show decode cX5_kindOfByte 4 = .ok (.iload_n 1, 1) by decide +kernel) (by rfl) ?_
    refine go_aload_n (show decode cX5_kindOfByte 5 = .ok (.aload_n 0, 1) by decide +kernel) (by rfl) ?_
    refine go_getI (show decode cX5_kindOfByte 6 = .ok (.getfield 45, 3) by decide +kernel) fl_X5_45 (Or.inl rfl) (shc_k hsh 46 (by decide) (by decide)) ?_
    obtain ⟨ht, hf⟩ := h
    refine go_icmplt (tgt := 14) (show decode cX5_kindOfByte 9 = .ok (.if_icmp .lt 5, 3) by decide +kernel) (by decide) (fun hc => ?_) (fun hc => ?_)
    · have h := ht hc
      refine go_aload_n (show decode cX5_kindOfByte 14 = .ok (.aload_n 0, 1) by decide +kernel) (by rfl) ?_
      refine go_getRc (show decode cX5_kindOfByte 15 = .ok (.getfield 9, 3) by decide +kernel) fl_X5_9 rfl (shc_k hsh 46 (by decide) (by decide)) (v := 47) (shc_r hsh 46 0 (by decide) (by decide) (by decide)) ?_
      refine go_iload_n (show decode cX5_kindOfByte 18 = .ok (.iload_n 1, 1) by decide +kernel) (by rfl) ?_
      obtain ⟨q1, h⟩ := h
      obtain ⟨q2, h⟩ := h
      refine go_baload (show decode cX5_kindOfByte 19 = .ok (.baload, 1) by decide +kernel) (shc_k hsh 47 (by decide) (by decide)) q1 (lt_n (m := 500) q2 (shc_n hsh 47 (by decide) (by decide))) ?_
      obtain ⟨x3, x3e⟩ : ∃ x3 : Int, x3 = G 47 a1 := ⟨_, rfl⟩
      have h := h x3 x3e
      rw [← x3e]
      refine go_istore_n (show decode cX5_kindOfByte 20 = .ok (.istore_n 2, 1) by decide +kernel) (by decide) ?_
      show Go d MX5_kindOfByte 21 [some (vR 46), some (vI a1), some (vI x3)] [] S F G Q
      refine go_iload_n (show decode cX5_kindOfByte 21 = .ok (.iload_n 2, 1) by decide +kernel) (by rfl) ?_
      refine go_bipush (show decode cX5_kindOfByte 22 = .ok (.bipush 97, 2) by decide +kernel) (by decide) ?_
      obtain ⟨ht, hf⟩ := h
      refine go_icmplt (tgt := 35) (show decode cX5_kindOfByte 24 = .ok (.if_icmp .lt 11, 3) by decide +kernel) (by decide) (fun hc => ?_) (fun hc => ?_)
      · have h := ht hc
        exact R_X5_kindOfByte_35 hsh h
      · have h := hf hc
        refine go_iload_n (show decode cX5_kindOfByte 27 = .ok (.iload_n 2, 1) by decide +kernel) (by rfl) ?_
        refine go_bipush (show decode cX5_kindOfByte 28 = .ok (.bipush 122, 2) by decide +kernel) (by decide) ?_
        obtain ⟨ht, hf⟩ := h
        refine go_icmpgt (tgt := 35) (show decode cX5_kindOfByte 30 = .ok (.if_icmp .gt 5, 3) by decide +kernel) (by decide) (fun hc => ?_) (fun hc => ?_)
        · have h := ht hc
          exact R_X5_kindOfByte_35 hsh h
        · have h := hf hc
          refine go_iconst (show decode cX5_kindOfByte 33 = .ok (.iconst 1, 1) by decide +kernel) (by decide) ?_
          exact go_iret (show decode cX5_kindOfByte 34 = .ok (.ireturn, 1) by decide +kernel) rfl h
    · have h := hf hc
      refine go_iconst (show decode cX5_kindOfByte 12 = .ok (.iconst 0, 1) by decide +kernel) (by decide) ?_
      exact go_iret (show decode cX5_kindOfByte 13 = .ok (.ireturn, 1) by decide +kernel) rfl h
def V_X5_readAct_86 (d : Nat) (S : AS) (F : AF) (G : AG) (Q : AQ) (a1 : Int) : Prop :=
  (1 ≤ d) ∧
  ∃ z6 : Int, Pu (d - 1) MX5_isSign [vR 46, vI 59] S F G (some (vI z6)) ∧
  ((¬ z6 = 0) →
    Ok (d - 1) MX5_step [vR 46] S F G (fun w8 S9 F10 G11 =>
    S9 = S ∧
    w8 = none ∧
    (r32 ((F10 46 9) + 1)) ∧
    ∀ F13 : AF, F13 = fu F10 46 9 ((F10 46 9) + 1) →
    Q none S F13 G11)) ∧
  ((z6 = 0) →
    Ok (d - 1) MX5_blame [vR 46, vI 1] S F G (fun w14 S15 F16 G17 =>
    S15 = S ∧
    w14 = none ∧
    Q none S F16 G17))
theorem R_X5_readAct_86 {d : Nat} {S : AS} {F : AF} {G : AG} {Q : AQ} {a1 : Int} (hsh : ShC S) (h : V_X5_readAct_86 d S F G Q a1) : Go d MX5_readAct 86 [some (vR 46), some (vI a1)] [] S F G Q := by
  unfold V_X5_readAct_86 at h
  refine go_aload_n (show decode cX5_readAct 86 = .ok (.aload_n 0, 1) by decide +kernel) (by rfl) ?_
  refine go_bipush (show decode cX5_readAct 87 = .ok (.bipush 59, 2) by decide +kernel) (by decide) ?_
  obtain ⟨q1, h⟩ := h
  obtain ⟨z6, p7, h⟩ := h
  refine go_callV (d2 := d - 1) (M2 := MX5_isSign) (n := 1) (ci := 5) (av := [vI 59]) (st := []) (show decode cX5_readAct 89 = .ok (.invokevirtual 84, 3) by decide +kernel) ml_X5_84 mt_X5_isSign min_X5_isSign mse_X5_isSign (by decide) (shc_k hsh 46 (by decide) (by decide)) rfl (Nat.le_of_ble_eq_true rfl) (by omega) (ok_mono p7 (fun w2 S3 F4 G5 e9 => ?_))
  obtain ⟨e1, e2, e3, e4⟩ := e9
  subst e1
  replace e2 := e2.symm; subst e2
  replace e3 := e3.symm; subst e3
  replace e4 := e4.symm; subst e4
  show Go d MX5_readAct 92 [some (vR 46), some (vI a1)] [vI z6] S F G Q
  obtain ⟨ht, hf⟩ := h
  refine go_ifne (tgt := 101) (show decode cX5_readAct 92 = .ok (.ifCond .ne 9, 3) by decide +kernel) (by decide) (fun hc => ?_) (fun hc => ?_)
  · have h := ht hc
    refine go_aload_n (show decode cX5_readAct 101 = .ok (.aload_n 0, 1) by decide +kernel) (by rfl) ?_
    refine go_callV (d2 := d - 1) (M2 := MX5_step) (n := 0) (ci := 5) (av := []) (st := []) (show decode cX5_readAct 102 = .ok (.invokevirtual 54, 3) by decide +kernel) ml_X5_54 mt_X5_step min_X5_step mse_X5_step (by decide) (shc_k hsh 46 (by decide) (by decide)) rfl (Nat.le_of_ble_eq_true rfl) (by omega) (ok_mono h (fun w8 S9 F10 G11 h => ?_))
    obtain ⟨e8, h⟩ := h
    replace e8 := e8.symm; subst e8
    obtain ⟨e9, h⟩ := h
    subst e9
    show Go d MX5_readAct 105 [some (vR 46), some (vI a1)] [] S F10 G11 Q
    refine go_aload_n (show decode cX5_readAct 105 = .ok (.aload_n 0, 1) by decide +kernel) (by rfl) ?_
    refine go_dup (show decode cX5_readAct 106 = .ok (.dup, 1) by decide +kernel) ?_
    refine go_getI (show decode cX5_readAct 107 = .ok (.getfield 33, 3) by decide +kernel) fl_X5_33 (Or.inl rfl) (shc_k hsh 46 (by decide) (by decide)) ?_
    refine go_iconst (show decode cX5_readAct 110 = .ok (.iconst 1, 1) by decide +kernel) (by decide) ?_
    obtain ⟨q12, h⟩ := h
    refine go_iadd (show decode cX5_readAct 111 = .ok (.iadd, 1) by decide +kernel) q12 ?_
    refine go_putI (show decode cX5_readAct 112 = .ok (.putfield 33, 3) by decide +kernel) fl_X5_33 rfl (Or.inl rfl) (shc_k hsh 46 (by decide) (by decide)) ?_
    obtain ⟨F13, F13e⟩ : ∃ F13 : AF, F13 = fu F10 46 9 ((F10 46 9) + 1) := ⟨_, rfl⟩
    have h := h F13 F13e
    rw [← F13e]
    exact go_vret (show decode cX5_readAct 115 = .ok (.return_, 1) by decide +kernel) rfl h
  · have h := hf hc
    refine go_aload_n (show decode cX5_readAct 95 = .ok (.aload_n 0, 1) by decide +kernel) (by rfl) ?_
    refine go_iconst (show decode cX5_readAct 96 = .ok (.iconst 1, 1) by decide +kernel) (by decide) ?_
    refine go_callV (d2 := d - 1) (M2 := MX5_blame) (n := 1) (ci := 5) (av := [vI 1]) (st := []) (show decode cX5_readAct 97 = .ok (.invokevirtual 67, 3) by decide +kernel) ml_X5_67 mt_X5_blame min_X5_blame mse_X5_blame (by decide) (shc_k hsh 46 (by decide) (by decide)) rfl (Nat.le_of_ble_eq_true rfl) (by omega) (ok_mono h (fun w14 S15 F16 G17 h => ?_))
    obtain ⟨e8, h⟩ := h
    replace e8 := e8.symm; subst e8
    obtain ⟨e9, h⟩ := h
    subst e9
    show Go d MX5_readAct 100 [some (vR 46), some (vI a1)] [] S F16 G17 Q
    exact go_vret (show decode cX5_readAct 100 = .ok (.return_, 1) by decide +kernel) rfl h
def V_X5_readAct_85 (d : Nat) (S : AS) (F : AF) (G : AG) (Q : AQ) (a1 : Int) (s0 : Int) (s1 : Int) (s2 : Nat) : Prop :=
  ((0 : Int) ≤ s1) ∧
  ((s1 : Int) < (sN S s2 : Int)) ∧
  ∀ G3 : AG, G3 = gu G s2 s1 s0 →
  V_X5_readAct_86 d S F G3 Q a1
theorem R_X5_readAct_85 {d : Nat} {S : AS} {F : AF} {G : AG} {Q : AQ} {a1 : Int} {s0 : Int} {s1 : Int} {s2 : Nat} (hsh : ShC S) (hs2 : AtJ S s2) (h : V_X5_readAct_85 d S F G Q a1 s0 s1 s2) : Go d MX5_readAct 85 [some (vR 46), some (vI a1)] [vJ s0, vI s1, vR s2] S F G Q := by
  unfold V_X5_readAct_85 at h
  obtain ⟨q1, h⟩ := h
  obtain ⟨q2, h⟩ := h
  refine go_lastore (show decode cX5_readAct 85 = .ok (.lastore, 1) by decide +kernel) hs2 q1 q2  ?_
  obtain ⟨G3, G3e⟩ : ∃ G3 : AG, G3 = gu G s2 s1 s0 := ⟨_, rfl⟩
  have h := h G3 G3e
  rw [← G3e]
  exact R_X5_readAct_86 hsh h
def V_X5_readAct_54 (d : Nat) (S : AS) (F : AF) (G : AG) (Q : AQ) (a1 : Int) : Prop :=
  (1 ≤ d) ∧
  Ok (d - 1) MX5_readPlace [vR 46] S F G (fun w2 S3 F4 G5 =>
  S3 = S ∧
  w2 = none ∧
  ((¬ a1 = 0) →
    Ok (d - 1) MX5_readNumber [vR 46, vJ 1, vJ 3000000000000000000] S F4 G5 (fun w6 S7 F8 G9 =>
    S7 = S ∧
    ∃ z10 : Int, w6 = some (vJ z10) ∧
    V_X5_readAct_85 d S F8 G9 Q a1 z10 (F4 46 9) 50)) ∧
  ((a1 = 0) →
    Ok (d - 1) MX5_readAdded [vR 46] S F4 G5 (fun w11 S12 F13 G14 =>
    S12 = S ∧
    ∃ z15 : Int, w11 = some (vJ z15) ∧
    V_X5_readAct_85 d S F13 G14 Q a1 z15 (F4 46 9) 50)))
theorem R_X5_readAct_54 {d : Nat} {S : AS} {F : AF} {G : AG} {Q : AQ} {a1 : Int} (hsh : ShC S) (h : V_X5_readAct_54 d S F G Q a1) : Go d MX5_readAct 54 [some (vR 46), some (vI a1)] [] S F G Q := by
  unfold V_X5_readAct_54 at h
  refine go_aload_n (show decode cX5_readAct 54 = .ok (.aload_n 0, 1) by decide +kernel) (by rfl) ?_
  obtain ⟨q1, h⟩ := h
  refine go_callV (d2 := d - 1) (M2 := MX5_readPlace) (n := 0) (ci := 5) (av := []) (st := []) (show decode cX5_readAct 55 = .ok (.invokevirtual 71, 3) by decide +kernel) ml_X5_71 mt_X5_readPlace min_X5_readPlace mse_X5_readPlace (by decide) (shc_k hsh 46 (by decide) (by decide)) rfl (Nat.le_of_ble_eq_true rfl) (by omega) (ok_mono h (fun w2 S3 F4 G5 h => ?_))
  obtain ⟨e8, h⟩ := h
  replace e8 := e8.symm; subst e8
  obtain ⟨e9, h⟩ := h
  subst e9
  show Go d MX5_readAct 58 [some (vR 46), some (vI a1)] [] S F4 G5 Q
  refine go_aload_n (show decode cX5_readAct 58 = .ok (.aload_n 0, 1) by decide +kernel) (by rfl) ?_
  refine go_getRc (show decode cX5_readAct 59 = .ok (.getfield 22, 3) by decide +kernel) fl_X5_22 rfl (shc_k hsh 46 (by decide) (by decide)) (v := 50) (shc_r hsh 46 8 (by decide) (by decide) (by decide)) ?_
  refine go_aload_n (show decode cX5_readAct 62 = .ok (.aload_n 0, 1) by decide +kernel) (by rfl) ?_
  refine go_getI (show decode cX5_readAct 63 = .ok (.getfield 33, 3) by decide +kernel) fl_X5_33 (Or.inl rfl) (shc_k hsh 46 (by decide) (by decide)) ?_
  refine go_iload_n (show decode cX5_readAct 66 = .ok (.iload_n 1, 1) by decide +kernel) (by rfl) ?_
  obtain ⟨ht, hf⟩ := h
  refine go_ifne (tgt := 77) (show decode cX5_readAct 67 = .ok (.ifCond .ne 10, 3) by decide +kernel) (by decide) (fun hc => ?_) (fun hc => ?_)
  · have h := ht hc
    refine go_aload_n (show decode cX5_readAct 77 = .ok (.aload_n 0, 1) by decide +kernel) (by rfl) ?_
    refine go_lconst (n := 1) (show decode cX5_readAct 78 = .ok (.lconst 1, 1) by decide +kernel) ?_
    show Go d MX5_readAct 79 [some (vR 46), some (vI a1)] [vJ 1, vR 46, vI (F4 46 9), vR 50] S F4 G5 Q
    refine go_ldc2 (show decode cX5_readAct 79 = .ok (.ldc2_w 78, 3) by decide +kernel) lc_X5_78 (by decide) ?_
    refine go_callV (d2 := d - 1) (M2 := MX5_readNumber) (n := 2) (ci := 5) (av := [vJ 1, vJ 3000000000000000000]) (st := [vI (F4 46 9), vR 50]) (show decode cX5_readAct 82 = .ok (.invokevirtual 80, 3) by decide +kernel) ml_X5_80 mt_X5_readNumber min_X5_readNumber mse_X5_readNumber (by decide) (shc_k hsh 46 (by decide) (by decide)) rfl (Nat.le_of_ble_eq_true rfl) (by omega) (ok_mono h (fun w6 S7 F8 G9 h => ?_))
    obtain ⟨e8, h⟩ := h
    replace e8 := e8.symm; subst e8
    obtain ⟨z10, e9, h⟩ := h
    subst e9
    show Go d MX5_readAct 85 [some (vR 46), some (vI a1)] [vJ z10, vI (F4 46 9), vR 50] S F8 G9 Q
    exact R_X5_readAct_85 hsh (at_50 hsh) h
  · have h := hf hc
    refine go_aload_n (show decode cX5_readAct 70 = .ok (.aload_n 0, 1) by decide +kernel) (by rfl) ?_
    refine go_callV (d2 := d - 1) (M2 := MX5_readAdded) (n := 0) (ci := 5) (av := []) (st := [vI (F4 46 9), vR 50]) (show decode cX5_readAct 71 = .ok (.invokevirtual 74, 3) by decide +kernel) ml_X5_74 mt_X5_readAdded min_X5_readAdded mse_X5_readAdded (by decide) (shc_k hsh 46 (by decide) (by decide)) rfl (Nat.le_of_ble_eq_true rfl) (by omega) (ok_mono h (fun w11 S12 F13 G14 h => ?_))
    obtain ⟨e8, h⟩ := h
    replace e8 := e8.symm; subst e8
    obtain ⟨z15, e9, h⟩ := h
    subst e9
    show Go d MX5_readAct 74 [some (vR 46), some (vI a1)] [vJ z15, vI (F4 46 9), vR 50] S F13 G14 Q
    refine go_goto (tgt := 85) (show decode cX5_readAct 74 = .ok (.goto 11, 3) by decide +kernel) (by decide) ?_
    exact R_X5_readAct_85 hsh (at_50 hsh) h
def V_X5_readAct_0 (d : Nat) (S : AS) (F : AF) (G : AG) (Q : AQ)  : Prop :=
  (1 ≤ d) ∧
  ∃ z6 : Int, Pu (d - 1) MX5_kindOfWord [vR 46] S F G (some (vI z6)) ∧
  ((¬ z6 = -1) →
    ((F 46 9 < 30) →
      Ok (d - 1) MX5_step [vR 46] S F G (fun w8 S9 F10 G11 =>
      S9 = S ∧
      w8 = none ∧
      ((0 : Int) ≤ F10 46 9) ∧
      ((F10 46 9 : Int) < 30) ∧
      ∀ G14 : AG, G14 = gu G11 48 (F10 46 9) z6 →
      ((z6 = 0) →
        V_X5_readAct_54 d S F10 G14 Q z6) ∧
      ((¬ z6 = 0) →
        ((¬ z6 = 1) →
          V_X5_readAct_86 d S F10 G14 Q z6) ∧
        ((z6 = 1) →
          V_X5_readAct_54 d S F10 G14 Q z6)))) ∧
    ((¬ F 46 9 < 30) →
      Ok (d - 1) MX5_blame [vR 46, vI 3] S F G (fun w15 S16 F17 G18 =>
      S16 = S ∧
      w15 = none ∧
      Q none S F17 G18))) ∧
  ((z6 = -1) →
    Ok (d - 1) MX5_blame [vR 46, vI 1] S F G (fun w19 S20 F21 G22 =>
    S20 = S ∧
    w19 = none ∧
    Q none S F21 G22))
theorem R_X5_readAct_0 {d : Nat} {S : AS} {F : AF} {G : AG} {Q : AQ}  (hsh : ShC S) (h : V_X5_readAct_0 d S F G Q ) : Go d MX5_readAct 0 [some (vR 46), none] [] S F G Q := by
  unfold V_X5_readAct_0 at h
  refine go_aload_n (show decode cX5_readAct 0 = .ok (.aload_n 0, 1) by decide +kernel) (by rfl) ?_
  obtain ⟨q1, h⟩ := h
  obtain ⟨z6, p7, h⟩ := h
  refine go_callV (d2 := d - 1) (M2 := MX5_kindOfWord) (n := 0) (ci := 5) (av := []) (st := []) (show decode cX5_readAct 1 = .ok (.invokevirtual 63, 3) by decide +kernel) ml_X5_63 mt_X5_kindOfWord min_X5_kindOfWord mse_X5_kindOfWord (by decide) (shc_k hsh 46 (by decide) (by decide)) rfl (Nat.le_of_ble_eq_true rfl) (by omega) (ok_mono p7 (fun w2 S3 F4 G5 e9 => ?_))
  obtain ⟨e1, e2, e3, e4⟩ := e9
  subst e1
  replace e2 := e2.symm; subst e2
  replace e3 := e3.symm; subst e3
  replace e4 := e4.symm; subst e4
  show Go d MX5_readAct 4 [some (vR 46), none] [vI z6] S F G Q
  refine go_istore_n (show decode cX5_readAct 4 = .ok (.istore_n 1, 1) by decide +kernel) (by decide) ?_
  show Go d MX5_readAct 5 [some (vR 46), some (vI z6)] [] S F G Q
  refine go_iload_n (show decode cX5_readAct 5 = .ok (.iload_n 1, 1) by decide +kernel) (by rfl) ?_
  refine go_iconst (show decode cX5_readAct 6 = .ok (.iconst (-1), 1) by decide +kernel) (by decide) ?_
  obtain ⟨ht, hf⟩ := h
  refine go_icmpne (tgt := 16) (show decode cX5_readAct 7 = .ok (.if_icmp .ne 9, 3) by decide +kernel) (by decide) (fun hc => ?_) (fun hc => ?_)
  · have h := ht hc
    refine go_aload_n (show decode cX5_readAct 16 = .ok (.aload_n 0, 1) by decide +kernel) (by rfl) ?_
    refine go_getI (show decode cX5_readAct 17 = .ok (.getfield 33, 3) by decide +kernel) fl_X5_33 (Or.inl rfl) (shc_k hsh 46 (by decide) (by decide)) ?_
    refine go_bipush (show decode cX5_readAct 20 = .ok (.bipush 30, 2) by decide +kernel) (by decide) ?_
    obtain ⟨ht, hf⟩ := h
    refine go_icmplt (tgt := 31) (show decode cX5_readAct 22 = .ok (.if_icmp .lt 9, 3) by decide +kernel) (by decide) (fun hc => ?_) (fun hc => ?_)
    · have h := ht hc
      refine go_aload_n (show decode cX5_readAct 31 = .ok (.aload_n 0, 1) by decide +kernel) (by rfl) ?_
      refine go_callV (d2 := d - 1) (M2 := MX5_step) (n := 0) (ci := 5) (av := []) (st := []) (show decode cX5_readAct 32 = .ok (.invokevirtual 54, 3) by decide +kernel) ml_X5_54 mt_X5_step min_X5_step mse_X5_step (by decide) (shc_k hsh 46 (by decide) (by decide)) rfl (Nat.le_of_ble_eq_true rfl) (by omega) (ok_mono h (fun w8 S9 F10 G11 h => ?_))
      obtain ⟨e8, h⟩ := h
      replace e8 := e8.symm; subst e8
      obtain ⟨e9, h⟩ := h
      subst e9
      show Go d MX5_readAct 35 [some (vR 46), some (vI z6)] [] S F10 G11 Q
      refine go_aload_n (show decode cX5_readAct 35 = .ok (.aload_n 0, 1) by decide +kernel) (by rfl) ?_
      refine go_getRc (show decode cX5_readAct 36 = .ok (.getfield 15, 3) by decide +kernel) fl_X5_15 rfl (shc_k hsh 46 (by decide) (by decide)) (v := 48) (shc_r hsh 46 6 (by decide) (by decide) (by decide)) ?_
      refine go_aload_n (show decode cX5_readAct 39 = .ok (.aload_n 0, 1) by decide +kernel) (by rfl) ?_
      refine go_getI (show decode cX5_readAct 40 = .ok (.getfield 33, 3) by decide +kernel) fl_X5_33 (Or.inl rfl) (shc_k hsh 46 (by decide) (by decide)) ?_
      refine go_iload_n (show decode cX5_readAct 43 = .ok (.iload_n 1, 1) by decide +kernel) (by rfl) ?_
      obtain ⟨q12, h⟩ := h
      obtain ⟨q13, h⟩ := h
      refine go_iastore (show decode cX5_readAct 44 = .ok (.iastore, 1) by decide +kernel) (shc_k hsh 48 (by decide) (by decide)) q12 (lt_n (m := 30) q13 (shc_n hsh 48 (by decide) (by decide)))  ?_
      obtain ⟨G14, G14e⟩ : ∃ G14 : AG, G14 = gu G11 48 (F10 46 9) z6 := ⟨_, rfl⟩
      have h := h G14 G14e
      rw [← G14e]
      refine go_iload_n (show decode cX5_readAct 45 = .ok (.iload_n 1, 1) by decide +kernel) (by rfl) ?_
      obtain ⟨ht, hf⟩ := h
      refine go_ifeq (tgt := 54) (show decode cX5_readAct 46 = .ok (.ifCond .eq 8, 3) by decide +kernel) (by decide) (fun hc => ?_) (fun hc => ?_)
      · have h := ht hc
        exact R_X5_readAct_54 hsh h
      · have h := hf hc
        refine go_iload_n (show decode cX5_readAct 49 = .ok (.iload_n 1, 1) by decide +kernel) (by rfl) ?_
        refine go_iconst (show decode cX5_readAct 50 = .ok (.iconst 1, 1) by decide +kernel) (by decide) ?_
        obtain ⟨ht, hf⟩ := h
        refine go_icmpne (tgt := 86) (show decode cX5_readAct 51 = .ok (.if_icmp .ne 35, 3) by decide +kernel) (by decide) (fun hc => ?_) (fun hc => ?_)
        · have h := ht hc
          exact R_X5_readAct_86 hsh h
        · have h := hf hc
          exact R_X5_readAct_54 hsh h
    · have h := hf hc
      refine go_aload_n (show decode cX5_readAct 25 = .ok (.aload_n 0, 1) by decide +kernel) (by rfl) ?_
      refine go_iconst (show decode cX5_readAct 26 = .ok (.iconst 3, 1) by decide +kernel) (by decide) ?_
      refine go_callV (d2 := d - 1) (M2 := MX5_blame) (n := 1) (ci := 5) (av := [vI 3]) (st := []) (show decode cX5_readAct 27 = .ok (.invokevirtual 67, 3) by decide +kernel) ml_X5_67 mt_X5_blame min_X5_blame mse_X5_blame (by decide) (shc_k hsh 46 (by decide) (by decide)) rfl (Nat.le_of_ble_eq_true rfl) (by omega) (ok_mono h (fun w15 S16 F17 G18 h => ?_))
      obtain ⟨e8, h⟩ := h
      replace e8 := e8.symm; subst e8
      obtain ⟨e9, h⟩ := h
      subst e9
      show Go d MX5_readAct 30 [some (vR 46), some (vI z6)] [] S F17 G18 Q
      exact go_vret (show decode cX5_readAct 30 = .ok (.return_, 1) by decide +kernel) rfl h
  · have h := hf hc
    refine go_aload_n (show decode cX5_readAct 10 = .ok (.aload_n 0, 1) by decide +kernel) (by rfl) ?_
    refine go_iconst (show decode cX5_readAct 11 = .ok (.iconst 1, 1) by decide +kernel) (by decide) ?_
    refine go_callV (d2 := d - 1) (M2 := MX5_blame) (n := 1) (ci := 5) (av := [vI 1]) (st := []) (show decode cX5_readAct 12 = .ok (.invokevirtual 67, 3) by decide +kernel) ml_X5_67 mt_X5_blame min_X5_blame mse_X5_blame (by decide) (shc_k hsh 46 (by decide) (by decide)) rfl (Nat.le_of_ble_eq_true rfl) (by omega) (ok_mono h (fun w19 S20 F21 G22 h => ?_))
    obtain ⟨e8, h⟩ := h
    replace e8 := e8.symm; subst e8
    obtain ⟨e9, h⟩ := h
    subst e9
    show Go d MX5_readAct 15 [some (vR 46), some (vI z6)] [] S F21 G22 Q
    exact go_vret (show decode cX5_readAct 15 = .ok (.return_, 1) by decide +kernel) rfl h
def V_X5_blame_0 (d : Nat) (S : AS) (F : AF) (G : AG) (Q : AQ) (a1 : Int) : Prop :=
  ((¬ F 46 10 = 0) →
    Q none S F G) ∧
  ((F 46 10 = 0) →
    ∀ F1 : AF, F1 = fu F 46 10 a1 →
    ∀ F2 : AF, F2 = fu F1 46 11 (F1 46 4) →
    Q none S F2 G)
theorem R_X5_blame_0 {d : Nat} {S : AS} {F : AF} {G : AG} {Q : AQ} {a1 : Int} (hsh : ShC S) (h : V_X5_blame_0 d S F G Q a1) : Go d MX5_blame 0 [some (vR 46), some (vI a1)] [] S F G Q := by
  unfold V_X5_blame_0 at h
  refine go_aload_n (show decode cX5_blame 0 = .ok (.aload_n 0, 1) by decide +kernel) (by rfl) ?_
  refine go_getI (show decode cX5_blame 1 = .ok (.getfield 51, 3) by decide +kernel) fl_X5_51 (Or.inl rfl) (shc_k hsh 46 (by decide) (by decide)) ?_
  obtain ⟨ht, hf⟩ := h
  refine go_ifne (tgt := 20) (show decode cX5_blame 4 = .ok (.ifCond .ne 16, 3) by decide +kernel) (by decide) (fun hc => ?_) (fun hc => ?_)
  · have h := ht hc
    exact go_vret (show decode cX5_blame 20 = .ok (.return_, 1) by decide +kernel) rfl h
  · have h := hf hc
    refine go_aload_n (show decode cX5_blame 7 = .ok (.aload_n 0, 1) by decide +kernel) (by rfl) ?_
    refine go_iload_n (show decode cX5_blame 8 = .ok (.iload_n 1, 1) by decide +kernel) (by rfl) ?_
    refine go_putI (show decode cX5_blame 9 = .ok (.putfield 51, 3) by decide +kernel) fl_X5_51 rfl (Or.inl rfl) (shc_k hsh 46 (by decide) (by decide)) ?_
    obtain ⟨F1, F1e⟩ : ∃ F1 : AF, F1 = fu F 46 10 a1 := ⟨_, rfl⟩
    have h := h F1 F1e
    rw [← F1e]
    refine go_aload_n (show decode cX5_blame 12 = .ok (.aload_n 0, 1) by decide +kernel) (by rfl) ?_
    refine go_aload_n (show decode cX5_blame 13 = .ok (.aload_n 0, 1) by decide +kernel) (by rfl) ?_
    refine go_getI (show decode cX5_blame 14 = .ok (.getfield 97, 3) by decide +kernel) fl_X5_97 (Or.inl rfl) (shc_k hsh 46 (by decide) (by decide)) ?_
    refine go_putI (show decode cX5_blame 17 = .ok (.putfield 26, 3) by decide +kernel) fl_X5_26 rfl (Or.inl rfl) (shc_k hsh 46 (by decide) (by decide)) ?_
    obtain ⟨F2, F2e⟩ : ∃ F2 : AF, F2 = fu F1 46 11 (F1 46 4) := ⟨_, rfl⟩
    have h := h F2 F2e
    rw [← F2e]
    exact go_vret (show decode cX5_blame 20 = .ok (.return_, 1) by decide +kernel) rfl h
def V_X5_readPlace_34 (d : Nat) (S : AS) (F : AF) (G : AG) (Q : AQ) (a1 : Int) (s0 : Int) (s1 : Int) (s3 : Int) (s4 : Nat) : Prop :=
  (1 ≤ d) ∧
  Ok (d - 1) MX5_readNumber [vR 46, vJ s1, vJ s0] S F G (fun w2 S3 F4 G5 =>
  S3 = S ∧
  ∃ z6 : Int, w2 = some (vJ z6) ∧
  (r32 (z6)) ∧
  ((0 : Int) ≤ s3) ∧
  ((s3 : Int) < (sN S s4 : Int)) ∧
  ∀ G10 : AG, G10 = gu G5 s4 s3 z6 →
  (r32 (a1 + 1)) ∧
  Go d MX5_readPlace 2 [some (vR 46), some (vI (a1 + 1))] [] S F4 G10 Q)
theorem R_X5_readPlace_34 {d : Nat} {S : AS} {F : AF} {G : AG} {Q : AQ} {a1 : Int} {s0 : Int} {s1 : Int} {s3 : Int} {s4 : Nat} (hsh : ShC S) (hs4 : AtI S s4) (h : V_X5_readPlace_34 d S F G Q a1 s0 s1 s3 s4) : Go d MX5_readPlace 34 [some (vR 46), some (vI a1)] [vJ s0, vJ s1, vR 46, vI s3, vR s4] S F G Q := by
  unfold V_X5_readPlace_34 at h
  obtain ⟨q1, h⟩ := h
  refine go_callV (d2 := d - 1) (M2 := MX5_readNumber) (n := 2) (ci := 5) (av := [vJ s1, vJ s0]) (st := [vI s3, vR s4]) (show decode cX5_readPlace 34 = .ok (.invokevirtual 80, 3) by decide +kernel) ml_X5_80 mt_X5_readNumber min_X5_readNumber mse_X5_readNumber (by decide) (shc_k hsh 46 (by decide) (by decide)) rfl (Nat.le_of_ble_eq_true rfl) (by omega) (ok_mono h (fun w2 S3 F4 G5 h => ?_))
  obtain ⟨e8, h⟩ := h
  replace e8 := e8.symm; subst e8
  obtain ⟨z6, e9, h⟩ := h
  subst e9
  show Go d MX5_readPlace 37 [some (vR 46), some (vI a1)] [vJ z6, vI s3, vR s4] S F4 G5 Q
  obtain ⟨q7, h⟩ := h
  refine go_l2i (show decode cX5_readPlace 37 = .ok (.l2i, 1) by decide +kernel) q7 ?_
  obtain ⟨q8, h⟩ := h
  obtain ⟨q9, h⟩ := h
  refine go_iastore (show decode cX5_readPlace 38 = .ok (.iastore, 1) by decide +kernel) hs4 q8 q9  ?_
  obtain ⟨G10, G10e⟩ : ∃ G10 : AG, G10 = gu G5 s4 s3 z6 := ⟨_, rfl⟩
  have h := h G10 G10e
  rw [← G10e]
  obtain ⟨q11, h⟩ := h
  refine go_iinc (show decode cX5_readPlace 39 = .ok (.iinc 1 1, 3) by decide +kernel) (by rfl) q11 (by decide) ?_
  show Go d MX5_readPlace 42 [some (vR 46), some (vI (a1 + 1))] [] S F4 G10 Q
  refine go_goto (tgt := 2) (show decode cX5_readPlace 42 = .ok (.goto (-40), 3) by decide +kernel) (by decide) ?_
  exact h
def V_X5_readPlace_2 (d : Nat) (S : AS) (F : AF) (G : AG) (Q : AQ) (a1 : Int) : Prop :=
  ((5 ≤ a1) →
    Q none S F G) ∧
  ((¬ 5 ≤ a1) →
    (r32 (5 * (F 46 9))) ∧
    (r32 ((5 * (F 46 9)) + a1)) ∧
    ((¬ a1 = 0) →
      V_X5_readPlace_34 d S F G Q a1 9999 0 ((5 * (F 46 9)) + a1) 49) ∧
    ((a1 = 0) →
      V_X5_readPlace_34 d S F G Q a1 2 0 ((5 * (F 46 9)) + a1) 49))
theorem R_X5_readPlace_2 {d : Nat} {S : AS} {F : AF} {G : AG} {Q : AQ} {a1 : Int} (hsh : ShC S) (h : V_X5_readPlace_2 d S F G Q a1) : Go d MX5_readPlace 2 [some (vR 46), some (vI a1)] [] S F G Q := by
  unfold V_X5_readPlace_2 at h
  refine go_iload_n (show decode cX5_readPlace 2 = .ok (.iload_n 1, 1) by decide +kernel) (by rfl) ?_
  refine go_iconst (show decode cX5_readPlace 3 = .ok (.iconst 5, 1) by decide +kernel) (by decide) ?_
  obtain ⟨ht, hf⟩ := h
  refine go_icmpge (tgt := 45) (show decode cX5_readPlace 4 = .ok (.if_icmp .ge 41, 3) by decide +kernel) (by decide) (fun hc => ?_) (fun hc => ?_)
  · have h := ht hc
    exact go_vret (show decode cX5_readPlace 45 = .ok (.return_, 1) by decide +kernel) rfl h
  · have h := hf hc
    refine go_aload_n (show decode cX5_readPlace 7 = .ok (.aload_n 0, 1) by decide +kernel) (by rfl) ?_
    refine go_getRc (show decode cX5_readPlace 8 = .ok (.getfield 19, 3) by decide +kernel) fl_X5_19 rfl (shc_k hsh 46 (by decide) (by decide)) (v := 49) (shc_r hsh 46 7 (by decide) (by decide) (by decide)) ?_
    refine go_iconst (show decode cX5_readPlace 11 = .ok (.iconst 5, 1) by decide +kernel) (by decide) ?_
    refine go_aload_n (show decode cX5_readPlace 12 = .ok (.aload_n 0, 1) by decide +kernel) (by rfl) ?_
    refine go_getI (show decode cX5_readPlace 13 = .ok (.getfield 33, 3) by decide +kernel) fl_X5_33 (Or.inl rfl) (shc_k hsh 46 (by decide) (by decide)) ?_
    obtain ⟨q1, h⟩ := h
    refine go_imul (show decode cX5_readPlace 16 = .ok (.imul, 1) by decide +kernel) q1 ?_
    refine go_iload_n (show decode cX5_readPlace 17 = .ok (.iload_n 1, 1) by decide +kernel) (by rfl) ?_
    obtain ⟨q2, h⟩ := h
    refine go_iadd (show decode cX5_readPlace 18 = .ok (.iadd, 1) by decide +kernel) q2 ?_
    refine go_aload_n (show decode cX5_readPlace 19 = .ok (.aload_n 0, 1) by decide +kernel) (by rfl) ?_
    refine go_lconst (n := 0) (show decode cX5_readPlace 20 = .ok (.lconst 0, 1) by decide +kernel) ?_
    show Go d MX5_readPlace 21 [some (vR 46), some (vI a1)] [vJ 0, vR 46, vI ((5 * (F 46 9)) + a1), vR 49] S F G Q
    refine go_iload_n (show decode cX5_readPlace 21 = .ok (.iload_n 1, 1) by decide +kernel) (by rfl) ?_
    obtain ⟨ht, hf⟩ := h
    refine go_ifne (tgt := 31) (show decode cX5_readPlace 22 = .ok (.ifCond .ne 9, 3) by decide +kernel) (by decide) (fun hc => ?_) (fun hc => ?_)
    · have h := ht hc
      refine go_ldc2 (show decode cX5_readPlace 31 = .ok (.ldc2_w 90, 3) by decide +kernel) lc_X5_90 (by decide) ?_
      exact R_X5_readPlace_34 hsh (at_49 hsh) h
    · have h := hf hc
      refine go_ldc2 (show decode cX5_readPlace 25 = .ok (.ldc2_w 88, 3) by decide +kernel) lc_X5_88 (by decide) ?_
      refine go_goto (tgt := 34) (show decode cX5_readPlace 28 = .ok (.goto 6, 3) by decide +kernel) (by decide) ?_
      exact R_X5_readPlace_34 hsh (at_49 hsh) h
def V_X5_readPlace_0 (d : Nat) (S : AS) (F : AF) (G : AG) (Q : AQ)  : Prop :=
  Go d MX5_readPlace 2 [some (vR 46), some (vI 0)] [] S F G Q
theorem R_X5_readPlace_0 {d : Nat} {S : AS} {F : AF} {G : AG} {Q : AQ}  (hsh : ShC S) (h : V_X5_readPlace_0 d S F G Q ) : Go d MX5_readPlace 0 [some (vR 46), none] [] S F G Q := by
  unfold V_X5_readPlace_0 at h
  refine go_iconst (show decode cX5_readPlace 0 = .ok (.iconst 0, 1) by decide +kernel) (by decide) ?_
  refine go_istore_n (show decode cX5_readPlace 1 = .ok (.istore_n 1, 1) by decide +kernel) (by decide) ?_
  show Go d MX5_readPlace 2 [some (vR 46), some (vI 0)] [] S F G Q
  exact h
def V_X5_readNumber_49 (d : Nat) (S : AS) (F : AF) (G : AG) (Q : AQ) (a1 : Int) (a3 : Int) (a5 : Int) : Prop :=
  (1 ≤ d) ∧
  Ok (d - 1) MX5_blame [vR 46, vI 2] S F G (fun w2 S3 F4 G5 =>
  S3 = S ∧
  w2 = none ∧
  Q (some (vJ 0)) S F4 G5)
theorem R_X5_readNumber_49 {d : Nat} {S : AS} {F : AF} {G : AG} {Q : AQ} {a1 : Int} {a3 : Int} {a5 : Int} (hsh : ShC S) (h : V_X5_readNumber_49 d S F G Q a1 a3 a5) : Go d MX5_readNumber 49 [some (vR 46), some (vJ a1), none, some (vJ a3), none, some (vJ a5), none] [] S F G Q := by
  unfold V_X5_readNumber_49 at h
  refine go_aload_n (show decode cX5_readNumber 49 = .ok (.aload_n 0, 1) by decide +kernel) (by rfl) ?_
  refine go_iconst (show decode cX5_readNumber 50 = .ok (.iconst 2, 1) by decide +kernel) (by decide) ?_
  obtain ⟨q1, h⟩ := h
  refine go_callV (d2 := d - 1) (M2 := MX5_blame) (n := 1) (ci := 5) (av := [vI 2]) (st := []) (show decode cX5_readNumber 51 = .ok (.invokevirtual 67, 3) by decide +kernel) ml_X5_67 mt_X5_blame min_X5_blame mse_X5_blame (by decide) (shc_k hsh 46 (by decide) (by decide)) rfl (Nat.le_of_ble_eq_true rfl) (by omega) (ok_mono h (fun w2 S3 F4 G5 h => ?_))
  obtain ⟨e8, h⟩ := h
  replace e8 := e8.symm; subst e8
  obtain ⟨e9, h⟩ := h
  subst e9
  show Go d MX5_readNumber 54 [some (vR 46), some (vJ a1), none, some (vJ a3), none, some (vJ a5), none] [] S F4 G5 Q
  refine go_lconst (n := 0) (show decode cX5_readNumber 54 = .ok (.lconst 0, 1) by decide +kernel) ?_
  show Go d MX5_readNumber 55 [some (vR 46), some (vJ a1), none, some (vJ a3), none, some (vJ a5), none] [vJ 0] S F4 G5 Q
  exact go_lret (show decode cX5_readNumber 55 = .ok (.lreturn, 1) by decide +kernel) rfl h
def V_X5_readNumber_0 (d : Nat) (S : AS) (F : AF) (G : AG) (Q : AQ) (a1 : Int) (a3 : Int) : Prop :=
  ((F 46 3 = 2) →
    (1 ≤ d) ∧
    ∃ z6 : Int, Pu (d - 1) MX5_numberOfToken [vR 46] S F G (some (vJ z6)) ∧
    (r32 ((F 46 5) - (F 46 4))) ∧
    ((19 < (F 46 5) - (F 46 4)) →
      V_X5_readNumber_49 d S F G Q a1 a3 z6) ∧
    ((¬ 19 < (F 46 5) - (F 46 4)) →
      ((z6 < a1) →
        V_X5_readNumber_49 d S F G Q a1 a3 z6) ∧
      ((¬ z6 < a1) →
        ((z6 ≤ a3) →
          Ok (d - 1) MX5_step [vR 46] S F G (fun w9 S10 F11 G12 =>
          S10 = S ∧
          w9 = none ∧
          Q (some (vJ z6)) S F11 G12)) ∧
        ((¬ z6 ≤ a3) →
          V_X5_readNumber_49 d S F G Q a1 a3 z6)))) ∧
  ((¬ F 46 3 = 2) →
    (1 ≤ d) ∧
    Ok (d - 1) MX5_blame [vR 46, vI 1] S F G (fun w14 S15 F16 G17 =>
    S15 = S ∧
    w14 = none ∧
    Q (some (vJ 0)) S F16 G17))
theorem R_X5_readNumber_0 {d : Nat} {S : AS} {F : AF} {G : AG} {Q : AQ} {a1 : Int} {a3 : Int} (hsh : ShC S) (h : V_X5_readNumber_0 d S F G Q a1 a3) : Go d MX5_readNumber 0 [some (vR 46), some (vJ a1), none, some (vJ a3), none, none, none] [] S F G Q := by
  unfold V_X5_readNumber_0 at h
  refine go_aload_n (show decode cX5_readNumber 0 = .ok (.aload_n 0, 1) by decide +kernel) (by rfl) ?_
  refine go_getI (show decode cX5_readNumber 1 = .ok (.getfield 57, 3) by decide +kernel) fl_X5_57 (Or.inl rfl) (shc_k hsh 46 (by decide) (by decide)) ?_
  refine go_iconst (show decode cX5_readNumber 4 = .ok (.iconst 2, 1) by decide +kernel) (by decide) ?_
  obtain ⟨ht, hf⟩ := h
  refine go_icmpeq (tgt := 15) (show decode cX5_readNumber 5 = .ok (.if_icmp .eq 10, 3) by decide +kernel) (by decide) (fun hc => ?_) (fun hc => ?_)
  · have h := ht hc
    refine go_aload_n (show decode cX5_readNumber 15 = .ok (.aload_n 0, 1) by decide +kernel) (by rfl) ?_
    obtain ⟨q1, h⟩ := h
    obtain ⟨z6, p7, h⟩ := h
    refine go_callV (d2 := d - 1) (M2 := MX5_numberOfToken) (n := 0) (ci := 5) (av := []) (st := []) (show decode cX5_readNumber 16 = .ok (.invokevirtual 94, 3) by decide +kernel) ml_X5_94 mt_X5_numberOfToken min_X5_numberOfToken mse_X5_numberOfToken (by decide) (shc_k hsh 46 (by decide) (by decide)) rfl (Nat.le_of_ble_eq_true rfl) (by omega) (ok_mono p7 (fun w2 S3 F4 G5 e9 => ?_))
    obtain ⟨e1, e2, e3, e4⟩ := e9
    subst e1
    replace e2 := e2.symm; subst e2
    replace e3 := e3.symm; subst e3
    replace e4 := e4.symm; subst e4
    show Go d MX5_readNumber 19 [some (vR 46), some (vJ a1), none, some (vJ a3), none, none, none] [vJ z6] S F G Q
    refine go_lstore (show decode cX5_readNumber 19 = .ok (.lstore 5, 2) by decide +kernel) (by decide) ?_
    show Go d MX5_readNumber 21 [some (vR 46), some (vJ a1), none, some (vJ a3), none, some (vJ z6), none] [] S F G Q
    refine go_aload_n (show decode cX5_readNumber 21 = .ok (.aload_n 0, 1) by decide +kernel) (by rfl) ?_
    refine go_getI (show decode cX5_readNumber 22 = .ok (.getfield 48, 3) by decide +kernel) fl_X5_48 (Or.inl rfl) (shc_k hsh 46 (by decide) (by decide)) ?_
    refine go_aload_n (show decode cX5_readNumber 25 = .ok (.aload_n 0, 1) by decide +kernel) (by rfl) ?_
    refine go_getI (show decode cX5_readNumber 26 = .ok (.getfield 97, 3) by decide +kernel) fl_X5_97 (Or.inl rfl) (shc_k hsh 46 (by decide) (by decide)) ?_
    obtain ⟨q8, h⟩ := h
    refine go_isub (show decode cX5_readNumber 29 = .ok (.isub, 1) by decide +kernel) q8 ?_
    refine go_bipush (show decode cX5_readNumber 30 = .ok (.bipush 19, 2) by decide +kernel) (by decide) ?_
    obtain ⟨ht, hf⟩ := h
    refine go_icmpgt (tgt := 49) (show decode cX5_readNumber 32 = .ok (.if_icmp .gt 17, 3) by decide +kernel) (by decide) (fun hc => ?_) (fun hc => ?_)
    · have h := ht hc
      exact R_X5_readNumber_49 hsh h
    · have h := hf hc
      refine go_lload (show decode cX5_readNumber 35 = .ok (.lload 5, 2) by decide +kernel) (by rfl) ?_
      refine go_lload_n (show decode cX5_readNumber 37 = .ok (.lload_n 1, 1) by decide +kernel) (by rfl) ?_
      obtain ⟨ht, hf⟩ := h
      refine go_jlt (tgt := 49) (show decode cX5_readNumber 38 = .ok (.lcmp, 1) by decide +kernel) (show decode cX5_readNumber 39 = .ok (.ifCond .lt 10, 3) by decide +kernel) (by decide) (fun hc => ?_) (fun hc => ?_)
      · have h := ht hc
        exact R_X5_readNumber_49 hsh h
      · have h := hf hc
        refine go_lload (show decode cX5_readNumber 42 = .ok (.lload 5, 2) by decide +kernel) (by rfl) ?_
        refine go_lload_n (show decode cX5_readNumber 44 = .ok (.lload_n 3, 1) by decide +kernel) (by rfl) ?_
        obtain ⟨ht, hf⟩ := h
        refine go_jle (tgt := 56) (show decode cX5_readNumber 45 = .ok (.lcmp, 1) by decide +kernel) (show decode cX5_readNumber 46 = .ok (.ifCond .le 10, 3) by decide +kernel) (by decide) (fun hc => ?_) (fun hc => ?_)
        · have h := ht hc
          refine go_aload_n (show decode cX5_readNumber 56 = .ok (.aload_n 0, 1) by decide +kernel) (by rfl) ?_
          refine go_callV (d2 := d - 1) (M2 := MX5_step) (n := 0) (ci := 5) (av := []) (st := []) (show decode cX5_readNumber 57 = .ok (.invokevirtual 54, 3) by decide +kernel) ml_X5_54 mt_X5_step min_X5_step mse_X5_step (by decide) (shc_k hsh 46 (by decide) (by decide)) rfl (Nat.le_of_ble_eq_true rfl) (by omega) (ok_mono h (fun w9 S10 F11 G12 h => ?_))
          obtain ⟨e8, h⟩ := h
          replace e8 := e8.symm; subst e8
          obtain ⟨e9, h⟩ := h
          subst e9
          show Go d MX5_readNumber 60 [some (vR 46), some (vJ a1), none, some (vJ a3), none, some (vJ z6), none] [] S F11 G12 Q
          refine go_lload (show decode cX5_readNumber 60 = .ok (.lload 5, 2) by decide +kernel) (by rfl) ?_
          exact go_lret (show decode cX5_readNumber 62 = .ok (.lreturn, 1) by decide +kernel) rfl h
        · have h := hf hc
          exact R_X5_readNumber_49 hsh h
  · have h := hf hc
    refine go_aload_n (show decode cX5_readNumber 8 = .ok (.aload_n 0, 1) by decide +kernel) (by rfl) ?_
    refine go_iconst (show decode cX5_readNumber 9 = .ok (.iconst 1, 1) by decide +kernel) (by decide) ?_
    obtain ⟨q13, h⟩ := h
    refine go_callV (d2 := d - 1) (M2 := MX5_blame) (n := 1) (ci := 5) (av := [vI 1]) (st := []) (show decode cX5_readNumber 10 = .ok (.invokevirtual 67, 3) by decide +kernel) ml_X5_67 mt_X5_blame min_X5_blame mse_X5_blame (by decide) (shc_k hsh 46 (by decide) (by decide)) rfl (Nat.le_of_ble_eq_true rfl) (by omega) (ok_mono h (fun w14 S15 F16 G17 h => ?_))
    obtain ⟨e8, h⟩ := h
    replace e8 := e8.symm; subst e8
    obtain ⟨e9, h⟩ := h
    subst e9
    show Go d MX5_readNumber 13 [some (vR 46), some (vJ a1), none, some (vJ a3), none, none, none] [] S F16 G17 Q
    refine go_lconst (n := 0) (show decode cX5_readNumber 13 = .ok (.lconst 0, 1) by decide +kernel) ?_
    show Go d MX5_readNumber 14 [some (vR 46), some (vJ a1), none, some (vJ a3), none, none, none] [vJ 0] S F16 G17 Q
    exact go_lret (show decode cX5_readNumber 14 = .ok (.lreturn, 1) by decide +kernel) rfl h
def V_X5_numberOfToken_7 (d : Nat) (S : AS) (F : AF) (G : AG) (Q : AQ) (a1 : Int) (a3 : Int) : Prop :=
  ((F 46 5 ≤ a3) →
    Q (some (vJ a1)) S F G) ∧
  ((¬ F 46 5 ≤ a3) →
    ((a1 ≤ 300000000000000000) →
      (r64 (10 * a1)) ∧
      ((0 : Int) ≤ a3) ∧
      ((a3 : Int) < 500) ∧
      (r32 ((G 47 a3) - 48)) ∧
      (r64 ((10 * a1) + ((G 47 a3) - 48))) ∧
      ∀ x6 : Int, x6 = (10 * a1) + ((G 47 a3) - 48) →
      (r32 (a3 + 1)) ∧
      Go d MX5_numberOfToken 7 [some (vR 46), some (vJ x6), none, some (vI (a3 + 1))] [] S F G Q) ∧
    ((¬ a1 ≤ 300000000000000000) →
      Q (some (vJ 9000000000000000001)) S F G))
theorem R_X5_numberOfToken_7 {d : Nat} {S : AS} {F : AF} {G : AG} {Q : AQ} {a1 : Int} {a3 : Int} (hsh : ShC S) (h : V_X5_numberOfToken_7 d S F G Q a1 a3) : Go d MX5_numberOfToken 7 [some (vR 46), some (vJ a1), none, some (vI a3)] [] S F G Q := by
  unfold V_X5_numberOfToken_7 at h
  refine go_iload_n (show decode cX5_numberOfToken 7 = .ok (.iload_n 3, 1) by decide +kernel) (by rfl) ?_
  refine go_aload_n (show decode cX5_numberOfToken 8 = .ok (.aload_n 0, 1) by decide +kernel) (by rfl) ?_
  refine go_getI (show decode cX5_numberOfToken 9 = .ok (.getfield 48, 3) by decide +kernel) fl_X5_48 (Or.inl rfl) (shc_k hsh 46 (by decide) (by decide)) ?_
  obtain ⟨ht, hf⟩ := h
  refine go_icmpge (tgt := 50) (show decode cX5_numberOfToken 12 = .ok (.if_icmp .ge 38, 3) by decide +kernel) (by decide) (fun hc => ?_) (fun hc => ?_)
  · have h := ht hc
    refine go_lload_n (show decode cX5_numberOfToken 50 = .ok (.lload_n 1, 1) by decide +kernel) (by rfl) ?_
    exact go_lret (show decode cX5_numberOfToken 51 = .ok (.lreturn, 1) by decide +kernel) rfl h
  · have h := hf hc
    refine go_lload_n (show decode cX5_numberOfToken 15 = .ok (.lload_n 1, 1) by decide +kernel) (by rfl) ?_
    refine go_ldc2 (show decode cX5_numberOfToken 16 = .ok (.ldc2_w 127, 3) by decide +kernel) lc_X5_127 (by decide) ?_
    obtain ⟨ht, hf⟩ := h
    refine go_jle (tgt := 27) (show decode cX5_numberOfToken 19 = .ok (.lcmp, 1) by decide +kernel) (show decode cX5_numberOfToken 20 = .ok (.ifCond .le 7, 3) by decide +kernel) (by decide) (fun hc => ?_) (fun hc => ?_)
    · have h := ht hc
      refine go_ldc2 (show decode cX5_numberOfToken 27 = .ok (.ldc2_w 131, 3) by decide +kernel) lc_X5_131 (by decide) ?_
      refine go_lload_n (show decode cX5_numberOfToken 30 = .ok (.lload_n 1, 1) by decide +kernel) (by rfl) ?_
      obtain ⟨q1, h⟩ := h
      refine go_lmul (show decode cX5_numberOfToken 31 = .ok (.lmul, 1) by decide +kernel) q1 ?_
      refine go_aload_n (show decode cX5_numberOfToken 32 = .ok (.aload_n 0, 1) by decide +kernel) (by rfl) ?_
      refine go_getRc (show decode cX5_numberOfToken 33 = .ok (.getfield 9, 3) by decide +kernel) fl_X5_9 rfl (shc_k hsh 46 (by decide) (by decide)) (v := 47) (shc_r hsh 46 0 (by decide) (by decide) (by decide)) ?_
      refine go_iload_n (show decode cX5_numberOfToken 36 = .ok (.iload_n 3, 1) by decide +kernel) (by rfl) ?_
      obtain ⟨q2, h⟩ := h
      obtain ⟨q3, h⟩ := h
      refine go_baload (show decode cX5_numberOfToken 37 = .ok (.baload, 1) by decide +kernel) (shc_k hsh 47 (by decide) (by decide)) q2 (lt_n (m := 500) q3 (shc_n hsh 47 (by decide) (by decide))) ?_
      refine go_bipush (show decode cX5_numberOfToken 38 = .ok (.bipush 48, 2) by decide +kernel) (by decide) ?_
      obtain ⟨q4, h⟩ := h
      refine go_isub (show decode cX5_numberOfToken 40 = .ok (.isub, 1) by decide +kernel) q4 ?_
      refine go_i2l (show decode cX5_numberOfToken 41 = .ok (.i2l, 1) by decide +kernel) ?_
      obtain ⟨q5, h⟩ := h
      refine go_ladd (show decode cX5_numberOfToken 42 = .ok (.ladd, 1) by decide +kernel) q5 ?_
      obtain ⟨x6, x6e⟩ : ∃ x6 : Int, x6 = (10 * a1) + ((G 47 a3) - 48) := ⟨_, rfl⟩
      have h := h x6 x6e
      rw [← x6e]
      refine go_lstore_n (show decode cX5_numberOfToken 43 = .ok (.lstore_n 1, 1) by decide +kernel) (by decide) ?_
      show Go d MX5_numberOfToken 44 [some (vR 46), some (vJ x6), none, some (vI a3)] [] S F G Q
      obtain ⟨q7, h⟩ := h
      refine go_iinc (show decode cX5_numberOfToken 44 = .ok (.iinc 3 1, 3) by decide +kernel) (by rfl) q7 (by decide) ?_
      show Go d MX5_numberOfToken 47 [some (vR 46), some (vJ x6), none, some (vI (a3 + 1))] [] S F G Q
      refine go_goto (tgt := 7) (show decode cX5_numberOfToken 47 = .ok (.goto (-40), 3) by decide +kernel) (by decide) ?_
      exact h
    · have h := hf hc
      refine go_ldc2 (show decode cX5_numberOfToken 23 = .ok (.ldc2_w 129, 3) by decide +kernel) lc_X5_129 (by decide) ?_
      exact go_lret (show decode cX5_numberOfToken 26 = .ok (.lreturn, 1) by decide +kernel) rfl h
def V_X5_numberOfToken_0 (d : Nat) (S : AS) (F : AF) (G : AG) (Q : AQ)  : Prop :=
  ∀ x1 : Int, x1 = F 46 4 →
  Go d MX5_numberOfToken 7 [some (vR 46), some (vJ 0), none, some (vI x1)] [] S F G Q
theorem R_X5_numberOfToken_0 {d : Nat} {S : AS} {F : AF} {G : AG} {Q : AQ}  (hsh : ShC S) (h : V_X5_numberOfToken_0 d S F G Q ) : Go d MX5_numberOfToken 0 [some (vR 46), none, none, none] [] S F G Q := by
  unfold V_X5_numberOfToken_0 at h
  refine go_lconst (n := 0) (show decode cX5_numberOfToken 0 = .ok (.lconst 0, 1) by decide +kernel) ?_
  show Go d MX5_numberOfToken 1 [some (vR 46), none, none, none] [vJ 0] S F G Q
  refine go_lstore_n (show decode cX5_numberOfToken 1 = .ok (.lstore_n 1, 1) by decide +kernel) (by decide) ?_
  show Go d MX5_numberOfToken 2 [some (vR 46), some (vJ 0), none, none] [] S F G Q
  refine go_aload_n (show decode cX5_numberOfToken 2 = .ok (.aload_n 0, 1) by decide +kernel) (by rfl) ?_
  refine go_getI (show decode cX5_numberOfToken 3 = .ok (.getfield 97, 3) by decide +kernel) fl_X5_97 (Or.inl rfl) (shc_k hsh 46 (by decide) (by decide)) ?_
  obtain ⟨x1, x1e⟩ : ∃ x1 : Int, x1 = F 46 4 := ⟨_, rfl⟩
  have h := h x1 x1e
  rw [← x1e]
  refine go_istore_n (show decode cX5_numberOfToken 6 = .ok (.istore_n 3, 1) by decide +kernel) (by decide) ?_
  show Go d MX5_numberOfToken 7 [some (vR 46), some (vJ 0), none, some (vI x1)] [] S F G Q
  exact h
def V_X5_readAdded_0 (d : Nat) (S : AS) (F : AF) (G : AG) (Q : AQ)  : Prop :=
  (1 ≤ d) ∧
  ∃ z6 : Int, Pu (d - 1) MX5_isSign [vR 46, vI 45] S F G (some (vI z6)) ∧
  ((¬ z6 = 0) →
    Ok (d - 1) MX5_step [vR 46] S F G (fun w8 S9 F10 G11 =>
    S9 = S ∧
    w8 = none ∧
    Ok (d - 1) MX5_readNumber [vR 46, vJ 1, vJ 1000000000] S F10 G11 (fun w12 S13 F14 G15 =>
    S13 = S ∧
    ∃ z16 : Int, w12 = some (vJ z16) ∧
    (r64 (-z16)) ∧
    Q (some (vJ (-z16))) S F14 G15))) ∧
  ((z6 = 0) →
    Ok (d - 1) MX5_readNumber [vR 46, vJ 1, vJ 1000000000] S F G (fun w18 S19 F20 G21 =>
    S19 = S ∧
    ∃ z22 : Int, w18 = some (vJ z22) ∧
    Q (some (vJ z22)) S F20 G21))
theorem R_X5_readAdded_0 {d : Nat} {S : AS} {F : AF} {G : AG} {Q : AQ}  (hsh : ShC S) (h : V_X5_readAdded_0 d S F G Q ) : Go d MX5_readAdded 0 [some (vR 46)] [] S F G Q := by
  unfold V_X5_readAdded_0 at h
  refine go_aload_n (show decode cX5_readAdded 0 = .ok (.aload_n 0, 1) by decide +kernel) (by rfl) ?_
  refine go_bipush (show decode cX5_readAdded 1 = .ok (.bipush 45, 2) by decide +kernel) (by decide) ?_
  obtain ⟨q1, h⟩ := h
  obtain ⟨z6, p7, h⟩ := h
  refine go_callV (d2 := d - 1) (M2 := MX5_isSign) (n := 1) (ci := 5) (av := [vI 45]) (st := []) (show decode cX5_readAdded 3 = .ok (.invokevirtual 84, 3) by decide +kernel) ml_X5_84 mt_X5_isSign min_X5_isSign mse_X5_isSign (by decide) (shc_k hsh 46 (by decide) (by decide)) rfl (Nat.le_of_ble_eq_true rfl) (by omega) (ok_mono p7 (fun w2 S3 F4 G5 e9 => ?_))
  obtain ⟨e1, e2, e3, e4⟩ := e9
  subst e1
  replace e2 := e2.symm; subst e2
  replace e3 := e3.symm; subst e3
  replace e4 := e4.symm; subst e4
  show Go d MX5_readAdded 6 [some (vR 46)] [vI z6] S F G Q
  obtain ⟨ht, hf⟩ := h
  refine go_ifne (tgt := 18) (show decode cX5_readAdded 6 = .ok (.ifCond .ne 12, 3) by decide +kernel) (by decide) (fun hc => ?_) (fun hc => ?_)
  · have h := ht hc
    refine go_aload_n (show decode cX5_readAdded 18 = .ok (.aload_n 0, 1) by decide +kernel) (by rfl) ?_
    refine go_callV (d2 := d - 1) (M2 := MX5_step) (n := 0) (ci := 5) (av := []) (st := []) (show decode cX5_readAdded 19 = .ok (.invokevirtual 54, 3) by decide +kernel) ml_X5_54 mt_X5_step min_X5_step mse_X5_step (by decide) (shc_k hsh 46 (by decide) (by decide)) rfl (Nat.le_of_ble_eq_true rfl) (by omega) (ok_mono h (fun w8 S9 F10 G11 h => ?_))
    obtain ⟨e8, h⟩ := h
    replace e8 := e8.symm; subst e8
    obtain ⟨e9, h⟩ := h
    subst e9
    show Go d MX5_readAdded 22 [some (vR 46)] [] S F10 G11 Q
    refine go_aload_n (show decode cX5_readAdded 22 = .ok (.aload_n 0, 1) by decide +kernel) (by rfl) ?_
    refine go_lconst (n := 1) (show decode cX5_readAdded 23 = .ok (.lconst 1, 1) by decide +kernel) ?_
    show Go d MX5_readAdded 24 [some (vR 46)] [vJ 1, vR 46] S F10 G11 Q
    refine go_ldc2 (show decode cX5_readAdded 24 = .ok (.ldc2_w 92, 3) by decide +kernel) lc_X5_92 (by decide) ?_
    refine go_callV (d2 := d - 1) (M2 := MX5_readNumber) (n := 2) (ci := 5) (av := [vJ 1, vJ 1000000000]) (st := []) (show decode cX5_readAdded 27 = .ok (.invokevirtual 80, 3) by decide +kernel) ml_X5_80 mt_X5_readNumber min_X5_readNumber mse_X5_readNumber (by decide) (shc_k hsh 46 (by decide) (by decide)) rfl (Nat.le_of_ble_eq_true rfl) (by omega) (ok_mono h (fun w12 S13 F14 G15 h => ?_))
    obtain ⟨e8, h⟩ := h
    replace e8 := e8.symm; subst e8
    obtain ⟨z16, e9, h⟩ := h
    subst e9
    show Go d MX5_readAdded 30 [some (vR 46)] [vJ z16] S F14 G15 Q
    obtain ⟨q17, h⟩ := h
    refine go_lneg (show decode cX5_readAdded 30 = .ok (.lneg, 1) by decide +kernel) q17 ?_
    exact go_lret (show decode cX5_readAdded 31 = .ok (.lreturn, 1) by decide +kernel) rfl h
  · have h := hf hc
    refine go_aload_n (show decode cX5_readAdded 9 = .ok (.aload_n 0, 1) by decide +kernel) (by rfl) ?_
    refine go_lconst (n := 1) (show decode cX5_readAdded 10 = .ok (.lconst 1, 1) by decide +kernel) ?_
    show Go d MX5_readAdded 11 [some (vR 46)] [vJ 1, vR 46] S F G Q
    refine go_ldc2 (show decode cX5_readAdded 11 = .ok (.ldc2_w 92, 3) by decide +kernel) lc_X5_92 (by decide) ?_
    refine go_callV (d2 := d - 1) (M2 := MX5_readNumber) (n := 2) (ci := 5) (av := [vJ 1, vJ 1000000000]) (st := []) (show decode cX5_readAdded 14 = .ok (.invokevirtual 80, 3) by decide +kernel) ml_X5_80 mt_X5_readNumber min_X5_readNumber mse_X5_readNumber (by decide) (shc_k hsh 46 (by decide) (by decide)) rfl (Nat.le_of_ble_eq_true rfl) (by omega) (ok_mono h (fun w18 S19 F20 G21 h => ?_))
    obtain ⟨e8, h⟩ := h
    replace e8 := e8.symm; subst e8
    obtain ⟨z22, e9, h⟩ := h
    subst e9
    show Go d MX5_readAdded 17 [some (vR 46)] [vJ z22] S F20 G21 Q
    exact go_lret (show decode cX5_readAdded 17 = .ok (.lreturn, 1) by decide +kernel) rfl h
def V_X5_isSign_0 (d : Nat) (S : AS) (F : AF) (G : AG) (Q : AQ) (a1 : Int) : Prop :=
  ((¬ F 46 3 = 3) →
    Q (some (vI 0)) S F G) ∧
  ((F 46 3 = 3) →
    ((0 : Int) ≤ F 46 4) ∧
    ((F 46 4 : Int) < 500) ∧
    ((¬ G 47 (F 46 4) = a1) →
      Q (some (vI 0)) S F G) ∧
    ((G 47 (F 46 4) = a1) →
      Q (some (vI 1)) S F G))
theorem R_X5_isSign_0 {d : Nat} {S : AS} {F : AF} {G : AG} {Q : AQ} {a1 : Int} (hsh : ShC S) (h : V_X5_isSign_0 d S F G Q a1) : Go d MX5_isSign 0 [some (vR 46), some (vI a1)] [] S F G Q := by
  unfold V_X5_isSign_0 at h
  refine go_aload_n (show decode cX5_isSign 0 = .ok (.aload_n 0, 1) by decide +kernel) (by rfl) ?_
  refine go_getI (show decode cX5_isSign 1 = .ok (.getfield 57, 3) by decide +kernel) fl_X5_57 (Or.inl rfl) (shc_k hsh 46 (by decide) (by decide)) ?_
  refine go_iconst (show decode cX5_isSign 4 = .ok (.iconst 3, 1) by decide +kernel) (by decide) ?_
  obtain ⟨ht, hf⟩ := h
  refine go_icmpne (tgt := 25) (show decode cX5_isSign 5 = .ok (.if_icmp .ne 20, 3) by decide +kernel) (by decide) (fun hc => ?_) (fun hc => ?_)
  · have h := ht hc
    refine go_iconst (show decode cX5_isSign 25 = .ok (.iconst 0, 1) by decide +kernel) (by decide) ?_
    exact go_zret (show decode cX5_isSign 26 = .ok (.ireturn, 1) by decide +kernel) rfl (by decide) h
  · have h := hf hc
    refine go_aload_n (show decode cX5_isSign 8 = .ok (.aload_n 0, 1) by decide +kernel) (by rfl) ?_
    refine go_getRc (show decode cX5_isSign 9 = .ok (.getfield 9, 3) by decide +kernel) fl_X5_9 rfl (shc_k hsh 46 (by decide) (by decide)) (v := 47) (shc_r hsh 46 0 (by decide) (by decide) (by decide)) ?_
    refine go_aload_n (show decode cX5_isSign 12 = .ok (.aload_n 0, 1) by decide +kernel) (by rfl) ?_
    refine go_getI (show decode cX5_isSign 13 = .ok (.getfield 97, 3) by decide +kernel) fl_X5_97 (Or.inl rfl) (shc_k hsh 46 (by decide) (by decide)) ?_
    obtain ⟨q1, h⟩ := h
    obtain ⟨q2, h⟩ := h
    refine go_baload (show decode cX5_isSign 16 = .ok (.baload, 1) by decide +kernel) (shc_k hsh 47 (by decide) (by decide)) q1 (lt_n (m := 500) q2 (shc_n hsh 47 (by decide) (by decide))) ?_
    refine go_iload_n (show decode cX5_isSign 17 = .ok (.iload_n 1, 1) by decide +kernel) (by rfl) ?_
    obtain ⟨ht, hf⟩ := h
    refine go_icmpne (tgt := 25) (show decode cX5_isSign 18 = .ok (.if_icmp .ne 7, 3) by decide +kernel) (by decide) (fun hc => ?_) (fun hc => ?_)
    · have h := ht hc
      refine go_iconst (show decode cX5_isSign 25 = .ok (.iconst 0, 1) by decide +kernel) (by decide) ?_
      exact go_zret (show decode cX5_isSign 26 = .ok (.ireturn, 1) by decide +kernel) rfl (by decide) h
    · have h := hf hc
      refine go_iconst (show decode cX5_isSign 21 = .ok (.iconst 1, 1) by decide +kernel) (by decide) ?_
      refine go_goto (tgt := 26) (show decode cX5_isSign 22 = .ok (.goto 4, 3) by decide +kernel) (by decide) ?_
      exact go_zret (show decode cX5_isSign 26 = .ok (.ireturn, 1) by decide +kernel) rfl (by decide) h
def V_X5_amount_0 (d : Nat) (S : AS) (F : AF) (G : AG) (Q : AQ) (a1 : Int) : Prop :=
  ((a1 < 0) →
    Q (some (vJ 0)) S F G) ∧
  ((¬ a1 < 0) →
    ((F 46 9 ≤ a1) →
      Q (some (vJ 0)) S F G) ∧
    ((¬ F 46 9 ≤ a1) →
      ((0 : Int) ≤ a1) ∧
      ((a1 : Int) < 30) ∧
      Q (some (vJ (G 50 a1))) S F G))
theorem R_X5_amount_0 {d : Nat} {S : AS} {F : AF} {G : AG} {Q : AQ} {a1 : Int} (hsh : ShC S) (h : V_X5_amount_0 d S F G Q a1) : Go d MX5_amount 0 [some (vR 46), some (vI a1)] [] S F G Q := by
  unfold V_X5_amount_0 at h
  refine go_iload_n (show decode cX5_amount 0 = .ok (.iload_n 1, 1) by decide +kernel) (by rfl) ?_
  obtain ⟨ht, hf⟩ := h
  refine go_iflt (tgt := 21) (show decode cX5_amount 1 = .ok (.ifCond .lt 20, 3) by decide +kernel) (by decide) (fun hc => ?_) (fun hc => ?_)
  · have h := ht hc
    refine go_lconst (n := 0) (show decode cX5_amount 21 = .ok (.lconst 0, 1) by decide +kernel) ?_
    show Go d MX5_amount 22 [some (vR 46), some (vI a1)] [vJ 0] S F G Q
    exact go_lret (show decode cX5_amount 22 = .ok (.lreturn, 1) by decide +kernel) rfl h
  · have h := hf hc
    refine go_iload_n (show decode cX5_amount 4 = .ok (.iload_n 1, 1) by decide +kernel) (by rfl) ?_
    refine go_aload_n (show decode cX5_amount 5 = .ok (.aload_n 0, 1) by decide +kernel) (by rfl) ?_
    refine go_getI (show decode cX5_amount 6 = .ok (.getfield 33, 3) by decide +kernel) fl_X5_33 (Or.inl rfl) (shc_k hsh 46 (by decide) (by decide)) ?_
    obtain ⟨ht, hf⟩ := h
    refine go_icmpge (tgt := 21) (show decode cX5_amount 9 = .ok (.if_icmp .ge 12, 3) by decide +kernel) (by decide) (fun hc => ?_) (fun hc => ?_)
    · have h := ht hc
      refine go_lconst (n := 0) (show decode cX5_amount 21 = .ok (.lconst 0, 1) by decide +kernel) ?_
      show Go d MX5_amount 22 [some (vR 46), some (vI a1)] [vJ 0] S F G Q
      exact go_lret (show decode cX5_amount 22 = .ok (.lreturn, 1) by decide +kernel) rfl h
    · have h := hf hc
      refine go_aload_n (show decode cX5_amount 12 = .ok (.aload_n 0, 1) by decide +kernel) (by rfl) ?_
      refine go_getRc (show decode cX5_amount 13 = .ok (.getfield 22, 3) by decide +kernel) fl_X5_22 rfl (shc_k hsh 46 (by decide) (by decide)) (v := 50) (shc_r hsh 46 8 (by decide) (by decide) (by decide)) ?_
      refine go_iload_n (show decode cX5_amount 16 = .ok (.iload_n 1, 1) by decide +kernel) (by rfl) ?_
      obtain ⟨q1, h⟩ := h
      obtain ⟨q2, h⟩ := h
      refine go_laload (show decode cX5_amount 17 = .ok (.laload, 1) by decide +kernel) (shc_k hsh 50 (by decide) (by decide)) q1 (lt_n (m := 30) q2 (shc_n hsh 50 (by decide) (by decide))) ?_
      refine go_goto (tgt := 22) (show decode cX5_amount 18 = .ok (.goto 4, 3) by decide +kernel) (by decide) ?_
      exact go_lret (show decode cX5_amount 22 = .ok (.lreturn, 1) by decide +kernel) rfl h
def V_X5_kind_0 (d : Nat) (S : AS) (F : AF) (G : AG) (Q : AQ) (a1 : Int) : Prop :=
  ((a1 < 0) →
    Q (some (vI (-1))) S F G) ∧
  ((¬ a1 < 0) →
    ((F 46 9 ≤ a1) →
      Q (some (vI (-1))) S F G) ∧
    ((¬ F 46 9 ≤ a1) →
      ((0 : Int) ≤ a1) ∧
      ((a1 : Int) < 30) ∧
      Q (some (vI (G 48 a1))) S F G))
theorem R_X5_kind_0 {d : Nat} {S : AS} {F : AF} {G : AG} {Q : AQ} {a1 : Int} (hsh : ShC S) (h : V_X5_kind_0 d S F G Q a1) : Go d MX5_kind 0 [some (vR 46), some (vI a1)] [] S F G Q := by
  unfold V_X5_kind_0 at h
  refine go_iload_n (show decode cX5_kind 0 = .ok (.iload_n 1, 1) by decide +kernel) (by rfl) ?_
  obtain ⟨ht, hf⟩ := h
  refine go_iflt (tgt := 21) (show decode cX5_kind 1 = .ok (.ifCond .lt 20, 3) by decide +kernel) (by decide) (fun hc => ?_) (fun hc => ?_)
  · have h := ht hc
    refine go_iconst (show decode cX5_kind 21 = .ok (.iconst (-1), 1) by decide +kernel) (by decide) ?_
    exact go_iret (show decode cX5_kind 22 = .ok (.ireturn, 1) by decide +kernel) rfl h
  · have h := hf hc
    refine go_iload_n (show decode cX5_kind 4 = .ok (.iload_n 1, 1) by decide +kernel) (by rfl) ?_
    refine go_aload_n (show decode cX5_kind 5 = .ok (.aload_n 0, 1) by decide +kernel) (by rfl) ?_
    refine go_getI (show decode cX5_kind 6 = .ok (.getfield 33, 3) by decide +kernel) fl_X5_33 (Or.inl rfl) (shc_k hsh 46 (by decide) (by decide)) ?_
    obtain ⟨ht, hf⟩ := h
    refine go_icmpge (tgt := 21) (show decode cX5_kind 9 = .ok (.if_icmp .ge 12, 3) by decide +kernel) (by decide) (fun hc => ?_) (fun hc => ?_)
    · have h := ht hc
      refine go_iconst (show decode cX5_kind 21 = .ok (.iconst (-1), 1) by decide +kernel) (by decide) ?_
      exact go_iret (show decode cX5_kind 22 = .ok (.ireturn, 1) by decide +kernel) rfl h
    · have h := hf hc
      refine go_aload_n (show decode cX5_kind 12 = .ok (.aload_n 0, 1) by decide +kernel) (by rfl) ?_
      refine go_getRc (show decode cX5_kind 13 = .ok (.getfield 15, 3) by decide +kernel) fl_X5_15 rfl (shc_k hsh 46 (by decide) (by decide)) (v := 48) (shc_r hsh 46 6 (by decide) (by decide) (by decide)) ?_
      refine go_iload_n (show decode cX5_kind 16 = .ok (.iload_n 1, 1) by decide +kernel) (by rfl) ?_
      obtain ⟨q1, h⟩ := h
      obtain ⟨q2, h⟩ := h
      refine go_iaload (show decode cX5_kind 17 = .ok (.iaload, 1) by decide +kernel) (shc_k hsh 48 (by decide) (by decide)) q1 (lt_n (m := 30) q2 (shc_n hsh 48 (by decide) (by decide))) ?_
      refine go_goto (tgt := 22) (show decode cX5_kind 18 = .ok (.goto 4, 3) by decide +kernel) (by decide) ?_
      exact go_iret (show decode cX5_kind 22 = .ok (.ireturn, 1) by decide +kernel) rfl h
def V_X5_number_0 (d : Nat) (S : AS) (F : AF) (G : AG) (Q : AQ) (a1 : Int) (a2 : Int) : Prop :=
  ((a1 < 0) →
    Q (some (vI (-1))) S F G) ∧
  ((¬ a1 < 0) →
    ((F 46 9 ≤ a1) →
      Q (some (vI (-1))) S F G) ∧
    ((¬ F 46 9 ≤ a1) →
      ((a2 < 0) →
        Q (some (vI (-1))) S F G) ∧
      ((¬ a2 < 0) →
        ((5 ≤ a2) →
          Q (some (vI (-1))) S F G) ∧
        ((¬ 5 ≤ a2) →
          (r32 (5 * a1)) ∧
          (r32 ((5 * a1) + a2)) ∧
          ((0 : Int) ≤ (5 * a1) + a2) ∧
          (((5 * a1) + a2 : Int) < 150) ∧
          Q (some (vI (G 49 ((5 * a1) + a2)))) S F G))))
theorem R_X5_number_0 {d : Nat} {S : AS} {F : AF} {G : AG} {Q : AQ} {a1 : Int} {a2 : Int} (hsh : ShC S) (h : V_X5_number_0 d S F G Q a1 a2) : Go d MX5_number 0 [some (vR 46), some (vI a1), some (vI a2)] [] S F G Q := by
  unfold V_X5_number_0 at h
  refine go_iload_n (show decode cX5_number 0 = .ok (.iload_n 1, 1) by decide +kernel) (by rfl) ?_
  obtain ⟨ht, hf⟩ := h
  refine go_iflt (tgt := 34) (show decode cX5_number 1 = .ok (.ifCond .lt 33, 3) by decide +kernel) (by decide) (fun hc => ?_) (fun hc => ?_)
  · have h := ht hc
    refine go_iconst (show decode cX5_number 34 = .ok (.iconst (-1), 1) by decide +kernel) (by decide) ?_
    exact go_iret (show decode cX5_number 35 = .ok (.ireturn, 1) by decide +kernel) rfl h
  · have h := hf hc
    refine go_iload_n (show decode cX5_number 4 = .ok (.iload_n 1, 1) by decide +kernel) (by rfl) ?_
    refine go_aload_n (show decode cX5_number 5 = .ok (.aload_n 0, 1) by decide +kernel) (by rfl) ?_
    refine go_getI (show decode cX5_number 6 = .ok (.getfield 33, 3) by decide +kernel) fl_X5_33 (Or.inl rfl) (shc_k hsh 46 (by decide) (by decide)) ?_
    obtain ⟨ht, hf⟩ := h
    refine go_icmpge (tgt := 34) (show decode cX5_number 9 = .ok (.if_icmp .ge 25, 3) by decide +kernel) (by decide) (fun hc => ?_) (fun hc => ?_)
    · have h := ht hc
      refine go_iconst (show decode cX5_number 34 = .ok (.iconst (-1), 1) by decide +kernel) (by decide) ?_
      exact go_iret (show decode cX5_number 35 = .ok (.ireturn, 1) by decide +kernel) rfl h
    · have h := hf hc
      refine go_iload_n (show decode cX5_number 12 = .ok (.iload_n 2, 1) by decide +kernel) (by rfl) ?_
      obtain ⟨ht, hf⟩ := h
      refine go_iflt (tgt := 34) (show decode cX5_number 13 = .ok (.ifCond .lt 21, 3) by decide +kernel) (by decide) (fun hc => ?_) (fun hc => ?_)
      · have h := ht hc
        refine go_iconst (show decode cX5_number 34 = .ok (.iconst (-1), 1) by decide +kernel) (by decide) ?_
        exact go_iret (show decode cX5_number 35 = .ok (.ireturn, 1) by decide +kernel) rfl h
      · have h := hf hc
        refine go_iload_n (show decode cX5_number 16 = .ok (.iload_n 2, 1) by decide +kernel) (by rfl) ?_
        refine go_iconst (show decode cX5_number 17 = .ok (.iconst 5, 1) by decide +kernel) (by decide) ?_
        obtain ⟨ht, hf⟩ := h
        refine go_icmpge (tgt := 34) (show decode cX5_number 18 = .ok (.if_icmp .ge 16, 3) by decide +kernel) (by decide) (fun hc => ?_) (fun hc => ?_)
        · have h := ht hc
          refine go_iconst (show decode cX5_number 34 = .ok (.iconst (-1), 1) by decide +kernel) (by decide) ?_
          exact go_iret (show decode cX5_number 35 = .ok (.ireturn, 1) by decide +kernel) rfl h
        · have h := hf hc
          refine go_aload_n (show decode cX5_number 21 = .ok (.aload_n 0, 1) by decide +kernel) (by rfl) ?_
          refine go_getRc (show decode cX5_number 22 = .ok (.getfield 19, 3) by decide +kernel) fl_X5_19 rfl (shc_k hsh 46 (by decide) (by decide)) (v := 49) (shc_r hsh 46 7 (by decide) (by decide) (by decide)) ?_
          refine go_iconst (show decode cX5_number 25 = .ok (.iconst 5, 1) by decide +kernel) (by decide) ?_
          refine go_iload_n (show decode cX5_number 26 = .ok (.iload_n 1, 1) by decide +kernel) (by rfl) ?_
          obtain ⟨q1, h⟩ := h
          refine go_imul (show decode cX5_number 27 = .ok (.imul, 1) by decide +kernel) q1 ?_
          refine go_iload_n (show decode cX5_number 28 = .ok (.iload_n 2, 1) by decide +kernel) (by rfl) ?_
          obtain ⟨q2, h⟩ := h
          refine go_iadd (show decode cX5_number 29 = .ok (.iadd, 1) by decide +kernel) q2 ?_
          obtain ⟨q3, h⟩ := h
          obtain ⟨q4, h⟩ := h
          refine go_iaload (show decode cX5_number 30 = .ok (.iaload, 1) by decide +kernel) (shc_k hsh 49 (by decide) (by decide)) q3 (lt_n (m := 150) q4 (shc_n hsh 49 (by decide) (by decide))) ?_
          refine go_goto (tgt := 35) (show decode cX5_number 31 = .ok (.goto 4, 3) by decide +kernel) (by decide) ?_
          exact go_iret (show decode cX5_number 35 = .ok (.ireturn, 1) by decide +kernel) rfl h
set_option maxRecDepth 50000 in
def V_X2_init_75 (d : Nat) (S : AS) (F : AF) (G : AG) (Q : AQ) (a0 : Nat) (a1 : Int) : Prop :=
  (sK S a0 = 2) ∧
  (sK S (sR S a0 5) = 24) ∧
  (((sN S (sR S a0 5) : Int) ≤ a1) →
    Q none S F G) ∧
  ((¬ (sN S (sR S a0 5) : Int) ≤ a1) →
    (sn S < 999998) ∧
    ∀ x4 : Nat, x4 = sn S + 1 →
    ∀ S5 : AS, S5 = na S 8 0 3 →
    ∀ F6 : AF, F6 = nF S F →
    ∀ G7 : AG, G7 = nG S G →
    (1 ≤ d) ∧
    (1 ≤ x4) ∧
    Ok (d - 1) MX8_init [vR x4] S5 F6 G7 (fun w9 S10 F11 G12 =>
    w9 = none ∧
    (sK S10 (sR S a0 5) = 24) ∧
    ((0 : Int) ≤ a1) ∧
    ((a1 : Int) < (sN S10 (sR S a0 5) : Int)) ∧
    (sK S10 x4 = 8) ∧
    ∀ S18 : AS, S18 = ru S10 (sR S a0 5) (Int.toNat a1) x4 →
    (r32 (a1 + 1)) ∧
    Go d MX2_init 75 [some (vR a0), some (vI (a1 + 1))] [] S18 F11 G12 Q))
set_option maxRecDepth 50000 in
theorem R_X2_init_75 {d : Nat} {S : AS} {F : AF} {G : AG} {Q : AQ} {a0 : Nat} {a1 : Int} (h : V_X2_init_75 d S F G Q a0 a1) : Go d MX2_init 75 [some (vR a0), some (vI a1)] [] S F G Q := by
  unfold V_X2_init_75 at h
  refine go_iload_n (show decode cX2_init 75 = .ok (.iload_n 1, 1) by decide +kernel) (by rfl) ?_
  refine go_aload_n (show decode cX2_init 76 = .ok (.aload_n 0, 1) by decide +kernel) (by rfl) ?_
  obtain ⟨q1, h⟩ := h
  refine go_getR (show decode cX2_init 77 = .ok (.getfield 37, 3) by decide +kernel) fl_X2_37 rfl q1 ?_
  obtain ⟨q2, h⟩ := h
  refine go_alen (show decode cX2_init 80 = .ok (.arraylength, 1) by decide +kernel) (by have h9 : sK S (sR S a0 5) = 24 := q2; omega) ?_
  obtain ⟨ht, hf⟩ := h
  refine go_icmpge (tgt := 103) (show decode cX2_init 81 = .ok (.if_icmp .ge 22, 3) by decide +kernel) (by decide) (fun hc => ?_) (fun hc => ?_)
  · have h := ht hc
    exact go_vret (show decode cX2_init 103 = .ok (.return_, 1) by decide +kernel) rfl h
  · have h := hf hc
    refine go_aload_n (show decode cX2_init 84 = .ok (.aload_n 0, 1) by decide +kernel) (by rfl) ?_
    refine go_getR (show decode cX2_init 85 = .ok (.getfield 37, 3) by decide +kernel) fl_X2_37 rfl q1 ?_
    refine go_iload_n (show decode cX2_init 88 = .ok (.iload_n 1, 1) by decide +kernel) (by rfl) ?_
    obtain ⟨q3, h⟩ := h
    refine go_new (show decode cX2_init 89 = .ok (.new 35, 3) by decide +kernel) (by decide) cl_X2_35 ci_8 cz_8 q3 ?_
    show Go d MX2_init 92 [some (vR a0), some (vI a1)] [vR (sn S + 1), vI a1, vR (sR S a0 5)] (na S 8 0 3) (nF S F) (nG S G) Q
    obtain ⟨x4, x4e⟩ : ∃ x4 : Nat, x4 = sn S + 1 := ⟨_, rfl⟩
    have h := h x4 x4e
    rw [← x4e]
    obtain ⟨S5, S5e⟩ : ∃ S5 : AS, S5 = na S 8 0 3 := ⟨_, rfl⟩
    have h := h S5 S5e
    rw [← S5e]
    obtain ⟨F6, F6e⟩ : ∃ F6 : AF, F6 = nF S F := ⟨_, rfl⟩
    have h := h F6 F6e
    rw [← F6e]
    obtain ⟨G7, G7e⟩ : ∃ G7 : AG, G7 = nG S G := ⟨_, rfl⟩
    have h := h G7 G7e
    rw [← G7e]
    refine go_dup (show decode cX2_init 92 = .ok (.dup, 1) by decide +kernel) ?_
    obtain ⟨q8, h⟩ := h
    obtain ⟨q13, h⟩ := h
    refine go_callIN (d2 := d - 1) (M2 := MX8_init) (n := 0) (av := []) (st := [vR x4, vI a1, vR (sR S a0 5)]) (show decode cX2_init 93 = .ok (.invokespecial 47, 3) by decide +kernel) ml_X2_47 mt_X8_init rfl rfl min_X8_init q13 rfl (Nat.le_of_ble_eq_true rfl) (by omega) (ok_mono h (fun w9 S10 F11 G12 h => ?_))
    obtain ⟨e9, h⟩ := h
    subst e9
    show Go d MX2_init 96 [some (vR a0), some (vI a1)] [vR x4, vI a1, vR (sR S a0 5)] S10 F11 G12 Q
    obtain ⟨q14, h⟩ := h
    obtain ⟨q15, h⟩ := h
    obtain ⟨q16, h⟩ := h
    obtain ⟨q17, h⟩ := h
    refine go_aastore (show decode cX2_init 96 = .ok (.aastore, 1) by decide +kernel) (Or.inl q14) q17 (by decide) (by rw [q14]; rfl) q15 q16 ?_
    obtain ⟨S18, S18e⟩ : ∃ S18 : AS, S18 = ru S10 (sR S a0 5) (Int.toNat a1) x4 := ⟨_, rfl⟩
    have h := h S18 S18e
    rw [← S18e]
    obtain ⟨q19, h⟩ := h
    refine go_iinc (show decode cX2_init 97 = .ok (.iinc 1 1, 3) by decide +kernel) (by rfl) q19 (by decide) ?_
    show Go d MX2_init 100 [some (vR a0), some (vI (a1 + 1))] [] S18 F11 G12 Q
    refine go_goto (tgt := 75) (show decode cX2_init 100 = .ok (.goto (-25), 3) by decide +kernel) (by decide) ?_
    exact h
set_option maxRecDepth 50000 in
def V_X2_init_64 (d : Nat) (S : AS) (F : AF) (G : AG) (Q : AQ) (a0 : Nat) : Prop :=
  (sn S < 999998) ∧
  ∀ x2 : Nat, x2 = sn S + 1 →
  ∀ S3 : AS, S3 = na S 25 8 8 →
  ∀ F4 : AF, F4 = nF S F →
  ∀ G5 : AG, G5 = nG S G →
  (sK S3 a0 = 2) ∧
  (x2 ≤ sn S3) ∧
  ∀ S8 : AS, S8 = ru S3 a0 6 x2 →
  Go d MX2_init 75 [some (vR a0), some (vI 0)] [] S8 F4 G5 Q
set_option maxRecDepth 50000 in
theorem R_X2_init_64 {d : Nat} {S : AS} {F : AF} {G : AG} {Q : AQ} {a0 : Nat} (h : V_X2_init_64 d S F G Q a0) : Go d MX2_init 64 [some (vR a0), none] [] S F G Q := by
  unfold V_X2_init_64 at h
  refine go_aload_n (show decode cX2_init 64 = .ok (.aload_n 0, 1) by decide +kernel) (by rfl) ?_
  refine go_bipush (show decode cX2_init 65 = .ok (.bipush 8, 2) by decide +kernel) (by decide) ?_
  obtain ⟨q1, h⟩ := h
  refine go_newq (K := 25) (C := "StockGrid$Saved") (show decode cX2_init 67 = .ok (.anewarray 41, 3) by decide +kernel) rfl (by decide) cl_X2_41 (by decide) (by decide) (by decide) q1 ?_
  show Go d MX2_init 70 [some (vR a0), none] [vR (sn S + 1), vR a0] (na S 25 8 8) (nF S F) (nG S G) Q
  obtain ⟨x2, x2e⟩ : ∃ x2 : Nat, x2 = sn S + 1 := ⟨_, rfl⟩
  have h := h x2 x2e
  rw [← x2e]
  obtain ⟨S3, S3e⟩ : ∃ S3 : AS, S3 = na S 25 8 8 := ⟨_, rfl⟩
  have h := h S3 S3e
  rw [← S3e]
  obtain ⟨F4, F4e⟩ : ∃ F4 : AF, F4 = nF S F := ⟨_, rfl⟩
  have h := h F4 F4e
  rw [← F4e]
  obtain ⟨G5, G5e⟩ : ∃ G5 : AG, G5 = nG S G := ⟨_, rfl⟩
  have h := h G5 G5e
  rw [← G5e]
  obtain ⟨q6, h⟩ := h
  obtain ⟨q7, h⟩ := h
  refine go_putR (show decode cX2_init 70 = .ok (.putfield 43, 3) by decide +kernel) fl_X2_43 rfl (Or.inr ⟨rfl, rfl⟩) q6 q7 ?_
  obtain ⟨S8, S8e⟩ : ∃ S8 : AS, S8 = ru S3 a0 6 x2 := ⟨_, rfl⟩
  have h := h S8 S8e
  rw [← S8e]
  refine go_iconst (show decode cX2_init 73 = .ok (.iconst 0, 1) by decide +kernel) (by decide) ?_
  refine go_istore_n (show decode cX2_init 74 = .ok (.istore_n 1, 1) by decide +kernel) (by decide) ?_
  show Go d MX2_init 75 [some (vR a0), some (vI 0)] [] S8 F4 G5 Q
  exact h
set_option maxRecDepth 50000 in
def V_X2_init_37 (d : Nat) (S : AS) (F : AF) (G : AG) (Q : AQ) (a0 : Nat) : Prop :=
  (sn S < 999998) ∧
  ∀ x2 : Nat, x2 = sn S + 1 →
  ∀ S3 : AS, S3 = na S 21 6912 6912 →
  ∀ F4 : AF, F4 = nF S F →
  ∀ G5 : AG, G5 = nG S G →
  (sK S3 a0 = 2) ∧
  (x2 ≤ sn S3) ∧
  ∀ S8 : AS, S8 = ru S3 a0 3 x2 →
  (sn S8 < 999998) ∧
  ∀ x10 : Nat, x10 = sn S8 + 1 →
  ∀ S11 : AS, S11 = na S8 21 2304 2304 →
  ∀ F12 : AF, F12 = nF S8 F4 →
  ∀ G13 : AG, G13 = nG S8 G5 →
  (sK S11 a0 = 2) ∧
  (x10 ≤ sn S11) ∧
  ∀ S16 : AS, S16 = ru S11 a0 4 x10 →
  (sn S16 < 999998) ∧
  ∀ x18 : Nat, x18 = sn S16 + 1 →
  ∀ S19 : AS, S19 = na S16 24 6 6 →
  ∀ F20 : AF, F20 = nF S16 F12 →
  ∀ G21 : AG, G21 = nG S16 G13 →
  (sK S19 a0 = 2) ∧
  (x18 ≤ sn S19) ∧
  ∀ S24 : AS, S24 = ru S19 a0 5 x18 →
  V_X2_init_64 d S24 F20 G21 Q a0
set_option maxRecDepth 50000 in
theorem R_X2_init_37 {d : Nat} {S : AS} {F : AF} {G : AG} {Q : AQ} {a0 : Nat} (h : V_X2_init_37 d S F G Q a0) : Go d MX2_init 37 [some (vR a0), none] [] S F G Q := by
  unfold V_X2_init_37 at h
  refine go_aload_n (show decode cX2_init 37 = .ok (.aload_n 0, 1) by decide +kernel) (by rfl) ?_
  refine go_sipush (show decode cX2_init 38 = .ok (.sipush 6912, 3) by decide +kernel) (by decide) ?_
  obtain ⟨q1, h⟩ := h
  refine go_newa (K := 21) (show decode cX2_init 41 = .ok (.newarray .long, 2) by decide +kernel) rfl (by decide) ar_21 (by decide) (by decide) q1 ?_
  show Go d MX2_init 43 [some (vR a0), none] [vR (sn S + 1), vR a0] (na S 21 6912 6912) (nF S F) (nG S G) Q
  obtain ⟨x2, x2e⟩ : ∃ x2 : Nat, x2 = sn S + 1 := ⟨_, rfl⟩
  have h := h x2 x2e
  rw [← x2e]
  obtain ⟨S3, S3e⟩ : ∃ S3 : AS, S3 = na S 21 6912 6912 := ⟨_, rfl⟩
  have h := h S3 S3e
  rw [← S3e]
  obtain ⟨F4, F4e⟩ : ∃ F4 : AF, F4 = nF S F := ⟨_, rfl⟩
  have h := h F4 F4e
  rw [← F4e]
  obtain ⟨G5, G5e⟩ : ∃ G5 : AG, G5 = nG S G := ⟨_, rfl⟩
  have h := h G5 G5e
  rw [← G5e]
  obtain ⟨q6, h⟩ := h
  obtain ⟨q7, h⟩ := h
  refine go_putR (show decode cX2_init 43 = .ok (.putfield 28, 3) by decide +kernel) fl_X2_28 rfl (Or.inr ⟨rfl, rfl⟩) q6 q7 ?_
  obtain ⟨S8, S8e⟩ : ∃ S8 : AS, S8 = ru S3 a0 3 x2 := ⟨_, rfl⟩
  have h := h S8 S8e
  rw [← S8e]
  refine go_aload_n (show decode cX2_init 46 = .ok (.aload_n 0, 1) by decide +kernel) (by rfl) ?_
  refine go_sipush (show decode cX2_init 47 = .ok (.sipush 2304, 3) by decide +kernel) (by decide) ?_
  obtain ⟨q9, h⟩ := h
  refine go_newa (K := 21) (show decode cX2_init 50 = .ok (.newarray .long, 2) by decide +kernel) rfl (by decide) ar_21 (by decide) (by decide) q9 ?_
  show Go d MX2_init 52 [some (vR a0), none] [vR (sn S8 + 1), vR a0] (na S8 21 2304 2304) (nF S8 F4) (nG S8 G5) Q
  obtain ⟨x10, x10e⟩ : ∃ x10 : Nat, x10 = sn S8 + 1 := ⟨_, rfl⟩
  have h := h x10 x10e
  rw [← x10e]
  obtain ⟨S11, S11e⟩ : ∃ S11 : AS, S11 = na S8 21 2304 2304 := ⟨_, rfl⟩
  have h := h S11 S11e
  rw [← S11e]
  obtain ⟨F12, F12e⟩ : ∃ F12 : AF, F12 = nF S8 F4 := ⟨_, rfl⟩
  have h := h F12 F12e
  rw [← F12e]
  obtain ⟨G13, G13e⟩ : ∃ G13 : AG, G13 = nG S8 G5 := ⟨_, rfl⟩
  have h := h G13 G13e
  rw [← G13e]
  obtain ⟨q14, h⟩ := h
  obtain ⟨q15, h⟩ := h
  refine go_putR (show decode cX2_init 52 = .ok (.putfield 32, 3) by decide +kernel) fl_X2_32 rfl (Or.inr ⟨rfl, rfl⟩) q14 q15 ?_
  obtain ⟨S16, S16e⟩ : ∃ S16 : AS, S16 = ru S11 a0 4 x10 := ⟨_, rfl⟩
  have h := h S16 S16e
  rw [← S16e]
  refine go_aload_n (show decode cX2_init 55 = .ok (.aload_n 0, 1) by decide +kernel) (by rfl) ?_
  refine go_bipush (show decode cX2_init 56 = .ok (.bipush 6, 2) by decide +kernel) (by decide) ?_
  obtain ⟨q17, h⟩ := h
  refine go_newq (K := 24) (C := "StockGrid$Zone") (show decode cX2_init 58 = .ok (.anewarray 35, 3) by decide +kernel) rfl (by decide) cl_X2_35 (by decide) (by decide) (by decide) q17 ?_
  show Go d MX2_init 61 [some (vR a0), none] [vR (sn S16 + 1), vR a0] (na S16 24 6 6) (nF S16 F12) (nG S16 G13) Q
  obtain ⟨x18, x18e⟩ : ∃ x18 : Nat, x18 = sn S16 + 1 := ⟨_, rfl⟩
  have h := h x18 x18e
  rw [← x18e]
  obtain ⟨S19, S19e⟩ : ∃ S19 : AS, S19 = na S16 24 6 6 := ⟨_, rfl⟩
  have h := h S19 S19e
  rw [← S19e]
  obtain ⟨F20, F20e⟩ : ∃ F20 : AF, F20 = nF S16 F12 := ⟨_, rfl⟩
  have h := h F20 F20e
  rw [← F20e]
  obtain ⟨G21, G21e⟩ : ∃ G21 : AG, G21 = nG S16 G13 := ⟨_, rfl⟩
  have h := h G21 G21e
  rw [← G21e]
  obtain ⟨q22, h⟩ := h
  obtain ⟨q23, h⟩ := h
  refine go_putR (show decode cX2_init 61 = .ok (.putfield 37, 3) by decide +kernel) fl_X2_37 rfl (Or.inr ⟨rfl, rfl⟩) q22 q23 ?_
  obtain ⟨S24, S24e⟩ : ∃ S24 : AS, S24 = ru S19 a0 5 x18 := ⟨_, rfl⟩
  have h := h S24 S24e
  rw [← S24e]
  exact R_X2_init_64 h
set_option maxRecDepth 50000 in
def V_X2_init_0 (d : Nat) (S : AS) (F : AF) (G : AG) (Q : AQ) (a0 : Nat) : Prop :=
  (1 ≤ d) ∧
  (1 ≤ a0) ∧
  (sn S < 999998) ∧
  ∀ x4 : Nat, x4 = sn S + 1 →
  ∀ S5 : AS, S5 = na S 0 0 5 →
  ∀ F6 : AF, F6 = nF S F →
  ∀ G7 : AG, G7 = nG S G →
  (1 ≤ d) ∧
  (1 ≤ x4) ∧
  Ok (d - 1) MX0_init [vR x4] S5 F6 G7 (fun w9 S10 F11 G12 =>
  w9 = none ∧
  (sK S10 a0 = 2) ∧
  (x4 ≤ sn S10) ∧
  ∀ S16 : AS, S16 = ru S10 a0 0 x4 →
  (sn S16 < 999998) ∧
  ∀ x18 : Nat, x18 = sn S16 + 1 →
  ∀ S19 : AS, S19 = na S16 0 0 5 →
  ∀ F20 : AF, F20 = nF S16 F11 →
  ∀ G21 : AG, G21 = nG S16 G12 →
  (1 ≤ d) ∧
  (1 ≤ x18) ∧
  Ok (d - 1) MX0_init [vR x18] S19 F20 G21 (fun w23 S24 F25 G26 =>
  w23 = none ∧
  (sK S24 a0 = 2) ∧
  (x18 ≤ sn S24) ∧
  ∀ S30 : AS, S30 = ru S24 a0 1 x18 →
  (sn S30 < 999998) ∧
  ∀ x32 : Nat, x32 = sn S30 + 1 →
  ∀ S33 : AS, S33 = na S30 3 0 4 →
  ∀ F34 : AF, F34 = nF S30 F25 →
  ∀ G35 : AG, G35 = nG S30 G26 →
  (1 ≤ d) ∧
  (1 ≤ x32) ∧
  Ok (d - 1) MX3_init [vR x32] S33 F34 G35 (fun w37 S38 F39 G40 =>
  w37 = none ∧
  (sK S38 a0 = 2) ∧
  (x32 ≤ sn S38) ∧
  ∀ S44 : AS, S44 = ru S38 a0 2 x32 →
  V_X2_init_37 d S44 F39 G40 Q a0)))
set_option maxRecDepth 50000 in
theorem R_X2_init_0 {d : Nat} {S : AS} {F : AF} {G : AG} {Q : AQ} {a0 : Nat} (h : V_X2_init_0 d S F G Q a0) : Go d MX2_init 0 [some (vR a0), none] [] S F G Q := by
  unfold V_X2_init_0 at h
  refine go_aload_n (show decode cX2_init 0 = .ok (.aload_n 0, 1) by decide +kernel) (by rfl) ?_
  obtain ⟨q1, h⟩ := h
  obtain ⟨q2, h⟩ := h
  refine go_objInit (show decode cX2_init 1 = .ok (.invokespecial 3, 3) by decide +kernel) ml_X2_3 oi_1 oi_2 q2 (Nat.le_of_ble_eq_true rfl) q1 ?_
  refine go_aload_n (show decode cX2_init 4 = .ok (.aload_n 0, 1) by decide +kernel) (by rfl) ?_
  obtain ⟨q3, h⟩ := h
  refine go_new (show decode cX2_init 5 = .ok (.new 9, 3) by decide +kernel) (by decide) cl_X2_9 ci_0 cz_0 q3 ?_
  show Go d MX2_init 8 [some (vR a0), none] [vR (sn S + 1), vR a0] (na S 0 0 5) (nF S F) (nG S G) Q
  obtain ⟨x4, x4e⟩ : ∃ x4 : Nat, x4 = sn S + 1 := ⟨_, rfl⟩
  have h := h x4 x4e
  rw [← x4e]
  obtain ⟨S5, S5e⟩ : ∃ S5 : AS, S5 = na S 0 0 5 := ⟨_, rfl⟩
  have h := h S5 S5e
  rw [← S5e]
  obtain ⟨F6, F6e⟩ : ∃ F6 : AF, F6 = nF S F := ⟨_, rfl⟩
  have h := h F6 F6e
  rw [← F6e]
  obtain ⟨G7, G7e⟩ : ∃ G7 : AG, G7 = nG S G := ⟨_, rfl⟩
  have h := h G7 G7e
  rw [← G7e]
  refine go_dup (show decode cX2_init 8 = .ok (.dup, 1) by decide +kernel) ?_
  obtain ⟨q8, h⟩ := h
  obtain ⟨q13, h⟩ := h
  refine go_callIN (d2 := d - 1) (M2 := MX0_init) (n := 0) (av := []) (st := [vR x4, vR a0]) (show decode cX2_init 9 = .ok (.invokespecial 11, 3) by decide +kernel) ml_X2_11 mt_X0_init rfl rfl min_X0_init q13 rfl (Nat.le_of_ble_eq_true rfl) (by omega) (ok_mono h (fun w9 S10 F11 G12 h => ?_))
  obtain ⟨e9, h⟩ := h
  subst e9
  show Go d MX2_init 12 [some (vR a0), none] [vR x4, vR a0] S10 F11 G12 Q
  obtain ⟨q14, h⟩ := h
  obtain ⟨q15, h⟩ := h
  refine go_putR (show decode cX2_init 12 = .ok (.putfield 12, 3) by decide +kernel) fl_X2_12 rfl (Or.inr ⟨rfl, rfl⟩) q14 q15 ?_
  obtain ⟨S16, S16e⟩ : ∃ S16 : AS, S16 = ru S10 a0 0 x4 := ⟨_, rfl⟩
  have h := h S16 S16e
  rw [← S16e]
  refine go_aload_n (show decode cX2_init 15 = .ok (.aload_n 0, 1) by decide +kernel) (by rfl) ?_
  obtain ⟨q17, h⟩ := h
  refine go_new (show decode cX2_init 16 = .ok (.new 9, 3) by decide +kernel) (by decide) cl_X2_9 ci_0 cz_0 q17 ?_
  show Go d MX2_init 19 [some (vR a0), none] [vR (sn S16 + 1), vR a0] (na S16 0 0 5) (nF S16 F11) (nG S16 G12) Q
  obtain ⟨x18, x18e⟩ : ∃ x18 : Nat, x18 = sn S16 + 1 := ⟨_, rfl⟩
  have h := h x18 x18e
  rw [← x18e]
  obtain ⟨S19, S19e⟩ : ∃ S19 : AS, S19 = na S16 0 0 5 := ⟨_, rfl⟩
  have h := h S19 S19e
  rw [← S19e]
  obtain ⟨F20, F20e⟩ : ∃ F20 : AF, F20 = nF S16 F11 := ⟨_, rfl⟩
  have h := h F20 F20e
  rw [← F20e]
  obtain ⟨G21, G21e⟩ : ∃ G21 : AG, G21 = nG S16 G12 := ⟨_, rfl⟩
  have h := h G21 G21e
  rw [← G21e]
  refine go_dup (show decode cX2_init 19 = .ok (.dup, 1) by decide +kernel) ?_
  obtain ⟨q22, h⟩ := h
  obtain ⟨q27, h⟩ := h
  refine go_callIN (d2 := d - 1) (M2 := MX0_init) (n := 0) (av := []) (st := [vR x18, vR a0]) (show decode cX2_init 20 = .ok (.invokespecial 11, 3) by decide +kernel) ml_X2_11 mt_X0_init rfl rfl min_X0_init q27 rfl (Nat.le_of_ble_eq_true rfl) (by omega) (ok_mono h (fun w23 S24 F25 G26 h => ?_))
  obtain ⟨e9, h⟩ := h
  subst e9
  show Go d MX2_init 23 [some (vR a0), none] [vR x18, vR a0] S24 F25 G26 Q
  obtain ⟨q28, h⟩ := h
  obtain ⟨q29, h⟩ := h
  refine go_putR (show decode cX2_init 23 = .ok (.putfield 18, 3) by decide +kernel) fl_X2_18 rfl (Or.inr ⟨rfl, rfl⟩) q28 q29 ?_
  obtain ⟨S30, S30e⟩ : ∃ S30 : AS, S30 = ru S24 a0 1 x18 := ⟨_, rfl⟩
  have h := h S30 S30e
  rw [← S30e]
  refine go_aload_n (show decode cX2_init 26 = .ok (.aload_n 0, 1) by decide +kernel) (by rfl) ?_
  obtain ⟨q31, h⟩ := h
  refine go_new (show decode cX2_init 27 = .ok (.new 21, 3) by decide +kernel) (by decide) cl_X2_21 ci_3 cz_3 q31 ?_
  show Go d MX2_init 30 [some (vR a0), none] [vR (sn S30 + 1), vR a0] (na S30 3 0 4) (nF S30 F25) (nG S30 G26) Q
  obtain ⟨x32, x32e⟩ : ∃ x32 : Nat, x32 = sn S30 + 1 := ⟨_, rfl⟩
  have h := h x32 x32e
  rw [← x32e]
  obtain ⟨S33, S33e⟩ : ∃ S33 : AS, S33 = na S30 3 0 4 := ⟨_, rfl⟩
  have h := h S33 S33e
  rw [← S33e]
  obtain ⟨F34, F34e⟩ : ∃ F34 : AF, F34 = nF S30 F25 := ⟨_, rfl⟩
  have h := h F34 F34e
  rw [← F34e]
  obtain ⟨G35, G35e⟩ : ∃ G35 : AG, G35 = nG S30 G26 := ⟨_, rfl⟩
  have h := h G35 G35e
  rw [← G35e]
  refine go_dup (show decode cX2_init 30 = .ok (.dup, 1) by decide +kernel) ?_
  obtain ⟨q36, h⟩ := h
  obtain ⟨q41, h⟩ := h
  refine go_callIN (d2 := d - 1) (M2 := MX3_init) (n := 0) (av := []) (st := [vR x32, vR a0]) (show decode cX2_init 31 = .ok (.invokespecial 23, 3) by decide +kernel) ml_X2_23 mt_X3_init rfl rfl min_X3_init q41 rfl (Nat.le_of_ble_eq_true rfl) (by omega) (ok_mono h (fun w37 S38 F39 G40 h => ?_))
  obtain ⟨e9, h⟩ := h
  subst e9
  show Go d MX2_init 34 [some (vR a0), none] [vR x32, vR a0] S38 F39 G40 Q
  obtain ⟨q42, h⟩ := h
  obtain ⟨q43, h⟩ := h
  refine go_putR (show decode cX2_init 34 = .ok (.putfield 24, 3) by decide +kernel) fl_X2_24 rfl (Or.inr ⟨rfl, rfl⟩) q42 q43 ?_
  obtain ⟨S44, S44e⟩ : ∃ S44 : AS, S44 = ru S38 a0 2 x32 := ⟨_, rfl⟩
  have h := h S44 S44e
  rw [← S44e]
  exact R_X2_init_37 h
