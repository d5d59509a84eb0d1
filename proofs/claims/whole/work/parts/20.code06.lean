def V_X10_meets_125 (d : Nat) (S : AS) (F : AF) (G : AG) (Q : AQ) (a1 : Int) (a2 : Int) (a3 : Int) (a4 : Int) (a5 : Int) (s0 : Int) : Prop :=
  ∀ F1 : AF, F1 = fu F 53 27 s0 →
  ((F1 53 26 < F1 53 24) →
    Q (some (vI 0)) S F1 G) ∧
  ((¬ F1 53 26 < F1 53 24) →
    ((F1 53 27 < F1 53 25) →
      Q (some (vI 0)) S F1 G) ∧
    ((¬ F1 53 27 < F1 53 25) →
      Q (some (vI 1)) S F1 G))
theorem R_X10_meets_125 {d : Nat} {S : AS} {F : AF} {G : AG} {Q : AQ} {a1 : Int} {a2 : Int} {a3 : Int} {a4 : Int} {a5 : Int} {s0 : Int} (hsm : ShM S) (h : V_X10_meets_125 d S F G Q a1 a2 a3 a4 a5 s0) : Go d MX10_meets 125 [some (vR 53), some (vI a1), some (vI a2), some (vI a3), some (vI a4), some (vI a5)] [vI s0, vR 53] S F G Q := by
  unfold V_X10_meets_125 at h
  refine go_putI (show decode cX10_meets 125 = .ok (.putfield 248, 3) by decide +kernel) fl_X10_248 rfl (Or.inl rfl) (shm_k hsm 53 (by decide) (by decide)) ?_
  obtain ⟨F1, F1e⟩ : ∃ F1 : AF, F1 = fu F 53 27 s0 := ⟨_, rfl⟩
  have h := h F1 F1e
  rw [← F1e]
  refine go_aload_n (show decode cX10_meets 128 = .ok (.aload_n 0, 1) by decide +kernel) (by rfl) ?_
  refine go_getI (show decode cX10_meets 129 = .ok (.getfield 239, 3) by decide +kernel) fl_X10_239 (Or.inl rfl) (shm_k hsm 53 (by decide) (by decide)) ?_
  refine go_aload_n (show decode cX10_meets 132 = .ok (.aload_n 0, 1) by decide +kernel) (by rfl) ?_
  refine go_getI (show decode cX10_meets 133 = .ok (.getfield 245, 3) by decide +kernel) fl_X10_245 (Or.inl rfl) (shm_k hsm 53 (by decide) (by decide)) ?_
  obtain ⟨ht, hf⟩ := h
  refine go_icmpgt (tgt := 154) (show decode cX10_meets 136 = .ok (.if_icmp .gt 18, 3) by decide +kernel) (by decide) (fun hc => ?_) (fun hc => ?_)
  · have h := ht hc
    refine go_iconst (show decode cX10_meets 154 = .ok (.iconst 0, 1) by decide +kernel) (by decide) ?_
    exact go_zret (show decode cX10_meets 155 = .ok (.ireturn, 1) by decide +kernel) rfl (by decide) h
  · have h := hf hc
    refine go_aload_n (show decode cX10_meets 139 = .ok (.aload_n 0, 1) by decide +kernel) (by rfl) ?_
    refine go_getI (show decode cX10_meets 140 = .ok (.getfield 242, 3) by decide +kernel) fl_X10_242 (Or.inl rfl) (shm_k hsm 53 (by decide) (by decide)) ?_
    refine go_aload_n (show decode cX10_meets 143 = .ok (.aload_n 0, 1) by decide +kernel) (by rfl) ?_
    refine go_getI (show decode cX10_meets 144 = .ok (.getfield 248, 3) by decide +kernel) fl_X10_248 (Or.inl rfl) (shm_k hsm 53 (by decide) (by decide)) ?_
    obtain ⟨ht, hf⟩ := h
    refine go_icmpgt (tgt := 154) (show decode cX10_meets 147 = .ok (.if_icmp .gt 7, 3) by decide +kernel) (by decide) (fun hc => ?_) (fun hc => ?_)
    · have h := ht hc
      refine go_iconst (show decode cX10_meets 154 = .ok (.iconst 0, 1) by decide +kernel) (by decide) ?_
      exact go_zret (show decode cX10_meets 155 = .ok (.ireturn, 1) by decide +kernel) rfl (by decide) h
    · have h := hf hc
      refine go_iconst (show decode cX10_meets 150 = .ok (.iconst 1, 1) by decide +kernel) (by decide) ?_
      refine go_goto (tgt := 155) (show decode cX10_meets 151 = .ok (.goto 4, 3) by decide +kernel) (by decide) ?_
      exact go_zret (show decode cX10_meets 155 = .ok (.ireturn, 1) by decide +kernel) rfl (by decide) h
def V_X10_meets_91 (d : Nat) (S : AS) (F : AF) (G : AG) (Q : AQ) (a1 : Int) (a2 : Int) (a3 : Int) (a4 : Int) (a5 : Int) (s0 : Int) : Prop :=
  ∀ F1 : AF, F1 = fu F 53 26 s0 →
  (r32 (4 * a1)) ∧
  (r32 ((4 * a1) + 3)) ∧
  ((0 : Int) ≤ (4 * a1) + 3) ∧
  (((4 * a1) + 3 : Int) < 24) ∧
  ((G 63 ((4 * a1) + 3) ≤ a5) →
    V_X10_meets_125 d S F1 G Q a1 a2 a3 a4 a5 (G 63 ((4 * a1) + 3))) ∧
  ((¬ G 63 ((4 * a1) + 3) ≤ a5) →
    V_X10_meets_125 d S F1 G Q a1 a2 a3 a4 a5 a5)
theorem R_X10_meets_91 {d : Nat} {S : AS} {F : AF} {G : AG} {Q : AQ} {a1 : Int} {a2 : Int} {a3 : Int} {a4 : Int} {a5 : Int} {s0 : Int} (hsm : ShM S) (h : V_X10_meets_91 d S F G Q a1 a2 a3 a4 a5 s0) : Go d MX10_meets 91 [some (vR 53), some (vI a1), some (vI a2), some (vI a3), some (vI a4), some (vI a5)] [vI s0, vR 53] S F G Q := by
  unfold V_X10_meets_91 at h
  refine go_putI (show decode cX10_meets 91 = .ok (.putfield 245, 3) by decide +kernel) fl_X10_245 rfl (Or.inl rfl) (shm_k hsm 53 (by decide) (by decide)) ?_
  obtain ⟨F1, F1e⟩ : ∃ F1 : AF, F1 = fu F 53 26 s0 := ⟨_, rfl⟩
  have h := h F1 F1e
  rw [← F1e]
  refine go_aload_n (show decode cX10_meets 94 = .ok (.aload_n 0, 1) by decide +kernel) (by rfl) ?_
  refine go_iload (show decode cX10_meets 95 = .ok (.iload 5, 2) by decide +kernel) (by rfl) ?_
  refine go_aload_n (show decode cX10_meets 97 = .ok (.aload_n 0, 1) by decide +kernel) (by rfl) ?_
  refine go_getRc (show decode cX10_meets 98 = .ok (.getfield 55, 3) by decide +kernel) fl_X10_55 rfl (shm_k hsm 53 (by decide) (by decide)) (v := 63) (shm_r hsm 53 15 (by decide) (by decide)) ?_
  refine go_iconst (show decode cX10_meets 101 = .ok (.iconst 4, 1) by decide +kernel) (by decide) ?_
  refine go_iload_n (show decode cX10_meets 102 = .ok (.iload_n 1, 1) by decide +kernel) (by rfl) ?_
  obtain ⟨q2, h⟩ := h
  refine go_imul (show decode cX10_meets 103 = .ok (.imul, 1) by decide +kernel) q2 ?_
  refine go_iconst (show decode cX10_meets 104 = .ok (.iconst 3, 1) by decide +kernel) (by decide) ?_
  obtain ⟨q3, h⟩ := h
  refine go_iadd (show decode cX10_meets 105 = .ok (.iadd, 1) by decide +kernel) q3 ?_
  obtain ⟨q4, h⟩ := h
  obtain ⟨q5, h⟩ := h
  refine go_iaload (show decode cX10_meets 106 = .ok (.iaload, 1) by decide +kernel) (shm_k hsm 63 (by decide) (by decide)) q4 (lt_n (m := 24) q5 (shm_n hsm 63 (by decide) (by decide))) ?_
  obtain ⟨ht, hf⟩ := h
  refine go_icmpge (tgt := 115) (show decode cX10_meets 107 = .ok (.if_icmp .ge 8, 3) by decide +kernel) (by decide) (fun hc => ?_) (fun hc => ?_)
  · have h := ht hc
    refine go_aload_n (show decode cX10_meets 115 = .ok (.aload_n 0, 1) by decide +kernel) (by rfl) ?_
    refine go_getRc (show decode cX10_meets 116 = .ok (.getfield 55, 3) by decide +kernel) fl_X10_55 rfl (shm_k hsm 53 (by decide) (by decide)) (v := 63) (shm_r hsm 53 15 (by decide) (by decide)) ?_
    refine go_iconst (show decode cX10_meets 119 = .ok (.iconst 4, 1) by decide +kernel) (by decide) ?_
    refine go_iload_n (show decode cX10_meets 120 = .ok (.iload_n 1, 1) by decide +kernel) (by rfl) ?_
    refine go_imul (show decode cX10_meets 121 = .ok (.imul, 1) by decide +kernel) q2 ?_
    refine go_iconst (show decode cX10_meets 122 = .ok (.iconst 3, 1) by decide +kernel) (by decide) ?_
    refine go_iadd (show decode cX10_meets 123 = .ok (.iadd, 1) by decide +kernel) q3 ?_
    refine go_iaload (show decode cX10_meets 124 = .ok (.iaload, 1) by decide +kernel) (shm_k hsm 63 (by decide) (by decide)) q4 (lt_n (m := 24) q5 (shm_n hsm 63 (by decide) (by decide))) ?_
    exact R_X10_meets_125 hsm h
  · have h := hf hc
    refine go_iload (show decode cX10_meets 110 = .ok (.iload 5, 2) by decide +kernel) (by rfl) ?_
    refine go_goto (tgt := 125) (show decode cX10_meets 112 = .ok (.goto 13, 3) by decide +kernel) (by decide) ?_
    exact R_X10_meets_125 hsm h
def V_X10_meets_57 (d : Nat) (S : AS) (F : AF) (G : AG) (Q : AQ) (a1 : Int) (a2 : Int) (a3 : Int) (a4 : Int) (a5 : Int) (s0 : Int) : Prop :=
  ∀ F1 : AF, F1 = fu F 53 25 s0 →
  (r32 (4 * a1)) ∧
  (r32 ((4 * a1) + 2)) ∧
  ((0 : Int) ≤ (4 * a1) + 2) ∧
  (((4 * a1) + 2 : Int) < 24) ∧
  ((G 63 ((4 * a1) + 2) ≤ a4) →
    V_X10_meets_91 d S F1 G Q a1 a2 a3 a4 a5 (G 63 ((4 * a1) + 2))) ∧
  ((¬ G 63 ((4 * a1) + 2) ≤ a4) →
    V_X10_meets_91 d S F1 G Q a1 a2 a3 a4 a5 a4)
theorem R_X10_meets_57 {d : Nat} {S : AS} {F : AF} {G : AG} {Q : AQ} {a1 : Int} {a2 : Int} {a3 : Int} {a4 : Int} {a5 : Int} {s0 : Int} (hsm : ShM S) (h : V_X10_meets_57 d S F G Q a1 a2 a3 a4 a5 s0) : Go d MX10_meets 57 [some (vR 53), some (vI a1), some (vI a2), some (vI a3), some (vI a4), some (vI a5)] [vI s0, vR 53] S F G Q := by
  unfold V_X10_meets_57 at h
  refine go_putI (show decode cX10_meets 57 = .ok (.putfield 242, 3) by decide +kernel) fl_X10_242 rfl (Or.inl rfl) (shm_k hsm 53 (by decide) (by decide)) ?_
  obtain ⟨F1, F1e⟩ : ∃ F1 : AF, F1 = fu F 53 25 s0 := ⟨_, rfl⟩
  have h := h F1 F1e
  rw [← F1e]
  refine go_aload_n (show decode cX10_meets 60 = .ok (.aload_n 0, 1) by decide +kernel) (by rfl) ?_
  refine go_iload (show decode cX10_meets 61 = .ok (.iload 4, 2) by decide +kernel) (by rfl) ?_
  refine go_aload_n (show decode cX10_meets 63 = .ok (.aload_n 0, 1) by decide +kernel) (by rfl) ?_
  refine go_getRc (show decode cX10_meets 64 = .ok (.getfield 55, 3) by decide +kernel) fl_X10_55 rfl (shm_k hsm 53 (by decide) (by decide)) (v := 63) (shm_r hsm 53 15 (by decide) (by decide)) ?_
  refine go_iconst (show decode cX10_meets 67 = .ok (.iconst 4, 1) by decide +kernel) (by decide) ?_
  refine go_iload_n (show decode cX10_meets 68 = .ok (.iload_n 1, 1) by decide +kernel) (by rfl) ?_
  obtain ⟨q2, h⟩ := h
  refine go_imul (show decode cX10_meets 69 = .ok (.imul, 1) by decide +kernel) q2 ?_
  refine go_iconst (show decode cX10_meets 70 = .ok (.iconst 2, 1) by decide +kernel) (by decide) ?_
  obtain ⟨q3, h⟩ := h
  refine go_iadd (show decode cX10_meets 71 = .ok (.iadd, 1) by decide +kernel) q3 ?_
  obtain ⟨q4, h⟩ := h
  obtain ⟨q5, h⟩ := h
  refine go_iaload (show decode cX10_meets 72 = .ok (.iaload, 1) by decide +kernel) (shm_k hsm 63 (by decide) (by decide)) q4 (lt_n (m := 24) q5 (shm_n hsm 63 (by decide) (by decide))) ?_
  obtain ⟨ht, hf⟩ := h
  refine go_icmpge (tgt := 81) (show decode cX10_meets 73 = .ok (.if_icmp .ge 8, 3) by decide +kernel) (by decide) (fun hc => ?_) (fun hc => ?_)
  · have h := ht hc
    refine go_aload_n (show decode cX10_meets 81 = .ok (.aload_n 0, 1) by decide +kernel) (by rfl) ?_
    refine go_getRc (show decode cX10_meets 82 = .ok (.getfield 55, 3) by decide +kernel) fl_X10_55 rfl (shm_k hsm 53 (by decide) (by decide)) (v := 63) (shm_r hsm 53 15 (by decide) (by decide)) ?_
    refine go_iconst (show decode cX10_meets 85 = .ok (.iconst 4, 1) by decide +kernel) (by decide) ?_
    refine go_iload_n (show decode cX10_meets 86 = .ok (.iload_n 1, 1) by decide +kernel) (by rfl) ?_
    refine go_imul (show decode cX10_meets 87 = .ok (.imul, 1) by decide +kernel) q2 ?_
    refine go_iconst (show decode cX10_meets 88 = .ok (.iconst 2, 1) by decide +kernel) (by decide) ?_
    refine go_iadd (show decode cX10_meets 89 = .ok (.iadd, 1) by decide +kernel) q3 ?_
    refine go_iaload (show decode cX10_meets 90 = .ok (.iaload, 1) by decide +kernel) (shm_k hsm 63 (by decide) (by decide)) q4 (lt_n (m := 24) q5 (shm_n hsm 63 (by decide) (by decide))) ?_
    exact R_X10_meets_91 hsm h
  · have h := hf hc
    refine go_iload (show decode cX10_meets 76 = .ok (.iload 4, 2) by decide +kernel) (by rfl) ?_
    refine go_goto (tgt := 91) (show decode cX10_meets 78 = .ok (.goto 13, 3) by decide +kernel) (by decide) ?_
    exact R_X10_meets_91 hsm h
def V_X10_meets_25 (d : Nat) (S : AS) (F : AF) (G : AG) (Q : AQ) (a1 : Int) (a2 : Int) (a3 : Int) (a4 : Int) (a5 : Int) (s0 : Int) : Prop :=
  ∀ F1 : AF, F1 = fu F 53 24 s0 →
  (r32 (4 * a1)) ∧
  (r32 ((4 * a1) + 1)) ∧
  ((0 : Int) ≤ (4 * a1) + 1) ∧
  (((4 * a1) + 1 : Int) < 24) ∧
  ((a3 ≤ G 63 ((4 * a1) + 1)) →
    V_X10_meets_57 d S F1 G Q a1 a2 a3 a4 a5 (G 63 ((4 * a1) + 1))) ∧
  ((¬ a3 ≤ G 63 ((4 * a1) + 1)) →
    V_X10_meets_57 d S F1 G Q a1 a2 a3 a4 a5 a3)
theorem R_X10_meets_25 {d : Nat} {S : AS} {F : AF} {G : AG} {Q : AQ} {a1 : Int} {a2 : Int} {a3 : Int} {a4 : Int} {a5 : Int} {s0 : Int} (hsm : ShM S) (h : V_X10_meets_25 d S F G Q a1 a2 a3 a4 a5 s0) : Go d MX10_meets 25 [some (vR 53), some (vI a1), some (vI a2), some (vI a3), some (vI a4), some (vI a5)] [vI s0, vR 53] S F G Q := by
  unfold V_X10_meets_25 at h
  refine go_putI (show decode cX10_meets 25 = .ok (.putfield 239, 3) by decide +kernel) fl_X10_239 rfl (Or.inl rfl) (shm_k hsm 53 (by decide) (by decide)) ?_
  obtain ⟨F1, F1e⟩ : ∃ F1 : AF, F1 = fu F 53 24 s0 := ⟨_, rfl⟩
  have h := h F1 F1e
  rw [← F1e]
  refine go_aload_n (show decode cX10_meets 28 = .ok (.aload_n 0, 1) by decide +kernel) (by rfl) ?_
  refine go_iload_n (show decode cX10_meets 29 = .ok (.iload_n 3, 1) by decide +kernel) (by rfl) ?_
  refine go_aload_n (show decode cX10_meets 30 = .ok (.aload_n 0, 1) by decide +kernel) (by rfl) ?_
  refine go_getRc (show decode cX10_meets 31 = .ok (.getfield 55, 3) by decide +kernel) fl_X10_55 rfl (shm_k hsm 53 (by decide) (by decide)) (v := 63) (shm_r hsm 53 15 (by decide) (by decide)) ?_
  refine go_iconst (show decode cX10_meets 34 = .ok (.iconst 4, 1) by decide +kernel) (by decide) ?_
  refine go_iload_n (show decode cX10_meets 35 = .ok (.iload_n 1, 1) by decide +kernel) (by rfl) ?_
  obtain ⟨q2, h⟩ := h
  refine go_imul (show decode cX10_meets 36 = .ok (.imul, 1) by decide +kernel) q2 ?_
  refine go_iconst (show decode cX10_meets 37 = .ok (.iconst 1, 1) by decide +kernel) (by decide) ?_
  obtain ⟨q3, h⟩ := h
  refine go_iadd (show decode cX10_meets 38 = .ok (.iadd, 1) by decide +kernel) q3 ?_
  obtain ⟨q4, h⟩ := h
  obtain ⟨q5, h⟩ := h
  refine go_iaload (show decode cX10_meets 39 = .ok (.iaload, 1) by decide +kernel) (shm_k hsm 63 (by decide) (by decide)) q4 (lt_n (m := 24) q5 (shm_n hsm 63 (by decide) (by decide))) ?_
  obtain ⟨ht, hf⟩ := h
  refine go_icmple (tgt := 47) (show decode cX10_meets 40 = .ok (.if_icmp .le 7, 3) by decide +kernel) (by decide) (fun hc => ?_) (fun hc => ?_)
  · have h := ht hc
    refine go_aload_n (show decode cX10_meets 47 = .ok (.aload_n 0, 1) by decide +kernel) (by rfl) ?_
    refine go_getRc (show decode cX10_meets 48 = .ok (.getfield 55, 3) by decide +kernel) fl_X10_55 rfl (shm_k hsm 53 (by decide) (by decide)) (v := 63) (shm_r hsm 53 15 (by decide) (by decide)) ?_
    refine go_iconst (show decode cX10_meets 51 = .ok (.iconst 4, 1) by decide +kernel) (by decide) ?_
    refine go_iload_n (show decode cX10_meets 52 = .ok (.iload_n 1, 1) by decide +kernel) (by rfl) ?_
    refine go_imul (show decode cX10_meets 53 = .ok (.imul, 1) by decide +kernel) q2 ?_
    refine go_iconst (show decode cX10_meets 54 = .ok (.iconst 1, 1) by decide +kernel) (by decide) ?_
    refine go_iadd (show decode cX10_meets 55 = .ok (.iadd, 1) by decide +kernel) q3 ?_
    refine go_iaload (show decode cX10_meets 56 = .ok (.iaload, 1) by decide +kernel) (shm_k hsm 63 (by decide) (by decide)) q4 (lt_n (m := 24) q5 (shm_n hsm 63 (by decide) (by decide))) ?_
    exact R_X10_meets_57 hsm h
  · have h := hf hc
    refine go_iload_n (show decode cX10_meets 43 = .ok (.iload_n 3, 1) by decide +kernel) (by rfl) ?_
    refine go_goto (tgt := 57) (show decode cX10_meets 44 = .ok (.goto 13, 3) by decide +kernel) (by decide) ?_
    exact R_X10_meets_57 hsm h
def V_X10_meets_0 (d : Nat) (S : AS) (F : AF) (G : AG) (Q : AQ) (a1 : Int) (a2 : Int) (a3 : Int) (a4 : Int) (a5 : Int) : Prop :=
  (r32 (4 * a1)) ∧
  ((0 : Int) ≤ 4 * a1) ∧
  ((4 * a1 : Int) < 24) ∧
  ((a2 ≤ G 63 (4 * a1)) →
    V_X10_meets_25 d S F G Q a1 a2 a3 a4 a5 (G 63 (4 * a1))) ∧
  ((¬ a2 ≤ G 63 (4 * a1)) →
    V_X10_meets_25 d S F G Q a1 a2 a3 a4 a5 a2)
theorem R_X10_meets_0 {d : Nat} {S : AS} {F : AF} {G : AG} {Q : AQ} {a1 : Int} {a2 : Int} {a3 : Int} {a4 : Int} {a5 : Int} (hsm : ShM S) (h : V_X10_meets_0 d S F G Q a1 a2 a3 a4 a5) : Go d MX10_meets 0 [some (vR 53), some (vI a1), some (vI a2), some (vI a3), some (vI a4), some (vI a5)] [] S F G Q := by
  unfold V_X10_meets_0 at h
  refine go_aload_n (show decode cX10_meets 0 = .ok (.aload_n 0, 1) by decide +kernel) (by rfl) ?_
  refine go_iload_n (show decode cX10_meets 1 = .ok (.iload_n 2, 1) by decide +kernel) (by rfl) ?_
  refine go_aload_n (show decode cX10_meets 2 = .ok (.aload_n 0, 1) by decide +kernel) (by rfl) ?_
  refine go_getRc (show decode cX10_meets 3 = .ok (.getfield 55, 3) by decide +kernel) fl_X10_55 rfl (shm_k hsm 53 (by decide) (by decide)) (v := 63) (shm_r hsm 53 15 (by decide) (by decide)) ?_
  refine go_iconst (show decode cX10_meets 6 = .ok (.iconst 4, 1) by decide +kernel) (by decide) ?_
  refine go_iload_n (show decode cX10_meets 7 = .ok (.iload_n 1, 1) by decide +kernel) (by rfl) ?_
  obtain ⟨q1, h⟩ := h
  refine go_imul (show decode cX10_meets 8 = .ok (.imul, 1) by decide +kernel) q1 ?_
  obtain ⟨q2, h⟩ := h
  obtain ⟨q3, h⟩ := h
  refine go_iaload (show decode cX10_meets 9 = .ok (.iaload, 1) by decide +kernel) (shm_k hsm 63 (by decide) (by decide)) q2 (lt_n (m := 24) q3 (shm_n hsm 63 (by decide) (by decide))) ?_
  obtain ⟨ht, hf⟩ := h
  refine go_icmple (tgt := 17) (show decode cX10_meets 10 = .ok (.if_icmp .le 7, 3) by decide +kernel) (by decide) (fun hc => ?_) (fun hc => ?_)
  · have h := ht hc
    refine go_aload_n (show decode cX10_meets 17 = .ok (.aload_n 0, 1) by decide +kernel) (by rfl) ?_
    refine go_getRc (show decode cX10_meets 18 = .ok (.getfield 55, 3) by decide +kernel) fl_X10_55 rfl (shm_k hsm 53 (by decide) (by decide)) (v := 63) (shm_r hsm 53 15 (by decide) (by decide)) ?_
    refine go_iconst (show decode cX10_meets 21 = .ok (.iconst 4, 1) by decide +kernel) (by decide) ?_
    refine go_iload_n (show decode cX10_meets 22 = .ok (.iload_n 1, 1) by decide +kernel) (by rfl) ?_
    refine go_imul (show decode cX10_meets 23 = .ok (.imul, 1) by decide +kernel) q1 ?_
    refine go_iaload (show decode cX10_meets 24 = .ok (.iaload, 1) by decide +kernel) (shm_k hsm 63 (by decide) (by decide)) q2 (lt_n (m := 24) q3 (shm_n hsm 63 (by decide) (by decide))) ?_
    exact R_X10_meets_25 hsm h
  · have h := hf hc
    refine go_iload_n (show decode cX10_meets 13 = .ok (.iload_n 2, 1) by decide +kernel) (by rfl) ?_
    refine go_goto (tgt := 25) (show decode cX10_meets 14 = .ok (.goto 11, 3) by decide +kernel) (by decide) ?_
    exact R_X10_meets_25 hsm h
def V_X10_zoned_0 (d : Nat) (S : AS) (F : AF) (G : AG) (Q : AQ) (a1 : Int) : Prop :=
  (r32 (4 * a1)) ∧
  ((0 : Int) ≤ 4 * a1) ∧
  ((4 * a1 : Int) < 24) ∧
  (r32 ((4 * a1) + 1)) ∧
  ((0 : Int) ≤ (4 * a1) + 1) ∧
  (((4 * a1) + 1 : Int) < 24) ∧
  (r32 ((4 * a1) + 2)) ∧
  ((0 : Int) ≤ (4 * a1) + 2) ∧
  (((4 * a1) + 2 : Int) < 24) ∧
  (r32 ((4 * a1) + 3)) ∧
  ((0 : Int) ≤ (4 * a1) + 3) ∧
  (((4 * a1) + 3 : Int) < 24) ∧
  (1 ≤ d) ∧
  ∃ z18 : Int, Pu (d - 1) MX10_sumOf [vR 53, vI (-1), vI (G 63 (4 * a1)), vI (G 63 ((4 * a1) + 1)), vI (G 63 ((4 * a1) + 2)), vI (G 63 ((4 * a1) + 3))] S F G (some (vJ z18)) ∧
  Q (some (vJ z18)) S F G
theorem R_X10_zoned_0 {d : Nat} {S : AS} {F : AF} {G : AG} {Q : AQ} {a1 : Int} (hsm : ShM S) (h : V_X10_zoned_0 d S F G Q a1) : Go d MX10_zoned 0 [some (vR 53), some (vI a1)] [] S F G Q := by
  unfold V_X10_zoned_0 at h
  refine go_aload_n (show decode cX10_zoned 0 = .ok (.aload_n 0, 1) by decide +kernel) (by rfl) ?_
  refine go_iconst (show decode cX10_zoned 1 = .ok (.iconst (-1), 1) by decide +kernel) (by decide) ?_
  refine go_aload_n (show decode cX10_zoned 2 = .ok (.aload_n 0, 1) by decide +kernel) (by rfl) ?_
  refine go_getRc (show decode cX10_zoned 3 = .ok (.getfield 55, 3) by decide +kernel) fl_X10_55 rfl (shm_k hsm 53 (by decide) (by decide)) (v := 63) (shm_r hsm 53 15 (by decide) (by decide)) ?_
  refine go_iconst (show decode cX10_zoned 6 = .ok (.iconst 4, 1) by decide +kernel) (by decide) ?_
  refine go_iload_n (show decode cX10_zoned 7 = .ok (.iload_n 1, 1) by decide +kernel) (by rfl) ?_
  obtain ⟨q1, h⟩ := h
  refine go_imul (show decode cX10_zoned 8 = .ok (.imul, 1) by decide +kernel) q1 ?_
  obtain ⟨q2, h⟩ := h
  obtain ⟨q3, h⟩ := h
  refine go_iaload (show decode cX10_zoned 9 = .ok (.iaload, 1) by decide +kernel) (shm_k hsm 63 (by decide) (by decide)) q2 (lt_n (m := 24) q3 (shm_n hsm 63 (by decide) (by decide))) ?_
  refine go_aload_n (show decode cX10_zoned 10 = .ok (.aload_n 0, 1) by decide +kernel) (by rfl) ?_
  refine go_getRc (show decode cX10_zoned 11 = .ok (.getfield 55, 3) by decide +kernel) fl_X10_55 rfl (shm_k hsm 53 (by decide) (by decide)) (v := 63) (shm_r hsm 53 15 (by decide) (by decide)) ?_
  refine go_iconst (show decode cX10_zoned 14 = .ok (.iconst 4, 1) by decide +kernel) (by decide) ?_
  refine go_iload_n (show decode cX10_zoned 15 = .ok (.iload_n 1, 1) by decide +kernel) (by rfl) ?_
  refine go_imul (show decode cX10_zoned 16 = .ok (.imul, 1) by decide +kernel) q1 ?_
  refine go_iconst (show decode cX10_zoned 17 = .ok (.iconst 1, 1) by decide +kernel) (by decide) ?_
  obtain ⟨q4, h⟩ := h
  refine go_iadd (show decode cX10_zoned 18 = .ok (.iadd, 1) by decide +kernel) q4 ?_
  obtain ⟨q5, h⟩ := h
  obtain ⟨q6, h⟩ := h
  refine go_iaload (show decode cX10_zoned 19 = .ok (.iaload, 1) by decide +kernel) (shm_k hsm 63 (by decide) (by decide)) q5 (lt_n (m := 24) q6 (shm_n hsm 63 (by decide) (by decide))) ?_
  refine go_aload_n (show decode cX10_zoned 20 = .ok (.aload_n 0, 1) by decide +kernel) (by rfl) ?_
  refine go_getRc (show decode cX10_zoned 21 = .ok (.getfield 55, 3) by decide +kernel) fl_X10_55 rfl (shm_k hsm 53 (by decide) (by decide)) (v := 63) (shm_r hsm 53 15 (by decide) (by decide)) ?_
  refine go_iconst (show decode cX10_zoned 24 = .ok (.iconst 4, 1) by decide +kernel) (by decide) ?_
  refine go_iload_n (show decode cX10_zoned 25 = .ok (.iload_n 1, 1) by decide +kernel) (by rfl) ?_
  refine go_imul (show decode cX10_zoned 26 = .ok (.imul, 1) by decide +kernel) q1 ?_
  refine go_iconst (show decode cX10_zoned 27 = .ok (.iconst 2, 1) by decide +kernel) (by decide) ?_
  obtain ⟨q7, h⟩ := h
  refine go_iadd (show decode cX10_zoned 28 = .ok (.iadd, 1) by decide +kernel) q7 ?_
  obtain ⟨q8, h⟩ := h
  obtain ⟨q9, h⟩ := h
  refine go_iaload (show decode cX10_zoned 29 = .ok (.iaload, 1) by decide +kernel) (shm_k hsm 63 (by decide) (by decide)) q8 (lt_n (m := 24) q9 (shm_n hsm 63 (by decide) (by decide))) ?_
  refine go_aload_n (show decode cX10_zoned 30 = .ok (.aload_n 0, 1) by decide +kernel) (by rfl) ?_
  refine go_getRc (show decode cX10_zoned 31 = .ok (.getfield 55, 3) by decide +kernel) fl_X10_55 rfl (shm_k hsm 53 (by decide) (by decide)) (v := 63) (shm_r hsm 53 15 (by decide) (by decide)) ?_
  refine go_iconst (show decode cX10_zoned 34 = .ok (.iconst 4, 1) by decide +kernel) (by decide) ?_
  refine go_iload_n (show decode cX10_zoned 35 = .ok (.iload_n 1, 1) by decide +kernel) (by rfl) ?_
  refine go_imul (show decode cX10_zoned 36 = .ok (.imul, 1) by decide +kernel) q1 ?_
  refine go_iconst (show decode cX10_zoned 37 = .ok (.iconst 3, 1) by decide +kernel) (by decide) ?_
  obtain ⟨q10, h⟩ := h
  refine go_iadd (show decode cX10_zoned 38 = .ok (.iadd, 1) by decide +kernel) q10 ?_
  obtain ⟨q11, h⟩ := h
  obtain ⟨q12, h⟩ := h
  refine go_iaload (show decode cX10_zoned 39 = .ok (.iaload, 1) by decide +kernel) (shm_k hsm 63 (by decide) (by decide)) q11 (lt_n (m := 24) q12 (shm_n hsm 63 (by decide) (by decide))) ?_
  obtain ⟨q13, h⟩ := h
  obtain ⟨z18, p19, h⟩ := h
  refine go_callV (d2 := d - 1) (M2 := MX10_sumOf) (n := 5) (ci := 10) (av := [vI (-1), vI (G 63 (4 * a1)), vI (G 63 ((4 * a1) + 1)), vI (G 63 ((4 * a1) + 2)), vI (G 63 ((4 * a1) + 3))]) (st := []) (show decode cX10_zoned 40 = .ok (.invokevirtual 251, 3) by decide +kernel) ml_X10_251 mt_X10_sumOf min_X10_sumOf mse_X10_sumOf (by decide) (shm_k hsm 53 (by decide) (by decide)) rfl (Nat.le_of_ble_eq_true rfl) (by omega) (ok_mono p19 (fun w14 S15 F16 G17 e9 => ?_))
  obtain ⟨e1, e2, e3, e4⟩ := e9
  subst e1
  replace e2 := e2.symm; subst e2
  replace e3 := e3.symm; subst e3
  replace e4 := e4.symm; subst e4
  show Go d MX10_zoned 43 [some (vR 53), some (vI a1)] [vJ z18] S F G Q
  exact go_lret (show decode cX10_zoned 43 = .ok (.lreturn, 1) by decide +kernel) rfl h
def V_X10_sumOf_53 (d : Nat) (S : AS) (F : AF) (G : AG) (Q : AQ) (a1 : Int) (a2 : Int) (a3 : Int) (a4 : Int) (a5 : Int) (a6 : Int) (a8 : Int) (a9 : Int) : Prop :=
  (r32 (a8 + 1)) ∧
  Go d MX10_sumOf 6 [some (vR 53), some (vI a1), some (vI a2), some (vI a3), some (vI a4), some (vI a5), some (vJ a6), none, some (vI (a8 + 1)), none] [] S F G Q
theorem R_X10_sumOf_53 {d : Nat} {S : AS} {F : AF} {G : AG} {Q : AQ} {a1 : Int} {a2 : Int} {a3 : Int} {a4 : Int} {a5 : Int} {a6 : Int} {a8 : Int} {a9 : Int} (hsm : ShM S) (h : V_X10_sumOf_53 d S F G Q a1 a2 a3 a4 a5 a6 a8 a9) : Go d MX10_sumOf 53 [some (vR 53), some (vI a1), some (vI a2), some (vI a3), some (vI a4), some (vI a5), some (vJ a6), none, some (vI a8), some (vI a9)] [] S F G Q := by
  unfold V_X10_sumOf_53 at h
  obtain ⟨q1, h⟩ := h
  refine go_iinc (show decode cX10_sumOf 53 = .ok (.iinc 8 1, 3) by decide +kernel) (by rfl) q1 (by decide) ?_
  show Go d MX10_sumOf 56 [some (vR 53), some (vI a1), some (vI a2), some (vI a3), some (vI a4), some (vI a5), some (vJ a6), none, some (vI (a8 + 1)), some (vI a9)] [] S F G Q
  refine go_goto (tgt := 6) (show decode cX10_sumOf 56 = .ok (.goto (-50), 3) by decide +kernel) (by decide) ?_
  refine go_clr 9 ?_
  exact h
def V_X10_sumOf_6 (d : Nat) (S : AS) (F : AF) (G : AG) (Q : AQ) (a1 : Int) (a2 : Int) (a3 : Int) (a4 : Int) (a5 : Int) (a6 : Int) (a8 : Int) : Prop :=
  ((G 55 1 ≤ a8) →
    Q (some (vJ a6)) S F G) ∧
  ((¬ G 55 1 ≤ a8) →
    (1 ≤ d) ∧
    ∃ z6 : Int, Pu (d - 1) MX10_part [vR 53, vI 1, vI a8, vI a3, vI a5] S F G (some (vI z6)) ∧
    ((z6 ≤ 0) →
      V_X10_sumOf_53 d S F G Q a1 a2 a3 a4 a5 a6 a8 z6) ∧
    ((¬ z6 ≤ 0) →
      ∃ z12 : Int, Pu (d - 1) MX10_acrossSum [vR 53, vI a1, vI a8, vI a2, vI a4] S F G (some (vJ z12)) ∧
      (r64 (z12 * z6)) ∧
      (r64 (a6 + (z12 * z6))) ∧
      ∀ x16 : Int, x16 = a6 + (z12 * z6) →
      V_X10_sumOf_53 d S F G Q a1 a2 a3 a4 a5 x16 a8 z6))
theorem R_X10_sumOf_6 {d : Nat} {S : AS} {F : AF} {G : AG} {Q : AQ} {a1 : Int} {a2 : Int} {a3 : Int} {a4 : Int} {a5 : Int} {a6 : Int} {a8 : Int} (hsm : ShM S) (h : V_X10_sumOf_6 d S F G Q a1 a2 a3 a4 a5 a6 a8) : Go d MX10_sumOf 6 [some (vR 53), some (vI a1), some (vI a2), some (vI a3), some (vI a4), some (vI a5), some (vJ a6), none, some (vI a8), none] [] S F G Q := by
  unfold V_X10_sumOf_6 at h
  refine go_iload (show decode cX10_sumOf 6 = .ok (.iload 8, 2) by decide +kernel) (by rfl) ?_
  refine go_aload_n (show decode cX10_sumOf 8 = .ok (.aload_n 0, 1) by decide +kernel) (by rfl) ?_
  refine go_getRc (show decode cX10_sumOf 9 = .ok (.getfield 29, 3) by decide +kernel) fl_X10_29 rfl (shm_k hsm 53 (by decide) (by decide)) (v := 55) (shm_r hsm 53 5 (by decide) (by decide)) ?_
  refine go_iconst (show decode cX10_sumOf 12 = .ok (.iconst 1, 1) by decide +kernel) (by decide) ?_
  refine go_iaload (show decode cX10_sumOf 13 = .ok (.iaload, 1) by decide +kernel) (shm_k hsm 55 (by decide) (by decide)) (by decide) (lt_n (m := 2) (by decide) (shm_n hsm 55 (by decide) (by decide))) ?_
  obtain ⟨ht, hf⟩ := h
  refine go_icmpge (tgt := 59) (show decode cX10_sumOf 14 = .ok (.if_icmp .ge 45, 3) by decide +kernel) (by decide) (fun hc => ?_) (fun hc => ?_)
  · have h := ht hc
    refine go_lload (show decode cX10_sumOf 59 = .ok (.lload 6, 2) by decide +kernel) (by rfl) ?_
    exact go_lret (show decode cX10_sumOf 61 = .ok (.lreturn, 1) by decide +kernel) rfl h
  · have h := hf hc
    refine go_aload_n (show decode cX10_sumOf 17 = .ok (.aload_n 0, 1) by decide +kernel) (by rfl) ?_
    refine go_iconst (show decode cX10_sumOf 18 = .ok (.iconst 1, 1) by decide +kernel) (by decide) ?_
    refine go_iload (show decode cX10_sumOf 19 = .ok (.iload 8, 2) by decide +kernel) (by rfl) ?_
    refine go_iload_n (show decode cX10_sumOf 21 = .ok (.iload_n 3, 1) by decide +kernel) (by rfl) ?_
    refine go_iload (show decode cX10_sumOf 22 = .ok (.iload 5, 2) by decide +kernel) (by rfl) ?_
    obtain ⟨q1, h⟩ := h
    obtain ⟨z6, p7, h⟩ := h
    refine go_callV (d2 := d - 1) (M2 := MX10_part) (n := 4) (ci := 10) (av := [vI 1, vI a8, vI a3, vI a5]) (st := []) (show decode cX10_sumOf 24 = .ok (.invokevirtual 159, 3) by decide +kernel) ml_X10_159 mt_X10_part min_X10_part mse_X10_part (by decide) (shm_k hsm 53 (by decide) (by decide)) rfl (Nat.le_of_ble_eq_true rfl) (by omega) (ok_mono p7 (fun w2 S3 F4 G5 e9 => ?_))
    obtain ⟨e1, e2, e3, e4⟩ := e9
    subst e1
    replace e2 := e2.symm; subst e2
    replace e3 := e3.symm; subst e3
    replace e4 := e4.symm; subst e4
    show Go d MX10_sumOf 27 [some (vR 53), some (vI a1), some (vI a2), some (vI a3), some (vI a4), some (vI a5), some (vJ a6), none, some (vI a8), none] [vI z6] S F G Q
    refine go_istore (show decode cX10_sumOf 27 = .ok (.istore 9, 2) by decide +kernel) (by decide) ?_
    show Go d MX10_sumOf 29 [some (vR 53), some (vI a1), some (vI a2), some (vI a3), some (vI a4), some (vI a5), some (vJ a6), none, some (vI a8), some (vI z6)] [] S F G Q
    refine go_iload (show decode cX10_sumOf 29 = .ok (.iload 9, 2) by decide +kernel) (by rfl) ?_
    obtain ⟨ht, hf⟩ := h
    refine go_ifle (tgt := 53) (show decode cX10_sumOf 31 = .ok (.ifCond .le 22, 3) by decide +kernel) (by decide) (fun hc => ?_) (fun hc => ?_)
    · have h := ht hc
      exact R_X10_sumOf_53 hsm h
    · have h := hf hc
      refine go_lload (show decode cX10_sumOf 34 = .ok (.lload 6, 2) by decide +kernel) (by rfl) ?_
      refine go_aload_n (show decode cX10_sumOf 36 = .ok (.aload_n 0, 1) by decide +kernel) (by rfl) ?_
      refine go_iload_n (show decode cX10_sumOf 37 = .ok (.iload_n 1, 1) by decide +kernel) (by rfl) ?_
      refine go_iload (show decode cX10_sumOf 38 = .ok (.iload 8, 2) by decide +kernel) (by rfl) ?_
      refine go_iload_n (show decode cX10_sumOf 40 = .ok (.iload_n 2, 1) by decide +kernel) (by rfl) ?_
      refine go_iload (show decode cX10_sumOf 41 = .ok (.iload 4, 2) by decide +kernel) (by rfl) ?_
      obtain ⟨z12, p13, h⟩ := h
      refine go_callV (d2 := d - 1) (M2 := MX10_acrossSum) (n := 4) (ci := 10) (av := [vI a1, vI a8, vI a2, vI a4]) (st := [vJ a6]) (show decode cX10_sumOf 43 = .ok (.invokevirtual 217, 3) by decide +kernel) ml_X10_217 mt_X10_acrossSum min_X10_acrossSum mse_X10_acrossSum (by decide) (shm_k hsm 53 (by decide) (by decide)) rfl (Nat.le_of_ble_eq_true rfl) (by omega) (ok_mono p13 (fun w8 S9 F10 G11 e9 => ?_))
      obtain ⟨e1, e2, e3, e4⟩ := e9
      subst e1
      replace e2 := e2.symm; subst e2
      replace e3 := e3.symm; subst e3
      replace e4 := e4.symm; subst e4
      show Go d MX10_sumOf 46 [some (vR 53), some (vI a1), some (vI a2), some (vI a3), some (vI a4), some (vI a5), some (vJ a6), none, some (vI a8), some (vI z6)] [vJ z12, vJ a6] S F G Q
      refine go_iload (show decode cX10_sumOf 46 = .ok (.iload 9, 2) by decide +kernel) (by rfl) ?_
      refine go_i2l (show decode cX10_sumOf 48 = .ok (.i2l, 1) by decide +kernel) ?_
      obtain ⟨q14, h⟩ := h
      refine go_lmul (show decode cX10_sumOf 49 = .ok (.lmul, 1) by decide +kernel) q14 ?_
      obtain ⟨q15, h⟩ := h
      refine go_ladd (show decode cX10_sumOf 50 = .ok (.ladd, 1) by decide +kernel) q15 ?_
      obtain ⟨x16, x16e⟩ : ∃ x16 : Int, x16 = a6 + (z12 * z6) := ⟨_, rfl⟩
      have h := h x16 x16e
      rw [← x16e]
      refine go_lstore (show decode cX10_sumOf 51 = .ok (.lstore 6, 2) by decide +kernel) (by decide) ?_
      show Go d MX10_sumOf 53 [some (vR 53), some (vI a1), some (vI a2), some (vI a3), some (vI a4), some (vI a5), some (vJ x16), none, some (vI a8), some (vI z6)] [] S F G Q
      exact R_X10_sumOf_53 hsm h
def V_X10_sumOf_0 (d : Nat) (S : AS) (F : AF) (G : AG) (Q : AQ) (a1 : Int) (a2 : Int) (a3 : Int) (a4 : Int) (a5 : Int) : Prop :=
  Go d MX10_sumOf 6 [some (vR 53), some (vI a1), some (vI a2), some (vI a3), some (vI a4), some (vI a5), some (vJ 0), none, some (vI 0), none] [] S F G Q
theorem R_X10_sumOf_0 {d : Nat} {S : AS} {F : AF} {G : AG} {Q : AQ} {a1 : Int} {a2 : Int} {a3 : Int} {a4 : Int} {a5 : Int} (hsm : ShM S) (h : V_X10_sumOf_0 d S F G Q a1 a2 a3 a4 a5) : Go d MX10_sumOf 0 [some (vR 53), some (vI a1), some (vI a2), some (vI a3), some (vI a4), some (vI a5), none, none, none, none] [] S F G Q := by
  unfold V_X10_sumOf_0 at h
  refine go_lconst (n := 0) (show decode cX10_sumOf 0 = .ok (.lconst 0, 1) by decide +kernel) ?_
  show Go d MX10_sumOf 1 [some (vR 53), some (vI a1), some (vI a2), some (vI a3), some (vI a4), some (vI a5), none, none, none, none] [vJ 0] S F G Q
  refine go_lstore (show decode cX10_sumOf 1 = .ok (.lstore 6, 2) by decide +kernel) (by decide) ?_
  show Go d MX10_sumOf 3 [some (vR 53), some (vI a1), some (vI a2), some (vI a3), some (vI a4), some (vI a5), some (vJ 0), none, none, none] [] S F G Q
  refine go_iconst (show decode cX10_sumOf 3 = .ok (.iconst 0, 1) by decide +kernel) (by decide) ?_
  refine go_istore (show decode cX10_sumOf 4 = .ok (.istore 8, 2) by decide +kernel) (by decide) ?_
  show Go d MX10_sumOf 6 [some (vR 53), some (vI a1), some (vI a2), some (vI a3), some (vI a4), some (vI a5), some (vJ 0), none, some (vI 0), none] [] S F G Q
  exact h
def V_X10_acrossSum_6 (d : Nat) (S : AS) (F : AF) (G : AG) (Q : AQ) (a1 : Int) (a2 : Int) (a3 : Int) (a4 : Int) (a5 : Int) (a7 : Int) : Prop :=
  ((G 55 0 ≤ a7) →
    Q (some (vJ a5)) S F G) ∧
  ((¬ G 55 0 ≤ a7) →
    (1 ≤ d) ∧
    ∃ z6 : Int, Pu (d - 1) MX10_in [vR 53, vI a1, vI a7, vI a2] S F G (some (vJ z6)) ∧
    ∃ z12 : Int, Pu (d - 1) MX10_part [vR 53, vI 0, vI a7, vI a3, vI a4] S F G (some (vI z12)) ∧
    (r64 (z6 * z12)) ∧
    (r64 (a5 + (z6 * z12))) ∧
    ∀ x16 : Int, x16 = a5 + (z6 * z12) →
    (r32 (a7 + 1)) ∧
    Go d MX10_acrossSum 6 [some (vR 53), some (vI a1), some (vI a2), some (vI a3), some (vI a4), some (vJ x16), none, some (vI (a7 + 1))] [] S F G Q)
theorem R_X10_acrossSum_6 {d : Nat} {S : AS} {F : AF} {G : AG} {Q : AQ} {a1 : Int} {a2 : Int} {a3 : Int} {a4 : Int} {a5 : Int} {a7 : Int} (hsm : ShM S) (h : V_X10_acrossSum_6 d S F G Q a1 a2 a3 a4 a5 a7) : Go d MX10_acrossSum 6 [some (vR 53), some (vI a1), some (vI a2), some (vI a3), some (vI a4), some (vJ a5), none, some (vI a7)] [] S F G Q := by
  unfold V_X10_acrossSum_6 at h
  refine go_iload (show decode cX10_acrossSum 6 = .ok (.iload 7, 2) by decide +kernel) (by rfl) ?_
  refine go_aload_n (show decode cX10_acrossSum 8 = .ok (.aload_n 0, 1) by decide +kernel) (by rfl) ?_
  refine go_getRc (show decode cX10_acrossSum 9 = .ok (.getfield 29, 3) by decide +kernel) fl_X10_29 rfl (shm_k hsm 53 (by decide) (by decide)) (v := 55) (shm_r hsm 53 5 (by decide) (by decide)) ?_
  refine go_iconst (show decode cX10_acrossSum 12 = .ok (.iconst 0, 1) by decide +kernel) (by decide) ?_
  refine go_iaload (show decode cX10_acrossSum 13 = .ok (.iaload, 1) by decide +kernel) (shm_k hsm 55 (by decide) (by decide)) (by decide) (lt_n (m := 2) (by decide) (shm_n hsm 55 (by decide) (by decide))) ?_
  obtain ⟨ht, hf⟩ := h
  refine go_icmpge (tgt := 48) (show decode cX10_acrossSum 14 = .ok (.if_icmp .ge 34, 3) by decide +kernel) (by decide) (fun hc => ?_) (fun hc => ?_)
  · have h := ht hc
    refine go_lload (show decode cX10_acrossSum 48 = .ok (.lload 5, 2) by decide +kernel) (by rfl) ?_
    exact go_lret (show decode cX10_acrossSum 50 = .ok (.lreturn, 1) by decide +kernel) rfl h
  · have h := hf hc
    refine go_lload (show decode cX10_acrossSum 17 = .ok (.lload 5, 2) by decide +kernel) (by rfl) ?_
    refine go_aload_n (show decode cX10_acrossSum 19 = .ok (.aload_n 0, 1) by decide +kernel) (by rfl) ?_
    refine go_iload_n (show decode cX10_acrossSum 20 = .ok (.iload_n 1, 1) by decide +kernel) (by rfl) ?_
    refine go_iload (show decode cX10_acrossSum 21 = .ok (.iload 7, 2) by decide +kernel) (by rfl) ?_
    refine go_iload_n (show decode cX10_acrossSum 23 = .ok (.iload_n 2, 1) by decide +kernel) (by rfl) ?_
    obtain ⟨q1, h⟩ := h
    obtain ⟨z6, p7, h⟩ := h
    refine go_callV (d2 := d - 1) (M2 := MX10_in) (n := 3) (ci := 10) (av := [vI a1, vI a7, vI a2]) (st := [vJ a5]) (show decode cX10_acrossSum 24 = .ok (.invokevirtual 163, 3) by decide +kernel) ml_X10_163 mt_X10_in min_X10_in mse_X10_in (by decide) (shm_k hsm 53 (by decide) (by decide)) rfl (Nat.le_of_ble_eq_true rfl) (by omega) (ok_mono p7 (fun w2 S3 F4 G5 e9 => ?_))
    obtain ⟨e1, e2, e3, e4⟩ := e9
    subst e1
    replace e2 := e2.symm; subst e2
    replace e3 := e3.symm; subst e3
    replace e4 := e4.symm; subst e4
    show Go d MX10_acrossSum 27 [some (vR 53), some (vI a1), some (vI a2), some (vI a3), some (vI a4), some (vJ a5), none, some (vI a7)] [vJ z6, vJ a5] S F G Q
    refine go_aload_n (show decode cX10_acrossSum 27 = .ok (.aload_n 0, 1) by decide +kernel) (by rfl) ?_
    refine go_iconst (show decode cX10_acrossSum 28 = .ok (.iconst 0, 1) by decide +kernel) (by decide) ?_
    refine go_iload (show decode cX10_acrossSum 29 = .ok (.iload 7, 2) by decide +kernel) (by rfl) ?_
    refine go_iload_n (show decode cX10_acrossSum 31 = .ok (.iload_n 3, 1) by decide +kernel) (by rfl) ?_
    refine go_iload (show decode cX10_acrossSum 32 = .ok (.iload 4, 2) by decide +kernel) (by rfl) ?_
    obtain ⟨z12, p13, h⟩ := h
    refine go_callV (d2 := d - 1) (M2 := MX10_part) (n := 4) (ci := 10) (av := [vI 0, vI a7, vI a3, vI a4]) (st := [vJ z6, vJ a5]) (show decode cX10_acrossSum 34 = .ok (.invokevirtual 159, 3) by decide +kernel) ml_X10_159 mt_X10_part min_X10_part mse_X10_part (by decide) (shm_k hsm 53 (by decide) (by decide)) rfl (Nat.le_of_ble_eq_true rfl) (by omega) (ok_mono p13 (fun w8 S9 F10 G11 e9 => ?_))
    obtain ⟨e1, e2, e3, e4⟩ := e9
    subst e1
    replace e2 := e2.symm; subst e2
    replace e3 := e3.symm; subst e3
    replace e4 := e4.symm; subst e4
    show Go d MX10_acrossSum 37 [some (vR 53), some (vI a1), some (vI a2), some (vI a3), some (vI a4), some (vJ a5), none, some (vI a7)] [vI z12, vJ z6, vJ a5] S F G Q
    refine go_i2l (show decode cX10_acrossSum 37 = .ok (.i2l, 1) by decide +kernel) ?_
    obtain ⟨q14, h⟩ := h
    refine go_lmul (show decode cX10_acrossSum 38 = .ok (.lmul, 1) by decide +kernel) q14 ?_
    obtain ⟨q15, h⟩ := h
    refine go_ladd (show decode cX10_acrossSum 39 = .ok (.ladd, 1) by decide +kernel) q15 ?_
    obtain ⟨x16, x16e⟩ : ∃ x16 : Int, x16 = a5 + (z6 * z12) := ⟨_, rfl⟩
    have h := h x16 x16e
    rw [← x16e]
    refine go_lstore (show decode cX10_acrossSum 40 = .ok (.lstore 5, 2) by decide +kernel) (by decide) ?_
    show Go d MX10_acrossSum 42 [some (vR 53), some (vI a1), some (vI a2), some (vI a3), some (vI a4), some (vJ x16), none, some (vI a7)] [] S F G Q
    obtain ⟨q17, h⟩ := h
    refine go_iinc (show decode cX10_acrossSum 42 = .ok (.iinc 7 1, 3) by decide +kernel) (by rfl) q17 (by decide) ?_
    show Go d MX10_acrossSum 45 [some (vR 53), some (vI a1), some (vI a2), some (vI a3), some (vI a4), some (vJ x16), none, some (vI (a7 + 1))] [] S F G Q
    refine go_goto (tgt := 6) (show decode cX10_acrossSum 45 = .ok (.goto (-39), 3) by decide +kernel) (by decide) ?_
    exact h
def V_X10_acrossSum_0 (d : Nat) (S : AS) (F : AF) (G : AG) (Q : AQ) (a1 : Int) (a2 : Int) (a3 : Int) (a4 : Int) : Prop :=
  Go d MX10_acrossSum 6 [some (vR 53), some (vI a1), some (vI a2), some (vI a3), some (vI a4), some (vJ 0), none, some (vI 0)] [] S F G Q
theorem R_X10_acrossSum_0 {d : Nat} {S : AS} {F : AF} {G : AG} {Q : AQ} {a1 : Int} {a2 : Int} {a3 : Int} {a4 : Int} (hsm : ShM S) (h : V_X10_acrossSum_0 d S F G Q a1 a2 a3 a4) : Go d MX10_acrossSum 0 [some (vR 53), some (vI a1), some (vI a2), some (vI a3), some (vI a4), none, none, none] [] S F G Q := by
  unfold V_X10_acrossSum_0 at h
  refine go_lconst (n := 0) (show decode cX10_acrossSum 0 = .ok (.lconst 0, 1) by decide +kernel) ?_
  show Go d MX10_acrossSum 1 [some (vR 53), some (vI a1), some (vI a2), some (vI a3), some (vI a4), none, none, none] [vJ 0] S F G Q
  refine go_lstore (show decode cX10_acrossSum 1 = .ok (.lstore 5, 2) by decide +kernel) (by decide) ?_
  show Go d MX10_acrossSum 3 [some (vR 53), some (vI a1), some (vI a2), some (vI a3), some (vI a4), some (vJ 0), none, none] [] S F G Q
  refine go_iconst (show decode cX10_acrossSum 3 = .ok (.iconst 0, 1) by decide +kernel) (by decide) ?_
  refine go_istore (show decode cX10_acrossSum 4 = .ok (.istore 7, 2) by decide +kernel) (by decide) ?_
  show Go d MX10_acrossSum 6 [some (vR 53), some (vI a1), some (vI a2), some (vI a3), some (vI a4), some (vJ 0), none, some (vI 0)] [] S F G Q
  exact h
def V_X10_cells_0 (d : Nat) (S : AS) (F : AF) (G : AG) (Q : AQ)  : Prop :=
  (r32 ((F 53 26) - (F 53 24))) ∧
  (r64 (((F 53 26) - (F 53 24)) + 1)) ∧
  (r32 ((F 53 27) - (F 53 25))) ∧
  (r64 (((F 53 27) - (F 53 25)) + 1)) ∧
  (r64 ((((F 53 26) - (F 53 24)) + 1) * (((F 53 27) - (F 53 25)) + 1))) ∧
  Q (some (vJ ((((F 53 26) - (F 53 24)) + 1) * (((F 53 27) - (F 53 25)) + 1)))) S F G
theorem R_X10_cells_0 {d : Nat} {S : AS} {F : AF} {G : AG} {Q : AQ}  (hsm : ShM S) (h : V_X10_cells_0 d S F G Q ) : Go d MX10_cells 0 [some (vR 53)] [] S F G Q := by
  unfold V_X10_cells_0 at h
  refine go_aload_n (show decode cX10_cells 0 = .ok (.aload_n 0, 1) by decide +kernel) (by rfl) ?_
  refine go_getI (show decode cX10_cells 1 = .ok (.getfield 245, 3) by decide +kernel) fl_X10_245 (Or.inl rfl) (shm_k hsm 53 (by decide) (by decide)) ?_
  refine go_aload_n (show decode cX10_cells 4 = .ok (.aload_n 0, 1) by decide +kernel) (by rfl) ?_
  refine go_getI (show decode cX10_cells 5 = .ok (.getfield 239, 3) by decide +kernel) fl_X10_239 (Or.inl rfl) (shm_k hsm 53 (by decide) (by decide)) ?_
  obtain ⟨q1, h⟩ := h
  refine go_isub (show decode cX10_cells 8 = .ok (.isub, 1) by decide +kernel) q1 ?_
  refine go_i2l (show decode cX10_cells 9 = .ok (.i2l, 1) by decide +kernel) ?_
  refine go_lconst (n := 1) (show decode cX10_cells 10 = .ok (.lconst 1, 1) by decide +kernel) ?_
  show Go d MX10_cells 11 [some (vR 53)] [vJ 1, vJ ((F 53 26) - (F 53 24))] S F G Q
  obtain ⟨q2, h⟩ := h
  refine go_ladd (show decode cX10_cells 11 = .ok (.ladd, 1) by decide +kernel) q2 ?_
  refine go_aload_n (show decode cX10_cells 12 = .ok (.aload_n 0, 1) by decide +kernel) (by rfl) ?_
  refine go_getI (show decode cX10_cells 13 = .ok (.getfield 248, 3) by decide +kernel) fl_X10_248 (Or.inl rfl) (shm_k hsm 53 (by decide) (by decide)) ?_
  refine go_aload_n (show decode cX10_cells 16 = .ok (.aload_n 0, 1) by decide +kernel) (by rfl) ?_
  refine go_getI (show decode cX10_cells 17 = .ok (.getfield 242, 3) by decide +kernel) fl_X10_242 (Or.inl rfl) (shm_k hsm 53 (by decide) (by decide)) ?_
  obtain ⟨q3, h⟩ := h
  refine go_isub (show decode cX10_cells 20 = .ok (.isub, 1) by decide +kernel) q3 ?_
  refine go_i2l (show decode cX10_cells 21 = .ok (.i2l, 1) by decide +kernel) ?_
  refine go_lconst (n := 1) (show decode cX10_cells 22 = .ok (.lconst 1, 1) by decide +kernel) ?_
  show Go d MX10_cells 23 [some (vR 53)] [vJ 1, vJ ((F 53 27) - (F 53 25)), vJ (((F 53 26) - (F 53 24)) + 1)] S F G Q
  obtain ⟨q4, h⟩ := h
  refine go_ladd (show decode cX10_cells 23 = .ok (.ladd, 1) by decide +kernel) q4 ?_
  obtain ⟨q5, h⟩ := h
  refine go_lmul (show decode cX10_cells 24 = .ok (.lmul, 1) by decide +kernel) q5 ?_
  exact go_lret (show decode cX10_cells 25 = .ok (.lreturn, 1) by decide +kernel) rfl h
def V_X10_hasRoom_0 (d : Nat) (S : AS) (F : AF) (G : AG) (Q : AQ) (a1 : Int) (a2 : Int) (a3 : Int) (a4 : Int) : Prop :=
  (1 ≤ d) ∧
  Ok (d - 1) MX10_wantsAll [vR 53, vI a1, vI a2, vI a3, vI a4] S F G (fun w2 S3 F4 G5 =>
  S3 = S ∧
  w2 = none ∧
  ∃ z10 : Int, Pu (d - 1) MX10_isRoom [vR 53, vI a1] S F4 G5 (some (vI z10)) ∧
  (z10 = 0 ∨ z10 = 1) ∧
  Q (some (vI z10)) S F4 G5)
theorem R_X10_hasRoom_0 {d : Nat} {S : AS} {F : AF} {G : AG} {Q : AQ} {a1 : Int} {a2 : Int} {a3 : Int} {a4 : Int} (hsm : ShM S) (h : V_X10_hasRoom_0 d S F G Q a1 a2 a3 a4) : Go d MX10_hasRoom 0 [some (vR 53), some (vI a1), some (vI a2), some (vI a3), some (vI a4)] [] S F G Q := by
  unfold V_X10_hasRoom_0 at h
  refine go_aload_n (show decode cX10_hasRoom 0 = .ok (.aload_n 0, 1) by decide +kernel) (by rfl) ?_
  refine go_iload_n (show decode cX10_hasRoom 1 = .ok (.iload_n 1, 1) by decide +kernel) (by rfl) ?_
  refine go_iload_n (show decode cX10_hasRoom 2 = .ok (.iload_n 2, 1) by decide +kernel) (by rfl) ?_
  refine go_iload_n (show decode cX10_hasRoom 3 = .ok (.iload_n 3, 1) by decide +kernel) (by rfl) ?_
  refine go_iload (show decode cX10_hasRoom 4 = .ok (.iload 4, 2) by decide +kernel) (by rfl) ?_
  obtain ⟨q1, h⟩ := h
  refine go_callV (d2 := d - 1) (M2 := MX10_wantsAll) (n := 4) (ci := 10) (av := [vI a1, vI a2, vI a3, vI a4]) (st := []) (show decode cX10_hasRoom 6 = .ok (.invokevirtual 149, 3) by decide +kernel) ml_X10_149 mt_X10_wantsAll min_X10_wantsAll mse_X10_wantsAll (by decide) (shm_k hsm 53 (by decide) (by decide)) rfl (Nat.le_of_ble_eq_true rfl) (by omega) (ok_mono h (fun w2 S3 F4 G5 h => ?_))
  obtain ⟨e8, h⟩ := h
  replace e8 := e8.symm; subst e8
  obtain ⟨e9, h⟩ := h
  subst e9
  show Go d MX10_hasRoom 9 [some (vR 53), some (vI a1), some (vI a2), some (vI a3), some (vI a4)] [] S F4 G5 Q
  refine go_aload_n (show decode cX10_hasRoom 9 = .ok (.aload_n 0, 1) by decide +kernel) (by rfl) ?_
  refine go_iload_n (show decode cX10_hasRoom 10 = .ok (.iload_n 1, 1) by decide +kernel) (by rfl) ?_
  obtain ⟨z10, p11, h⟩ := h
  refine go_callV (d2 := d - 1) (M2 := MX10_isRoom) (n := 1) (ci := 10) (av := [vI a1]) (st := []) (show decode cX10_hasRoom 11 = .ok (.invokevirtual 153, 3) by decide +kernel) ml_X10_153 mt_X10_isRoom min_X10_isRoom mse_X10_isRoom (by decide) (shm_k hsm 53 (by decide) (by decide)) rfl (Nat.le_of_ble_eq_true rfl) (by omega) (ok_mono p11 (fun w6 S7 F8 G9 e9 => ?_))
  obtain ⟨e1, e2, e3, e4⟩ := e9
  subst e1
  replace e2 := e2.symm; subst e2
  replace e3 := e3.symm; subst e3
  replace e4 := e4.symm; subst e4
  show Go d MX10_hasRoom 14 [some (vR 53), some (vI a1), some (vI a2), some (vI a3), some (vI a4)] [vI z10] S F4 G5 Q
  obtain ⟨q12, h⟩ := h
  exact go_zret (show decode cX10_hasRoom 14 = .ok (.ireturn, 1) by decide +kernel) rfl q12 h
def V_X10_wantsAll_0 (d : Nat) (S : AS) (F : AF) (G : AG) (Q : AQ) (a1 : Int) (a2 : Int) (a3 : Int) (a4 : Int) : Prop :=
  ∀ F1 : AF, F1 = fu F 53 20 0 →
  (1 ≤ d) ∧
  Ok (d - 1) MX10_wants [vR 53, vI a1, vI a2] S F1 G (fun w3 S4 F5 G6 =>
  S4 = S ∧
  w3 = none ∧
  (r32 (a3 + 1)) ∧
  Ok (d - 1) MX10_wants [vR 53, vI a1, vI (a3 + 1)] S F5 G6 (fun w8 S9 F10 G11 =>
  S9 = S ∧
  w8 = none ∧
  ((a4 < 0) →
    Q none S F10 G11) ∧
  ((¬ a4 < 0) →
    Ok (d - 1) MX10_wants [vR 53, vI a1, vI a4] S F10 G11 (fun w12 S13 F14 G15 =>
    S13 = S ∧
    w12 = none ∧
    (r32 (a4 + 1)) ∧
    Ok (d - 1) MX10_wants [vR 53, vI a1, vI (a4 + 1)] S F14 G15 (fun w17 S18 F19 G20 =>
    S18 = S ∧
    w17 = none ∧
    Q none S F19 G20)))))
theorem R_X10_wantsAll_0 {d : Nat} {S : AS} {F : AF} {G : AG} {Q : AQ} {a1 : Int} {a2 : Int} {a3 : Int} {a4 : Int} (hsm : ShM S) (h : V_X10_wantsAll_0 d S F G Q a1 a2 a3 a4) : Go d MX10_wantsAll 0 [some (vR 53), some (vI a1), some (vI a2), some (vI a3), some (vI a4)] [] S F G Q := by
  unfold V_X10_wantsAll_0 at h
  refine go_aload_n (show decode cX10_wantsAll 0 = .ok (.aload_n 0, 1) by decide +kernel) (by rfl) ?_
  refine go_iconst (show decode cX10_wantsAll 1 = .ok (.iconst 0, 1) by decide +kernel) (by decide) ?_
  refine go_putI (show decode cX10_wantsAll 2 = .ok (.putfield 142, 3) by decide +kernel) fl_X10_142 rfl (Or.inl rfl) (shm_k hsm 53 (by decide) (by decide)) ?_
  obtain ⟨F1, F1e⟩ : ∃ F1 : AF, F1 = fu F 53 20 0 := ⟨_, rfl⟩
  have h := h F1 F1e
  rw [← F1e]
  refine go_aload_n (show decode cX10_wantsAll 5 = .ok (.aload_n 0, 1) by decide +kernel) (by rfl) ?_
  refine go_iload_n (show decode cX10_wantsAll 6 = .ok (.iload_n 1, 1) by decide +kernel) (by rfl) ?_
  refine go_iload_n (show decode cX10_wantsAll 7 = .ok (.iload_n 2, 1) by decide +kernel) (by rfl) ?_
  obtain ⟨q2, h⟩ := h
  refine go_callV (d2 := d - 1) (M2 := MX10_wants) (n := 2) (ci := 10) (av := [vI a1, vI a2]) (st := []) (show decode cX10_wantsAll 8 = .ok (.invokevirtual 145, 3) by decide +kernel) ml_X10_145 mt_X10_wants min_X10_wants mse_X10_wants (by decide) (shm_k hsm 53 (by decide) (by decide)) rfl (Nat.le_of_ble_eq_true rfl) (by omega) (ok_mono h (fun w3 S4 F5 G6 h => ?_))
  obtain ⟨e8, h⟩ := h
  replace e8 := e8.symm; subst e8
  obtain ⟨e9, h⟩ := h
  subst e9
  show Go d MX10_wantsAll 11 [some (vR 53), some (vI a1), some (vI a2), some (vI a3), some (vI a4)] [] S F5 G6 Q
  refine go_aload_n (show decode cX10_wantsAll 11 = .ok (.aload_n 0, 1) by decide +kernel) (by rfl) ?_
  refine go_iload_n (show decode cX10_wantsAll 12 = .ok (.iload_n 1, 1) by decide +kernel) (by rfl) ?_
  refine go_iload_n (show decode cX10_wantsAll 13 = .ok (.iload_n 3, 1) by decide +kernel) (by rfl) ?_
  refine go_iconst (show decode cX10_wantsAll 14 = .ok (.iconst 1, 1) by decide +kernel) (by decide) ?_
  obtain ⟨q7, h⟩ := h
  refine go_iadd (show decode cX10_wantsAll 15 = .ok (.iadd, 1) by decide +kernel) q7 ?_
  refine go_callV (d2 := d - 1) (M2 := MX10_wants) (n := 2) (ci := 10) (av := [vI a1, vI (a3 + 1)]) (st := []) (show decode cX10_wantsAll 16 = .ok (.invokevirtual 145, 3) by decide +kernel) ml_X10_145 mt_X10_wants min_X10_wants mse_X10_wants (by decide) (shm_k hsm 53 (by decide) (by decide)) rfl (Nat.le_of_ble_eq_true rfl) (by omega) (ok_mono h (fun w8 S9 F10 G11 h => ?_))
  obtain ⟨e8, h⟩ := h
  replace e8 := e8.symm; subst e8
  obtain ⟨e9, h⟩ := h
  subst e9
  show Go d MX10_wantsAll 19 [some (vR 53), some (vI a1), some (vI a2), some (vI a3), some (vI a4)] [] S F10 G11 Q
  refine go_iload (show decode cX10_wantsAll 19 = .ok (.iload 4, 2) by decide +kernel) (by rfl) ?_
  obtain ⟨ht, hf⟩ := h
  refine go_iflt (tgt := 40) (show decode cX10_wantsAll 21 = .ok (.ifCond .lt 19, 3) by decide +kernel) (by decide) (fun hc => ?_) (fun hc => ?_)
  · have h := ht hc
    exact go_vret (show decode cX10_wantsAll 40 = .ok (.return_, 1) by decide +kernel) rfl h
  · have h := hf hc
    refine go_aload_n (show decode cX10_wantsAll 24 = .ok (.aload_n 0, 1) by decide +kernel) (by rfl) ?_
    refine go_iload_n (show decode cX10_wantsAll 25 = .ok (.iload_n 1, 1) by decide +kernel) (by rfl) ?_
    refine go_iload (show decode cX10_wantsAll 26 = .ok (.iload 4, 2) by decide +kernel) (by rfl) ?_
    refine go_callV (d2 := d - 1) (M2 := MX10_wants) (n := 2) (ci := 10) (av := [vI a1, vI a4]) (st := []) (show decode cX10_wantsAll 28 = .ok (.invokevirtual 145, 3) by decide +kernel) ml_X10_145 mt_X10_wants min_X10_wants mse_X10_wants (by decide) (shm_k hsm 53 (by decide) (by decide)) rfl (Nat.le_of_ble_eq_true rfl) (by omega) (ok_mono h (fun w12 S13 F14 G15 h => ?_))
    obtain ⟨e8, h⟩ := h
    replace e8 := e8.symm; subst e8
    obtain ⟨e9, h⟩ := h
    subst e9
    show Go d MX10_wantsAll 31 [some (vR 53), some (vI a1), some (vI a2), some (vI a3), some (vI a4)] [] S F14 G15 Q
    refine go_aload_n (show decode cX10_wantsAll 31 = .ok (.aload_n 0, 1) by decide +kernel) (by rfl) ?_
    refine go_iload_n (show decode cX10_wantsAll 32 = .ok (.iload_n 1, 1) by decide +kernel) (by rfl) ?_
    refine go_iload (show decode cX10_wantsAll 33 = .ok (.iload 4, 2) by decide +kernel) (by rfl) ?_
    refine go_iconst (show decode cX10_wantsAll 35 = .ok (.iconst 1, 1) by decide +kernel) (by decide) ?_
    obtain ⟨q16, h⟩ := h
    refine go_iadd (show decode cX10_wantsAll 36 = .ok (.iadd, 1) by decide +kernel) q16 ?_
    refine go_callV (d2 := d - 1) (M2 := MX10_wants) (n := 2) (ci := 10) (av := [vI a1, vI (a4 + 1)]) (st := []) (show decode cX10_wantsAll 37 = .ok (.invokevirtual 145, 3) by decide +kernel) ml_X10_145 mt_X10_wants min_X10_wants mse_X10_wants (by decide) (shm_k hsm 53 (by decide) (by decide)) rfl (Nat.le_of_ble_eq_true rfl) (by omega) (ok_mono h (fun w17 S18 F19 G20 h => ?_))
    obtain ⟨e8, h⟩ := h
    replace e8 := e8.symm; subst e8
    obtain ⟨e9, h⟩ := h
    subst e9
    show Go d MX10_wantsAll 40 [some (vR 53), some (vI a1), some (vI a2), some (vI a3), some (vI a4)] [] S F19 G20 Q
    exact go_vret (show decode cX10_wantsAll 40 = .ok (.return_, 1) by decide +kernel) rfl h
def V_X10_wants_12 (d : Nat) (S : AS) (F : AF) (G : AG) (Q : AQ) (a1 : Int) (a2 : Int) (a3 : Int) : Prop :=
  ((F 53 20 ≤ a3) →
    ((0 : Int) ≤ F 53 20) ∧
    ((F 53 20 : Int) < 64) ∧
    ∀ G3 : AG, G3 = gu G 67 (F 53 20) a2 →
    (r32 ((F 53 20) + 1)) ∧
    ∀ F5 : AF, F5 = fu F 53 20 ((F 53 20) + 1) →
    Q none S F5 G3) ∧
  ((¬ F 53 20 ≤ a3) →
    ((0 : Int) ≤ a3) ∧
    ((a3 : Int) < 64) ∧
    ((¬ G 67 a3 = a2) →
      (r32 (a3 + 1)) ∧
      Go d MX10_wants 12 [some (vR 53), some (vI a1), some (vI a2), some (vI (a3 + 1))] [] S F G Q) ∧
    ((G 67 a3 = a2) →
      Q none S F G))
theorem R_X10_wants_12 {d : Nat} {S : AS} {F : AF} {G : AG} {Q : AQ} {a1 : Int} {a2 : Int} {a3 : Int} (hsm : ShM S) (h : V_X10_wants_12 d S F G Q a1 a2 a3) : Go d MX10_wants 12 [some (vR 53), some (vI a1), some (vI a2), some (vI a3)] [] S F G Q := by
  unfold V_X10_wants_12 at h
  refine go_iload_n (show decode cX10_wants 12 = .ok (.iload_n 3, 1) by decide +kernel) (by rfl) ?_
  refine go_aload_n (show decode cX10_wants 13 = .ok (.aload_n 0, 1) by decide +kernel) (by rfl) ?_
  refine go_getI (show decode cX10_wants 14 = .ok (.getfield 142, 3) by decide +kernel) fl_X10_142 (Or.inl rfl) (shm_k hsm 53 (by decide) (by decide)) ?_
  obtain ⟨ht, hf⟩ := h
  refine go_icmpge (tgt := 37) (show decode cX10_wants 17 = .ok (.if_icmp .ge 20, 3) by decide +kernel) (by decide) (fun hc => ?_) (fun hc => ?_)
  · have h := ht hc
    refine go_aload_n (show decode cX10_wants 37 = .ok (.aload_n 0, 1) by decide +kernel) (by rfl) ?_
    refine go_getRc (show decode cX10_wants 38 = .ok (.getfield 68, 3) by decide +kernel) fl_X10_68 rfl (shm_k hsm 53 (by decide) (by decide)) (v := 67) (shm_r hsm 53 19 (by decide) (by decide)) ?_
    refine go_aload_n (show decode cX10_wants 41 = .ok (.aload_n 0, 1) by decide +kernel) (by rfl) ?_
    refine go_getI (show decode cX10_wants 42 = .ok (.getfield 142, 3) by decide +kernel) fl_X10_142 (Or.inl rfl) (shm_k hsm 53 (by decide) (by decide)) ?_
    refine go_iload_n (show decode cX10_wants 45 = .ok (.iload_n 2, 1) by decide +kernel) (by rfl) ?_
    obtain ⟨q1, h⟩ := h
    obtain ⟨q2, h⟩ := h
    refine go_iastore (show decode cX10_wants 46 = .ok (.iastore, 1) by decide +kernel) (shm_k hsm 67 (by decide) (by decide)) q1 (lt_n (m := 64) q2 (shm_n hsm 67 (by decide) (by decide)))  ?_
    obtain ⟨G3, G3e⟩ : ∃ G3 : AG, G3 = gu G 67 (F 53 20) a2 := ⟨_, rfl⟩
    have h := h G3 G3e
    rw [← G3e]
    refine go_aload_n (show decode cX10_wants 47 = .ok (.aload_n 0, 1) by decide +kernel) (by rfl) ?_
    refine go_dup (show decode cX10_wants 48 = .ok (.dup, 1) by decide +kernel) ?_
    refine go_getI (show decode cX10_wants 49 = .ok (.getfield 142, 3) by decide +kernel) fl_X10_142 (Or.inl rfl) (shm_k hsm 53 (by decide) (by decide)) ?_
    refine go_iconst (show decode cX10_wants 52 = .ok (.iconst 1, 1) by decide +kernel) (by decide) ?_
    obtain ⟨q4, h⟩ := h
    refine go_iadd (show decode cX10_wants 53 = .ok (.iadd, 1) by decide +kernel) q4 ?_
    refine go_putI (show decode cX10_wants 54 = .ok (.putfield 142, 3) by decide +kernel) fl_X10_142 rfl (Or.inl rfl) (shm_k hsm 53 (by decide) (by decide)) ?_
    obtain ⟨F5, F5e⟩ : ∃ F5 : AF, F5 = fu F 53 20 ((F 53 20) + 1) := ⟨_, rfl⟩
    have h := h F5 F5e
    rw [← F5e]
    exact go_vret (show decode cX10_wants 57 = .ok (.return_, 1) by decide +kernel) rfl h
  · have h := hf hc
    refine go_aload_n (show decode cX10_wants 20 = .ok (.aload_n 0, 1) by decide +kernel) (by rfl) ?_
    refine go_getRc (show decode cX10_wants 21 = .ok (.getfield 68, 3) by decide +kernel) fl_X10_68 rfl (shm_k hsm 53 (by decide) (by decide)) (v := 67) (shm_r hsm 53 19 (by decide) (by decide)) ?_
    refine go_iload_n (show decode cX10_wants 24 = .ok (.iload_n 3, 1) by decide +kernel) (by rfl) ?_
    obtain ⟨q6, h⟩ := h
    obtain ⟨q7, h⟩ := h
    refine go_iaload (show decode cX10_wants 25 = .ok (.iaload, 1) by decide +kernel) (shm_k hsm 67 (by decide) (by decide)) q6 (lt_n (m := 64) q7 (shm_n hsm 67 (by decide) (by decide))) ?_
    refine go_iload_n (show decode cX10_wants 26 = .ok (.iload_n 2, 1) by decide +kernel) (by rfl) ?_
    obtain ⟨ht, hf⟩ := h
    refine go_icmpne (tgt := 31) (show decode cX10_wants 27 = .ok (.if_icmp .ne 4, 3) by decide +kernel) (by decide) (fun hc => ?_) (fun hc => ?_)
    · have h := ht hc
      obtain ⟨q8, h⟩ := h
      refine go_iinc (show decode cX10_wants 31 = .ok (.iinc 3 1, 3) by decide +kernel) (by rfl) q8 (by decide) ?_
      show Go d MX10_wants 34 [some (vR 53), some (vI a1), some (vI a2), some (vI (a3 + 1))] [] S F G Q
      refine go_goto (tgt := 12) (show decode cX10_wants 34 = .ok (.goto (-22), 3) by decide +kernel) (by decide) ?_
      exact h
    · have h := hf hc
      exact go_vret (show decode cX10_wants 30 = .ok (.return_, 1) by decide +kernel) rfl h
def V_X10_wants_0 (d : Nat) (S : AS) (F : AF) (G : AG) (Q : AQ) (a1 : Int) (a2 : Int) : Prop :=
  (1 ≤ d) ∧
  ∃ z6 : Int, Pu (d - 1) MX10_isEdge [vR 53, vI a1, vI a2] S F G (some (vI z6)) ∧
  ((z6 = 0) →
    Go d MX10_wants 12 [some (vR 53), some (vI a1), some (vI a2), some (vI 0)] [] S F G Q) ∧
  ((¬ z6 = 0) →
    Q none S F G)
theorem R_X10_wants_0 {d : Nat} {S : AS} {F : AF} {G : AG} {Q : AQ} {a1 : Int} {a2 : Int} (hsm : ShM S) (h : V_X10_wants_0 d S F G Q a1 a2) : Go d MX10_wants 0 [some (vR 53), some (vI a1), some (vI a2), none] [] S F G Q := by
  unfold V_X10_wants_0 at h
  refine go_aload_n (show decode cX10_wants 0 = .ok (.aload_n 0, 1) by decide +kernel) (by rfl) ?_
  refine go_iload_n (show decode cX10_wants 1 = .ok (.iload_n 1, 1) by decide +kernel) (by rfl) ?_
  refine go_iload_n (show decode cX10_wants 2 = .ok (.iload_n 2, 1) by decide +kernel) (by rfl) ?_
  obtain ⟨q1, h⟩ := h
  obtain ⟨z6, p7, h⟩ := h
  refine go_callV (d2 := d - 1) (M2 := MX10_isEdge) (n := 2) (ci := 10) (av := [vI a1, vI a2]) (st := []) (show decode cX10_wants 3 = .ok (.invokevirtual 134, 3) by decide +kernel) ml_X10_134 mt_X10_isEdge min_X10_isEdge mse_X10_isEdge (by decide) (shm_k hsm 53 (by decide) (by decide)) rfl (Nat.le_of_ble_eq_true rfl) (by omega) (ok_mono p7 (fun w2 S3 F4 G5 e9 => ?_))
  obtain ⟨e1, e2, e3, e4⟩ := e9
  subst e1
  replace e2 := e2.symm; subst e2
  replace e3 := e3.symm; subst e3
  replace e4 := e4.symm; subst e4
  show Go d MX10_wants 6 [some (vR 53), some (vI a1), some (vI a2), none] [vI z6] S F G Q
  obtain ⟨ht, hf⟩ := h
  refine go_ifeq (tgt := 10) (show decode cX10_wants 6 = .ok (.ifCond .eq 4, 3) by decide +kernel) (by decide) (fun hc => ?_) (fun hc => ?_)
  · have h := ht hc
    refine go_iconst (show decode cX10_wants 10 = .ok (.iconst 0, 1) by decide +kernel) (by decide) ?_
    refine go_istore_n (show decode cX10_wants 11 = .ok (.istore_n 3, 1) by decide +kernel) (by decide) ?_
    show Go d MX10_wants 12 [some (vR 53), some (vI a1), some (vI a2), some (vI 0)] [] S F G Q
    exact h
  · have h := hf hc
    exact go_vret (show decode cX10_wants 9 = .ok (.return_, 1) by decide +kernel) rfl h
def V_X10_isEdge_2 (d : Nat) (S : AS) (F : AF) (G : AG) (Q : AQ) (a1 : Int) (a2 : Int) (a3 : Int) : Prop :=
  ((0 : Int) ≤ a1) ∧
  ((a1 : Int) < 2) ∧
  ((G 55 a1 ≤ a3) →
    (1 ≤ d) ∧
    ∃ z8 : Int, Pu (d - 1) MX10_sizeOf [vR 53, vI a1] S F G (some (vI z8)) ∧
    ((¬ a2 = z8) →
      Q (some (vI 0)) S F G) ∧
    ((a2 = z8) →
      Q (some (vI 1)) S F G)) ∧
  ((¬ G 55 a1 ≤ a3) →
    (r32 (48 * a1)) ∧
    (r32 ((48 * a1) + a3)) ∧
    ((0 : Int) ≤ (48 * a1) + a3) ∧
    (((48 * a1) + a3 : Int) < 96) ∧
    ((¬ G 54 ((48 * a1) + a3) = a2) →
      (r32 (a3 + 1)) ∧
      Go d MX10_isEdge 2 [some (vR 53), some (vI a1), some (vI a2), some (vI (a3 + 1))] [] S F G Q) ∧
    ((G 54 ((48 * a1) + a3) = a2) →
      Q (some (vI 1)) S F G))
theorem R_X10_isEdge_2 {d : Nat} {S : AS} {F : AF} {G : AG} {Q : AQ} {a1 : Int} {a2 : Int} {a3 : Int} (hsm : ShM S) (h : V_X10_isEdge_2 d S F G Q a1 a2 a3) : Go d MX10_isEdge 2 [some (vR 53), some (vI a1), some (vI a2), some (vI a3)] [] S F G Q := by
  unfold V_X10_isEdge_2 at h
  refine go_iload_n (show decode cX10_isEdge 2 = .ok (.iload_n 3, 1) by decide +kernel) (by rfl) ?_
  refine go_aload_n (show decode cX10_isEdge 3 = .ok (.aload_n 0, 1) by decide +kernel) (by rfl) ?_
  refine go_getRc (show decode cX10_isEdge 4 = .ok (.getfield 29, 3) by decide +kernel) fl_X10_29 rfl (shm_k hsm 53 (by decide) (by decide)) (v := 55) (shm_r hsm 53 5 (by decide) (by decide)) ?_
  refine go_iload_n (show decode cX10_isEdge 7 = .ok (.iload_n 1, 1) by decide +kernel) (by rfl) ?_
  obtain ⟨q1, h⟩ := h
  obtain ⟨q2, h⟩ := h
  refine go_iaload (show decode cX10_isEdge 8 = .ok (.iaload, 1) by decide +kernel) (shm_k hsm 55 (by decide) (by decide)) q1 (lt_n (m := 2) q2 (shm_n hsm 55 (by decide) (by decide))) ?_
  obtain ⟨ht, hf⟩ := h
  refine go_icmpge (tgt := 35) (show decode cX10_isEdge 9 = .ok (.if_icmp .ge 26, 3) by decide +kernel) (by decide) (fun hc => ?_) (fun hc => ?_)
  · have h := ht hc
    refine go_iload_n (show decode cX10_isEdge 35 = .ok (.iload_n 2, 1) by decide +kernel) (by rfl) ?_
    refine go_aload_n (show decode cX10_isEdge 36 = .ok (.aload_n 0, 1) by decide +kernel) (by rfl) ?_
    refine go_iload_n (show decode cX10_isEdge 37 = .ok (.iload_n 1, 1) by decide +kernel) (by rfl) ?_
    obtain ⟨q3, h⟩ := h
    obtain ⟨z8, p9, h⟩ := h
    refine go_callV (d2 := d - 1) (M2 := MX10_sizeOf) (n := 1) (ci := 10) (av := [vI a1]) (st := [vI a2]) (show decode cX10_isEdge 38 = .ok (.invokevirtual 122, 3) by decide +kernel) ml_X10_122 mt_X10_sizeOf min_X10_sizeOf mse_X10_sizeOf (by decide) (shm_k hsm 53 (by decide) (by decide)) rfl (Nat.le_of_ble_eq_true rfl) (by omega) (ok_mono p9 (fun w4 S5 F6 G7 e9 => ?_))
    obtain ⟨e1, e2, e3, e4⟩ := e9
    subst e1
    replace e2 := e2.symm; subst e2
    replace e3 := e3.symm; subst e3
    replace e4 := e4.symm; subst e4
    show Go d MX10_isEdge 41 [some (vR 53), some (vI a1), some (vI a2), some (vI a3)] [vI z8, vI a2] S F G Q
    obtain ⟨ht, hf⟩ := h
    refine go_icmpne (tgt := 48) (show decode cX10_isEdge 41 = .ok (.if_icmp .ne 7, 3) by decide +kernel) (by decide) (fun hc => ?_) (fun hc => ?_)
    · have h := ht hc
      refine go_iconst (show decode cX10_isEdge 48 = .ok (.iconst 0, 1) by decide +kernel) (by decide) ?_
      exact go_zret (show decode cX10_isEdge 49 = .ok (.ireturn, 1) by decide +kernel) rfl (by decide) h
    · have h := hf hc
      refine go_iconst (show decode cX10_isEdge 44 = .ok (.iconst 1, 1) by decide +kernel) (by decide) ?_
      refine go_goto (tgt := 49) (show decode cX10_isEdge 45 = .ok (.goto 4, 3) by decide +kernel) (by decide) ?_
      exact go_zret (show decode cX10_isEdge 49 = .ok (.ireturn, 1) by decide +kernel) rfl (by decide) h
  · have h := hf hc
    refine go_aload_n (show decode cX10_isEdge 12 = .ok (.aload_n 0, 1) by decide +kernel) (by rfl) ?_
    refine go_getRc (show decode cX10_isEdge 13 = .ok (.getfield 25, 3) by decide +kernel) fl_X10_25 rfl (shm_k hsm 53 (by decide) (by decide)) (v := 54) (shm_r hsm 53 4 (by decide) (by decide)) ?_
    refine go_bipush (show decode cX10_isEdge 16 = .ok (.bipush 48, 2) by decide +kernel) (by decide) ?_
    refine go_iload_n (show decode cX10_isEdge 18 = .ok (.iload_n 1, 1) by decide +kernel) (by rfl) ?_
    obtain ⟨q10, h⟩ := h
    refine go_imul (show decode cX10_isEdge 19 = .ok (.imul, 1) by decide +kernel) q10 ?_
    refine go_iload_n (show decode cX10_isEdge 20 = .ok (.iload_n 3, 1) by decide +kernel) (by rfl) ?_
    obtain ⟨q11, h⟩ := h
    refine go_iadd (show decode cX10_isEdge 21 = .ok (.iadd, 1) by decide +kernel) q11 ?_
    obtain ⟨q12, h⟩ := h
    obtain ⟨q13, h⟩ := h
    refine go_iaload (show decode cX10_isEdge 22 = .ok (.iaload, 1) by decide +kernel) (shm_k hsm 54 (by decide) (by decide)) q12 (lt_n (m := 96) q13 (shm_n hsm 54 (by decide) (by decide))) ?_
    refine go_iload_n (show decode cX10_isEdge 23 = .ok (.iload_n 2, 1) by decide +kernel) (by rfl) ?_
    obtain ⟨ht, hf⟩ := h
    refine go_icmpne (tgt := 29) (show decode cX10_isEdge 24 = .ok (.if_icmp .ne 5, 3) by decide +kernel) (by decide) (fun hc => ?_) (fun hc => ?_)
    · have h := ht hc
      obtain ⟨q14, h⟩ := h
      refine go_iinc (show decode cX10_isEdge 29 = .ok (.iinc 3 1, 3) by decide +kernel) (by rfl) q14 (by decide) ?_
      show Go d MX10_isEdge 32 [some (vR 53), some (vI a1), some (vI a2), some (vI (a3 + 1))] [] S F G Q
      refine go_goto (tgt := 2) (show decode cX10_isEdge 32 = .ok (.goto (-30), 3) by decide +kernel) (by decide) ?_
      exact h
    · have h := hf hc
      refine go_iconst (show decode cX10_isEdge 27 = .ok (.iconst 1, 1) by decide +kernel) (by decide) ?_
      exact go_zret (show decode cX10_isEdge 28 = .ok (.ireturn, 1) by decide +kernel) rfl (by decide) h
def V_X10_isEdge_0 (d : Nat) (S : AS) (F : AF) (G : AG) (Q : AQ) (a1 : Int) (a2 : Int) : Prop :=
  Go d MX10_isEdge 2 [some (vR 53), some (vI a1), some (vI a2), some (vI 0)] [] S F G Q
theorem R_X10_isEdge_0 {d : Nat} {S : AS} {F : AF} {G : AG} {Q : AQ} {a1 : Int} {a2 : Int} (hsm : ShM S) (h : V_X10_isEdge_0 d S F G Q a1 a2) : Go d MX10_isEdge 0 [some (vR 53), some (vI a1), some (vI a2), none] [] S F G Q := by
  unfold V_X10_isEdge_0 at h
  refine go_iconst (show decode cX10_isEdge 0 = .ok (.iconst 0, 1) by decide +kernel) (by decide) ?_
  refine go_istore_n (show decode cX10_isEdge 1 = .ok (.istore_n 3, 1) by decide +kernel) (by decide) ?_
  show Go d MX10_isEdge 2 [some (vR 53), some (vI a1), some (vI a2), some (vI 0)] [] S F G Q
  exact h
def V_X10_isRoom_0 (d : Nat) (S : AS) (F : AF) (G : AG) (Q : AQ) (a1 : Int) : Prop :=
  ((0 : Int) ≤ a1) ∧
  ((a1 : Int) < 2) ∧
  (r32 ((G 55 a1) + (F 53 20))) ∧
  ((48 < (G 55 a1) + (F 53 20)) →
    Q (some (vI 0)) S F G) ∧
  ((¬ 48 < (G 55 a1) + (F 53 20)) →
    Q (some (vI 1)) S F G)
theorem R_X10_isRoom_0 {d : Nat} {S : AS} {F : AF} {G : AG} {Q : AQ} {a1 : Int} (hsm : ShM S) (h : V_X10_isRoom_0 d S F G Q a1) : Go d MX10_isRoom 0 [some (vR 53), some (vI a1)] [] S F G Q := by
  unfold V_X10_isRoom_0 at h
  refine go_aload_n (show decode cX10_isRoom 0 = .ok (.aload_n 0, 1) by decide +kernel) (by rfl) ?_
  refine go_getRc (show decode cX10_isRoom 1 = .ok (.getfield 29, 3) by decide +kernel) fl_X10_29 rfl (shm_k hsm 53 (by decide) (by decide)) (v := 55) (shm_r hsm 53 5 (by decide) (by decide)) ?_
  refine go_iload_n (show decode cX10_isRoom 4 = .ok (.iload_n 1, 1) by decide +kernel) (by rfl) ?_
  obtain ⟨q1, h⟩ := h
  obtain ⟨q2, h⟩ := h
  refine go_iaload (show decode cX10_isRoom 5 = .ok (.iaload, 1) by decide +kernel) (shm_k hsm 55 (by decide) (by decide)) q1 (lt_n (m := 2) q2 (shm_n hsm 55 (by decide) (by decide))) ?_
  refine go_aload_n (show decode cX10_isRoom 6 = .ok (.aload_n 0, 1) by decide +kernel) (by rfl) ?_
  refine go_getI (show decode cX10_isRoom 7 = .ok (.getfield 142, 3) by decide +kernel) fl_X10_142 (Or.inl rfl) (shm_k hsm 53 (by decide) (by decide)) ?_
  obtain ⟨q3, h⟩ := h
  refine go_iadd (show decode cX10_isRoom 10 = .ok (.iadd, 1) by decide +kernel) q3 ?_
  refine go_bipush (show decode cX10_isRoom 11 = .ok (.bipush 48, 2) by decide +kernel) (by decide) ?_
  obtain ⟨ht, hf⟩ := h
  refine go_icmpgt (tgt := 20) (show decode cX10_isRoom 13 = .ok (.if_icmp .gt 7, 3) by decide +kernel) (by decide) (fun hc => ?_) (fun hc => ?_)
  · have h := ht hc
    refine go_iconst (show decode cX10_isRoom 20 = .ok (.iconst 0, 1) by decide +kernel) (by decide) ?_
    exact go_zret (show decode cX10_isRoom 21 = .ok (.ireturn, 1) by decide +kernel) rfl (by decide) h
  · have h := hf hc
    refine go_iconst (show decode cX10_isRoom 16 = .ok (.iconst 1, 1) by decide +kernel) (by decide) ?_
    refine go_goto (tgt := 21) (show decode cX10_isRoom 17 = .ok (.goto 4, 3) by decide +kernel) (by decide) ?_
    exact go_zret (show decode cX10_isRoom 21 = .ok (.ireturn, 1) by decide +kernel) rfl (by decide) h
def V_X10_acts_2 (d : Nat) (S : AS) (F : AF) (G : AG) (Q : AQ) (a1 : Int) : Prop :=
  ((2 ≤ a1) →
    Q none S F G) ∧
  ((¬ 2 ≤ a1) →
    (r32 (48 * a1)) ∧
    ((0 : Int) ≤ a1) ∧
    ((a1 : Int) < 2) ∧
    (r32 ((48 * a1) + (G 55 a1))) ∧
    (r32 (((48 * a1) + (G 55 a1)) - 1)) ∧
    ((0 : Int) ≤ ((48 * a1) + (G 55 a1)) - 1) ∧
    ((((48 * a1) + (G 55 a1)) - 1 : Int) < 96) ∧
    ∀ G8 : AG, G8 = gu G 66 a1 (G 54 (((48 * a1) + (G 55 a1)) - 1)) →
    (r32 (a1 + 1)) ∧
    Go d MX10_acts 2 [some (vR 53), some (vI (a1 + 1))] [] S F G8 Q)
theorem R_X10_acts_2 {d : Nat} {S : AS} {F : AF} {G : AG} {Q : AQ} {a1 : Int} (hsm : ShM S) (h : V_X10_acts_2 d S F G Q a1) : Go d MX10_acts 2 [some (vR 53), some (vI a1)] [] S F G Q := by
  unfold V_X10_acts_2 at h
  refine go_iload_n (show decode cX10_acts 2 = .ok (.iload_n 1, 1) by decide +kernel) (by rfl) ?_
  refine go_iconst (show decode cX10_acts 3 = .ok (.iconst 2, 1) by decide +kernel) (by decide) ?_
  obtain ⟨ht, hf⟩ := h
  refine go_icmpge (tgt := 37) (show decode cX10_acts 4 = .ok (.if_icmp .ge 33, 3) by decide +kernel) (by decide) (fun hc => ?_) (fun hc => ?_)
  · have h := ht hc
    exact go_vret (show decode cX10_acts 37 = .ok (.return_, 1) by decide +kernel) rfl h
  · have h := hf hc
    refine go_aload_n (show decode cX10_acts 7 = .ok (.aload_n 0, 1) by decide +kernel) (by rfl) ?_
    refine go_getRc (show decode cX10_acts 8 = .ok (.getfield 65, 3) by decide +kernel) fl_X10_65 rfl (shm_k hsm 53 (by decide) (by decide)) (v := 66) (shm_r hsm 53 18 (by decide) (by decide)) ?_
    refine go_iload_n (show decode cX10_acts 11 = .ok (.iload_n 1, 1) by decide +kernel) (by rfl) ?_
    refine go_aload_n (show decode cX10_acts 12 = .ok (.aload_n 0, 1) by decide +kernel) (by rfl) ?_
    refine go_getRc (show decode cX10_acts 13 = .ok (.getfield 25, 3) by decide +kernel) fl_X10_25 rfl (shm_k hsm 53 (by decide) (by decide)) (v := 54) (shm_r hsm 53 4 (by decide) (by decide)) ?_
    refine go_bipush (show decode cX10_acts 16 = .ok (.bipush 48, 2) by decide +kernel) (by decide) ?_
    refine go_iload_n (show decode cX10_acts 18 = .ok (.iload_n 1, 1) by decide +kernel) (by rfl) ?_
    obtain ⟨q1, h⟩ := h
    refine go_imul (show decode cX10_acts 19 = .ok (.imul, 1) by decide +kernel) q1 ?_
    refine go_aload_n (show decode cX10_acts 20 = .ok (.aload_n 0, 1) by decide +kernel) (by rfl) ?_
    refine go_getRc (show decode cX10_acts 21 = .ok (.getfield 29, 3) by decide +kernel) fl_X10_29 rfl (shm_k hsm 53 (by decide) (by decide)) (v := 55) (shm_r hsm 53 5 (by decide) (by decide)) ?_
    refine go_iload_n (show decode cX10_acts 24 = .ok (.iload_n 1, 1) by decide +kernel) (by rfl) ?_
    obtain ⟨q2, h⟩ := h
    obtain ⟨q3, h⟩ := h
    refine go_iaload (show decode cX10_acts 25 = .ok (.iaload, 1) by decide +kernel) (shm_k hsm 55 (by decide) (by decide)) q2 (lt_n (m := 2) q3 (shm_n hsm 55 (by decide) (by decide))) ?_
    obtain ⟨q4, h⟩ := h
    refine go_iadd (show decode cX10_acts 26 = .ok (.iadd, 1) by decide +kernel) q4 ?_
    refine go_iconst (show decode cX10_acts 27 = .ok (.iconst 1, 1) by decide +kernel) (by decide) ?_
    obtain ⟨q5, h⟩ := h
    refine go_isub (show decode cX10_acts 28 = .ok (.isub, 1) by decide +kernel) q5 ?_
    obtain ⟨q6, h⟩ := h
    obtain ⟨q7, h⟩ := h
    refine go_iaload (show decode cX10_acts 29 = .ok (.iaload, 1) by decide +kernel) (shm_k hsm 54 (by decide) (by decide)) q6 (lt_n (m := 96) q7 (shm_n hsm 54 (by decide) (by decide))) ?_
    refine go_iastore (show decode cX10_acts 30 = .ok (.iastore, 1) by decide +kernel) (shm_k hsm 66 (by decide) (by decide)) q2 (lt_n (m := 2) q3 (shm_n hsm 66 (by decide) (by decide)))  ?_
    obtain ⟨G8, G8e⟩ : ∃ G8 : AG, G8 = gu G 66 a1 (G 54 (((48 * a1) + (G 55 a1)) - 1)) := ⟨_, rfl⟩
    have h := h G8 G8e
    rw [← G8e]
    obtain ⟨q9, h⟩ := h
    refine go_iinc (show decode cX10_acts 31 = .ok (.iinc 1 1, 3) by decide +kernel) (by rfl) q9 (by decide) ?_
    show Go d MX10_acts 34 [some (vR 53), some (vI (a1 + 1))] [] S F G8 Q
    refine go_goto (tgt := 2) (show decode cX10_acts 34 = .ok (.goto (-32), 3) by decide +kernel) (by decide) ?_
    exact h
def V_X10_acts_0 (d : Nat) (S : AS) (F : AF) (G : AG) (Q : AQ)  : Prop :=
  Go d MX10_acts 2 [some (vR 53), some (vI 0)] [] S F G Q
theorem R_X10_acts_0 {d : Nat} {S : AS} {F : AF} {G : AG} {Q : AQ}  (hsm : ShM S) (h : V_X10_acts_0 d S F G Q ) : Go d MX10_acts 0 [some (vR 53), none] [] S F G Q := by
  unfold V_X10_acts_0 at h
  refine go_iconst (show decode cX10_acts 0 = .ok (.iconst 0, 1) by decide +kernel) (by decide) ?_
  refine go_istore_n (show decode cX10_acts 1 = .ok (.istore_n 1, 1) by decide +kernel) (by decide) ?_
  show Go d MX10_acts 2 [some (vR 53), some (vI 0)] [] S F G Q
  exact h
def V_X10_comes_170 (d : Nat) (S : AS) (F : AF) (G : AG) (Q : AQ) (a1 : Int) (a2 : Int) (a3 : Int) (a4 : Int) (a5 : Int) : Prop :=
  ((0 : Int) ≤ a1) ∧
  ((a1 : Int) < 2) ∧
  (r32 ((G 55 a1) + 1)) ∧
  ∀ G4 : AG, G4 = gu G 55 a1 ((G 55 a1) + 1) →
  Q none S F G4
theorem R_X10_comes_170 {d : Nat} {S : AS} {F : AF} {G : AG} {Q : AQ} {a1 : Int} {a2 : Int} {a3 : Int} {a4 : Int} {a5 : Int} (hsm : ShM S) (h : V_X10_comes_170 d S F G Q a1 a2 a3 a4 a5) : Go d MX10_comes 170 [some (vR 53), some (vI a1), some (vI a2), some (vI a3), some (vI a4), some (vI a5)] [] S F G Q := by
  unfold V_X10_comes_170 at h
  refine go_aload_n (show decode cX10_comes 170 = .ok (.aload_n 0, 1) by decide +kernel) (by rfl) ?_
  refine go_getRc (show decode cX10_comes 171 = .ok (.getfield 29, 3) by decide +kernel) fl_X10_29 rfl (shm_k hsm 53 (by decide) (by decide)) (v := 55) (shm_r hsm 53 5 (by decide) (by decide)) ?_
  refine go_iload_n (show decode cX10_comes 174 = .ok (.iload_n 1, 1) by decide +kernel) (by rfl) ?_
  refine go_dup2 (show decode cX10_comes 175 = .ok (.dup2, 1) by decide +kernel) ?_
  obtain ⟨q1, h⟩ := h
  obtain ⟨q2, h⟩ := h
  refine go_iaload (show decode cX10_comes 176 = .ok (.iaload, 1) by decide +kernel) (shm_k hsm 55 (by decide) (by decide)) q1 (lt_n (m := 2) q2 (shm_n hsm 55 (by decide) (by decide))) ?_
  refine go_iconst (show decode cX10_comes 177 = .ok (.iconst 1, 1) by decide +kernel) (by decide) ?_
  obtain ⟨q3, h⟩ := h
  refine go_iadd (show decode cX10_comes 178 = .ok (.iadd, 1) by decide +kernel) q3 ?_
  refine go_iastore (show decode cX10_comes 179 = .ok (.iastore, 1) by decide +kernel) (shm_k hsm 55 (by decide) (by decide)) q1 (lt_n (m := 2) q2 (shm_n hsm 55 (by decide) (by decide)))  ?_
  obtain ⟨G4, G4e⟩ : ∃ G4 : AG, G4 = gu G 55 a1 ((G 55 a1) + 1) := ⟨_, rfl⟩
  have h := h G4 G4e
  rw [← G4e]
  exact go_vret (show decode cX10_comes 180 = .ok (.return_, 1) by decide +kernel) rfl h
def V_X10_comes_98 (d : Nat) (S : AS) (F : AF) (G : AG) (Q : AQ) (a1 : Int) (a2 : Int) (a3 : Int) (a4 : Int) (a5 : Int) : Prop :=
  ((a5 ≤ a4) →
    (r32 (48 * a1)) ∧
    (r32 ((48 * a1) + a4)) ∧
    ((0 : Int) ≤ (48 * a1) + a4) ∧
    (((48 * a1) + a4 : Int) < 96) ∧
    ∀ G5 : AG, G5 = gu G 54 ((48 * a1) + a4) a2 →
    ((0 : Int) ≤ a1) ∧
    ((a1 : Int) < 2) ∧
    ((G5 66 a1 ≤ a2) →
      V_X10_comes_170 d S F G5 Q a1 a2 a3 a4 a5) ∧
    ((¬ G5 66 a1 ≤ a2) →
      (r32 ((G5 56 a1) + 1)) ∧
      ∀ G9 : AG, G9 = gu G5 56 a1 ((G5 56 a1) + 1) →
      V_X10_comes_170 d S F G9 Q a1 a2 a3 a4 a5)) ∧
  ((¬ a5 ≤ a4) →
    (r32 (48 * a1)) ∧
    (r32 ((48 * a1) + a5)) ∧
    (r32 (((48 * a1) + a5) - 1)) ∧
    ((0 : Int) ≤ ((48 * a1) + a5) - 1) ∧
    ((((48 * a1) + a5) - 1 : Int) < 96) ∧
    ((0 : Int) ≤ (48 * a1) + a5) ∧
    (((48 * a1) + a5 : Int) < 96) ∧
    ∀ G17 : AG, G17 = gu G 54 ((48 * a1) + a5) (G 54 (((48 * a1) + a5) - 1)) →
    (r32 (a5 + (-1))) ∧
    Go d MX10_comes 98 [some (vR 53), some (vI a1), some (vI a2), some (vI a3), some (vI a4), some (vI (a5 + (-1)))] [] S F G17 Q)
theorem R_X10_comes_98 {d : Nat} {S : AS} {F : AF} {G : AG} {Q : AQ} {a1 : Int} {a2 : Int} {a3 : Int} {a4 : Int} {a5 : Int} (hsm : ShM S) (h : V_X10_comes_98 d S F G Q a1 a2 a3 a4 a5) : Go d MX10_comes 98 [some (vR 53), some (vI a1), some (vI a2), some (vI a3), some (vI a4), some (vI a5)] [] S F G Q := by
  unfold V_X10_comes_98 at h
  refine go_iload (show decode cX10_comes 98 = .ok (.iload 5, 2) by decide +kernel) (by rfl) ?_
  refine go_iload (show decode cX10_comes 100 = .ok (.iload 4, 2) by decide +kernel) (by rfl) ?_
  obtain ⟨ht, hf⟩ := h
  refine go_icmple (tgt := 137) (show decode cX10_comes 102 = .ok (.if_icmp .le 35, 3) by decide +kernel) (by decide) (fun hc => ?_) (fun hc => ?_)
  · have h := ht hc
    refine go_aload_n (show decode cX10_comes 137 = .ok (.aload_n 0, 1) by decide +kernel) (by rfl) ?_
    refine go_getRc (show decode cX10_comes 138 = .ok (.getfield 25, 3) by decide +kernel) fl_X10_25 rfl (shm_k hsm 53 (by decide) (by decide)) (v := 54) (shm_r hsm 53 4 (by decide) (by decide)) ?_
    refine go_bipush (show decode cX10_comes 141 = .ok (.bipush 48, 2) by decide +kernel) (by decide) ?_
    refine go_iload_n (show decode cX10_comes 143 = .ok (.iload_n 1, 1) by decide +kernel) (by rfl) ?_
    obtain ⟨q1, h⟩ := h
    refine go_imul (show decode cX10_comes 144 = .ok (.imul, 1) by decide +kernel) q1 ?_
    refine go_iload (show decode cX10_comes 145 = .ok (.iload 4, 2) by decide +kernel) (by rfl) ?_
    obtain ⟨q2, h⟩ := h
    refine go_iadd (show decode cX10_comes 147 = .ok (.iadd, 1) by decide +kernel) q2 ?_
    refine go_iload_n (show decode cX10_comes 148 = .ok (.iload_n 2, 1) by decide +kernel) (by rfl) ?_
    obtain ⟨q3, h⟩ := h
    obtain ⟨q4, h⟩ := h
    refine go_iastore (show decode cX10_comes 149 = .ok (.iastore, 1) by decide +kernel) (shm_k hsm 54 (by decide) (by decide)) q3 (lt_n (m := 96) q4 (shm_n hsm 54 (by decide) (by decide)))  ?_
    obtain ⟨G5, G5e⟩ : ∃ G5 : AG, G5 = gu G 54 ((48 * a1) + a4) a2 := ⟨_, rfl⟩
    have h := h G5 G5e
    rw [← G5e]
    refine go_iload_n (show decode cX10_comes 150 = .ok (.iload_n 2, 1) by decide +kernel) (by rfl) ?_
    refine go_aload_n (show decode cX10_comes 151 = .ok (.aload_n 0, 1) by decide +kernel) (by rfl) ?_
    refine go_getRc (show decode cX10_comes 152 = .ok (.getfield 65, 3) by decide +kernel) fl_X10_65 rfl (shm_k hsm 53 (by decide) (by decide)) (v := 66) (shm_r hsm 53 18 (by decide) (by decide)) ?_
    refine go_iload_n (show decode cX10_comes 155 = .ok (.iload_n 1, 1) by decide +kernel) (by rfl) ?_
    obtain ⟨q6, h⟩ := h
    obtain ⟨q7, h⟩ := h
    refine go_iaload (show decode cX10_comes 156 = .ok (.iaload, 1) by decide +kernel) (shm_k hsm 66 (by decide) (by decide)) q6 (lt_n (m := 2) q7 (shm_n hsm 66 (by decide) (by decide))) ?_
    obtain ⟨ht, hf⟩ := h
    refine go_icmpge (tgt := 170) (show decode cX10_comes 157 = .ok (.if_icmp .ge 13, 3) by decide +kernel) (by decide) (fun hc => ?_) (fun hc => ?_)
    · have h := ht hc
      exact R_X10_comes_170 hsm h
    · have h := hf hc
      refine go_aload_n (show decode cX10_comes 160 = .ok (.aload_n 0, 1) by decide +kernel) (by rfl) ?_
      refine go_getRc (show decode cX10_comes 161 = .ok (.getfield 32, 3) by decide +kernel) fl_X10_32 rfl (shm_k hsm 53 (by decide) (by decide)) (v := 56) (shm_r hsm 53 6 (by decide) (by decide)) ?_
      refine go_iload_n (show decode cX10_comes 164 = .ok (.iload_n 1, 1) by decide +kernel) (by rfl) ?_
      refine go_dup2 (show decode cX10_comes 165 = .ok (.dup2, 1) by decide +kernel) ?_
      refine go_iaload (show decode cX10_comes 166 = .ok (.iaload, 1) by decide +kernel) (shm_k hsm 56 (by decide) (by decide)) q6 (lt_n (m := 2) q7 (shm_n hsm 56 (by decide) (by decide))) ?_
      refine go_iconst (show decode cX10_comes 167 = .ok (.iconst 1, 1) by decide +kernel) (by decide) ?_
      obtain ⟨q8, h⟩ := h
      refine go_iadd (show decode cX10_comes 168 = .ok (.iadd, 1) by decide +kernel) q8 ?_
      refine go_iastore (show decode cX10_comes 169 = .ok (.iastore, 1) by decide +kernel) (shm_k hsm 56 (by decide) (by decide)) q6 (lt_n (m := 2) q7 (shm_n hsm 56 (by decide) (by decide)))  ?_
      obtain ⟨G9, G9e⟩ : ∃ G9 : AG, G9 = gu G5 56 a1 ((G5 56 a1) + 1) := ⟨_, rfl⟩
      have h := h G9 G9e
      rw [← G9e]
      exact R_X10_comes_170 hsm h
  · have h := hf hc
    refine go_aload_n (show decode cX10_comes 105 = .ok (.aload_n 0, 1) by decide +kernel) (by rfl) ?_
    refine go_getRc (show decode cX10_comes 106 = .ok (.getfield 25, 3) by decide +kernel) fl_X10_25 rfl (shm_k hsm 53 (by decide) (by decide)) (v := 54) (shm_r hsm 53 4 (by decide) (by decide)) ?_
    refine go_bipush (show decode cX10_comes 109 = .ok (.bipush 48, 2) by decide +kernel) (by decide) ?_
    refine go_iload_n (show decode cX10_comes 111 = .ok (.iload_n 1, 1) by decide +kernel) (by rfl) ?_
    obtain ⟨q10, h⟩ := h
    refine go_imul (show decode cX10_comes 112 = .ok (.imul, 1) by decide +kernel) q10 ?_
    refine go_iload (show decode cX10_comes 113 = .ok (.iload 5, 2) by decide +kernel) (by rfl) ?_
    obtain ⟨q11, h⟩ := h
    refine go_iadd (show decode cX10_comes 115 = .ok (.iadd, 1) by decide +kernel) q11 ?_
    refine go_aload_n (show decode cX10_comes 116 = .ok (.aload_n 0, 1) by decide +kernel) (by rfl) ?_
    refine go_getRc (show decode cX10_comes 117 = .ok (.getfield 25, 3) by decide +kernel) fl_X10_25 rfl (shm_k hsm 53 (by decide) (by decide)) (v := 54) (shm_r hsm 53 4 (by decide) (by decide)) ?_
    refine go_bipush (show decode cX10_comes 120 = .ok (.bipush 48, 2) by decide +kernel) (by decide) ?_
    refine go_iload_n (show decode cX10_comes 122 = .ok (.iload_n 1, 1) by decide +kernel) (by rfl) ?_
    refine go_imul (show decode cX10_comes 123 = .ok (.imul, 1) by decide +kernel) q10 ?_
    refine go_iload (show decode cX10_comes 124 = .ok (.iload 5, 2) by decide +kernel) (by rfl) ?_
    refine go_iadd (show decode cX10_comes 126 = .ok (.iadd, 1) by decide +kernel) q11 ?_
    refine go_iconst (show decode cX10_comes 127 = .ok (.iconst 1, 1) by decide +kernel) (by decide) ?_
    obtain ⟨q12, h⟩ := h
    refine go_isub (show decode cX10_comes 128 = .ok (.isub, 1) by decide +kernel) q12 ?_
    obtain ⟨q13, h⟩ := h
    obtain ⟨q14, h⟩ := h
    refine go_iaload (show decode cX10_comes 129 = .ok (.iaload, 1) by decide +kernel) (shm_k hsm 54 (by decide) (by decide)) q13 (lt_n (m := 96) q14 (shm_n hsm 54 (by decide) (by decide))) ?_
    obtain ⟨q15, h⟩ := h
    obtain ⟨q16, h⟩ := h
    refine go_iastore (show decode cX10_comes 130 = .ok (.iastore, 1) by decide +kernel) (shm_k hsm 54 (by decide) (by decide)) q15 (lt_n (m := 96) q16 (shm_n hsm 54 (by decide) (by decide)))  ?_
    obtain ⟨G17, G17e⟩ : ∃ G17 : AG, G17 = gu G 54 ((48 * a1) + a5) (G 54 (((48 * a1) + a5) - 1)) := ⟨_, rfl⟩
    have h := h G17 G17e
    rw [← G17e]
    obtain ⟨q18, h⟩ := h
    refine go_iinc (show decode cX10_comes 131 = .ok (.iinc 5 (-1), 3) by decide +kernel) (by rfl) q18 (by decide) ?_
    show Go d MX10_comes 134 [some (vR 53), some (vI a1), some (vI a2), some (vI a3), some (vI a4), some (vI (a5 + (-1)))] [] S F G17 Q
    refine go_goto (tgt := 98) (show decode cX10_comes 134 = .ok (.goto (-36), 3) by decide +kernel) (by decide) ?_
    exact h
def V_X10_comes_61 (d : Nat) (S : AS) (F : AF) (G : AG) (Q : AQ) (a1 : Int) (a2 : Int) (a3 : Int) (a4 : Int) (a5 : Int) : Prop :=
  ((F 53 11 ≤ a5) →
    Go d MX10_comes 98 [some (vR 53), some (vI a1), some (vI a2), some (vI a3), some (vI a4), some (vI a3)] [] S F G Q) ∧
  ((¬ F 53 11 ≤ a5) →
    (r32 (6912 * a5)) ∧
    (r32 (a4 - 1)) ∧
    (1 ≤ d) ∧
    Ok (d - 1) MX10_parts [vR 58, vI (6912 * a5), vI a1, vI (a4 - 1), vI a3] S F G (fun w4 S5 F6 G7 =>
    S5 = S ∧
    w4 = none ∧
    (r32 (a5 + 1)) ∧
    Go d MX10_comes 61 [some (vR 53), some (vI a1), some (vI a2), some (vI a3), some (vI a4), some (vI (a5 + 1))] [] S F6 G7 Q))
theorem R_X10_comes_61 {d : Nat} {S : AS} {F : AF} {G : AG} {Q : AQ} {a1 : Int} {a2 : Int} {a3 : Int} {a4 : Int} {a5 : Int} (hsm : ShM S) (h : V_X10_comes_61 d S F G Q a1 a2 a3 a4 a5) : Go d MX10_comes 61 [some (vR 53), some (vI a1), some (vI a2), some (vI a3), some (vI a4), some (vI a5)] [] S F G Q := by
  unfold V_X10_comes_61 at h
  refine go_iload (show decode cX10_comes 61 = .ok (.iload 5, 2) by decide +kernel) (by rfl) ?_
  refine go_aload_n (show decode cX10_comes 63 = .ok (.aload_n 0, 1) by decide +kernel) (by rfl) ?_
  refine go_getI (show decode cX10_comes 64 = .ok (.getfield 108, 3) by decide +kernel) fl_X10_108 (Or.inl rfl) (shm_k hsm 53 (by decide) (by decide)) ?_
  obtain ⟨ht, hf⟩ := h
  refine go_icmpge (tgt := 95) (show decode cX10_comes 67 = .ok (.if_icmp .ge 28, 3) by decide +kernel) (by decide) (fun hc => ?_) (fun hc => ?_)
  · have h := ht hc
    refine go_iload_n (show decode cX10_comes 95 = .ok (.iload_n 3, 1) by decide +kernel) (by rfl) ?_
    refine go_istore (show decode cX10_comes 96 = .ok (.istore 5, 2) by decide +kernel) (by decide) ?_
    show Go d MX10_comes 98 [some (vR 53), some (vI a1), some (vI a2), some (vI a3), some (vI a4), some (vI a3)] [] S F G Q
    exact h
  · have h := hf hc
    refine go_aload_n (show decode cX10_comes 70 = .ok (.aload_n 0, 1) by decide +kernel) (by rfl) ?_
    refine go_getRc (show decode cX10_comes 71 = .ok (.getfield 40, 3) by decide +kernel) fl_X10_40 rfl (shm_k hsm 53 (by decide) (by decide)) (v := 58) (shm_r hsm 53 8 (by decide) (by decide)) ?_
    refine go_sipush (show decode cX10_comes 74 = .ok (.sipush 6912, 3) by decide +kernel) (by decide) ?_
    refine go_iload (show decode cX10_comes 77 = .ok (.iload 5, 2) by decide +kernel) (by rfl) ?_
    obtain ⟨q1, h⟩ := h
    refine go_imul (show decode cX10_comes 79 = .ok (.imul, 1) by decide +kernel) q1 ?_
    refine go_iload_n (show decode cX10_comes 80 = .ok (.iload_n 1, 1) by decide +kernel) (by rfl) ?_
    refine go_iload (show decode cX10_comes 81 = .ok (.iload 4, 2) by decide +kernel) (by rfl) ?_
    refine go_iconst (show decode cX10_comes 83 = .ok (.iconst 1, 1) by decide +kernel) (by decide) ?_
    obtain ⟨q2, h⟩ := h
    refine go_isub (show decode cX10_comes 84 = .ok (.isub, 1) by decide +kernel) q2 ?_
    refine go_iload_n (show decode cX10_comes 85 = .ok (.iload_n 3, 1) by decide +kernel) (by rfl) ?_
    obtain ⟨q3, h⟩ := h
    refine go_callS (d2 := d - 1) (M2 := MX10_parts) (n := 5) (av := [vR 58, vI (6912 * a5), vI a1, vI (a4 - 1), vI a3]) (st := []) (show decode cX10_comes 86 = .ok (.invokestatic 138, 3) by decide +kernel) ml_X10_138 mt_X10_parts mst_X10_parts rfl (Nat.le_of_ble_eq_true rfl) (by omega) (ok_mono h (fun w4 S5 F6 G7 h => ?_))
    obtain ⟨e8, h⟩ := h
    replace e8 := e8.symm; subst e8
    obtain ⟨e9, h⟩ := h
    subst e9
    show Go d MX10_comes 89 [some (vR 53), some (vI a1), some (vI a2), some (vI a3), some (vI a4), some (vI a5)] [] S F6 G7 Q
    obtain ⟨q8, h⟩ := h
    refine go_iinc (show decode cX10_comes 89 = .ok (.iinc 5 1, 3) by decide +kernel) (by rfl) q8 (by decide) ?_
    show Go d MX10_comes 92 [some (vR 53), some (vI a1), some (vI a2), some (vI a3), some (vI a4), some (vI (a5 + 1))] [] S F6 G7 Q
    refine go_goto (tgt := 61) (show decode cX10_comes 92 = .ok (.goto (-31), 3) by decide +kernel) (by decide) ?_
    exact h
def V_X10_comes_20 (d : Nat) (S : AS) (F : AF) (G : AG) (Q : AQ) (a1 : Int) (a2 : Int) (a3 : Int) (a4 : Int) : Prop :=
  (r32 (48 * a1)) ∧
  (r32 ((48 * a1) + a4)) ∧
  (r32 (((48 * a1) + a4) - 1)) ∧
  ((0 : Int) ≤ ((48 * a1) + a4) - 1) ∧
  ((((48 * a1) + a4) - 1 : Int) < 96) ∧
  ((G 54 (((48 * a1) + a4) - 1) ≤ a2) →
    (r32 (a4 - 1)) ∧
    (1 ≤ d) ∧
    Ok (d - 1) MX10_parts [vR 57, vI 0, vI a1, vI (a4 - 1), vI a3] S F G (fun w8 S9 F10 G11 =>
    S9 = S ∧
    w8 = none ∧
    Go d MX10_comes 61 [some (vR 53), some (vI a1), some (vI a2), some (vI a3), some (vI a4), some (vI 0)] [] S F10 G11 Q)) ∧
  ((¬ G 54 (((48 * a1) + a4) - 1) ≤ a2) →
    (r32 (a4 + (-1))) ∧
    Go d MX10_comes 20 [some (vR 53), some (vI a1), some (vI a2), some (vI a3), some (vI (a4 + (-1))), none] [] S F G Q)
theorem R_X10_comes_20 {d : Nat} {S : AS} {F : AF} {G : AG} {Q : AQ} {a1 : Int} {a2 : Int} {a3 : Int} {a4 : Int} (hsm : ShM S) (h : V_X10_comes_20 d S F G Q a1 a2 a3 a4) : Go d MX10_comes 20 [some (vR 53), some (vI a1), some (vI a2), some (vI a3), some (vI a4), none] [] S F G Q := by
  unfold V_X10_comes_20 at h
  refine go_aload_n (show decode cX10_comes 20 = .ok (.aload_n 0, 1) by decide +kernel) (by rfl) ?_
  refine go_getRc (show decode cX10_comes 21 = .ok (.getfield 25, 3) by decide +kernel) fl_X10_25 rfl (shm_k hsm 53 (by decide) (by decide)) (v := 54) (shm_r hsm 53 4 (by decide) (by decide)) ?_
  refine go_bipush (show decode cX10_comes 24 = .ok (.bipush 48, 2) by decide +kernel) (by decide) ?_
  refine go_iload_n (show decode cX10_comes 26 = .ok (.iload_n 1, 1) by decide +kernel) (by rfl) ?_
  obtain ⟨q1, h⟩ := h
  refine go_imul (show decode cX10_comes 27 = .ok (.imul, 1) by decide +kernel) q1 ?_
  refine go_iload (show decode cX10_comes 28 = .ok (.iload 4, 2) by decide +kernel) (by rfl) ?_
  obtain ⟨q2, h⟩ := h
  refine go_iadd (show decode cX10_comes 30 = .ok (.iadd, 1) by decide +kernel) q2 ?_
  refine go_iconst (show decode cX10_comes 31 = .ok (.iconst 1, 1) by decide +kernel) (by decide) ?_
  obtain ⟨q3, h⟩ := h
  refine go_isub (show decode cX10_comes 32 = .ok (.isub, 1) by decide +kernel) q3 ?_
  obtain ⟨q4, h⟩ := h
  obtain ⟨q5, h⟩ := h
  refine go_iaload (show decode cX10_comes 33 = .ok (.iaload, 1) by decide +kernel) (shm_k hsm 54 (by decide) (by decide)) q4 (lt_n (m := 96) q5 (shm_n hsm 54 (by decide) (by decide))) ?_
  refine go_iload_n (show decode cX10_comes 34 = .ok (.iload_n 2, 1) by decide +kernel) (by rfl) ?_
  obtain ⟨ht, hf⟩ := h
  refine go_icmple (tgt := 44) (show decode cX10_comes 35 = .ok (.if_icmp .le 9, 3) by decide +kernel) (by decide) (fun hc => ?_) (fun hc => ?_)
  · have h := ht hc
    refine go_aload_n (show decode cX10_comes 44 = .ok (.aload_n 0, 1) by decide +kernel) (by rfl) ?_
    refine go_getRc (show decode cX10_comes 45 = .ok (.getfield 35, 3) by decide +kernel) fl_X10_35 rfl (shm_k hsm 53 (by decide) (by decide)) (v := 57) (shm_r hsm 53 7 (by decide) (by decide)) ?_
    refine go_iconst (show decode cX10_comes 48 = .ok (.iconst 0, 1) by decide +kernel) (by decide) ?_
    refine go_iload_n (show decode cX10_comes 49 = .ok (.iload_n 1, 1) by decide +kernel) (by rfl) ?_
    refine go_iload (show decode cX10_comes 50 = .ok (.iload 4, 2) by decide +kernel) (by rfl) ?_
    refine go_iconst (show decode cX10_comes 52 = .ok (.iconst 1, 1) by decide +kernel) (by decide) ?_
    obtain ⟨q6, h⟩ := h
    refine go_isub (show decode cX10_comes 53 = .ok (.isub, 1) by decide +kernel) q6 ?_
    refine go_iload_n (show decode cX10_comes 54 = .ok (.iload_n 3, 1) by decide +kernel) (by rfl) ?_
    obtain ⟨q7, h⟩ := h
    refine go_callS (d2 := d - 1) (M2 := MX10_parts) (n := 5) (av := [vR 57, vI 0, vI a1, vI (a4 - 1), vI a3]) (st := []) (show decode cX10_comes 55 = .ok (.invokestatic 138, 3) by decide +kernel) ml_X10_138 mt_X10_parts mst_X10_parts rfl (Nat.le_of_ble_eq_true rfl) (by omega) (ok_mono h (fun w8 S9 F10 G11 h => ?_))
    obtain ⟨e8, h⟩ := h
    replace e8 := e8.symm; subst e8
    obtain ⟨e9, h⟩ := h
    subst e9
    show Go d MX10_comes 58 [some (vR 53), some (vI a1), some (vI a2), some (vI a3), some (vI a4), none] [] S F10 G11 Q
    refine go_iconst (show decode cX10_comes 58 = .ok (.iconst 0, 1) by decide +kernel) (by decide) ?_
    refine go_istore (show decode cX10_comes 59 = .ok (.istore 5, 2) by decide +kernel) (by decide) ?_
    show Go d MX10_comes 61 [some (vR 53), some (vI a1), some (vI a2), some (vI a3), some (vI a4), some (vI 0)] [] S F10 G11 Q
    exact h
  · have h := hf hc
    obtain ⟨q12, h⟩ := h
    refine go_iinc (show decode cX10_comes 38 = .ok (.iinc 4 (-1), 3) by decide +kernel) (by rfl) q12 (by decide) ?_
    show Go d MX10_comes 41 [some (vR 53), some (vI a1), some (vI a2), some (vI a3), some (vI (a4 + (-1))), none] [] S F G Q
    refine go_goto (tgt := 20) (show decode cX10_comes 41 = .ok (.goto (-21), 3) by decide +kernel) (by decide) ?_
    exact h
def V_X10_comes_0 (d : Nat) (S : AS) (F : AF) (G : AG) (Q : AQ) (a1 : Int) (a2 : Int) : Prop :=
  (1 ≤ d) ∧
  ∃ z6 : Int, Pu (d - 1) MX10_isEdge [vR 53, vI a1, vI a2] S F G (some (vI z6)) ∧
  ((z6 = 0) →
    ((0 : Int) ≤ a1) ∧
    ((a1 : Int) < 2) ∧
    ∀ x10 : Int, x10 = G 55 a1 →
    Go d MX10_comes 20 [some (vR 53), some (vI a1), some (vI a2), some (vI x10), some (vI x10), none] [] S F G Q) ∧
  ((¬ z6 = 0) →
    Q none S F G)
theorem R_X10_comes_0 {d : Nat} {S : AS} {F : AF} {G : AG} {Q : AQ} {a1 : Int} {a2 : Int} (hsm : ShM S) (h : V_X10_comes_0 d S F G Q a1 a2) : Go d MX10_comes 0 [some (vR 53), some (vI a1), some (vI a2), none, none, none] [] S F G Q := by
  unfold V_X10_comes_0 at h
  refine go_aload_n (show decode cX10_comes 0 = .ok (.aload_n 0, 1) by decide +kernel) (by rfl) ?_
  refine go_iload_n (show decode cX10_comes 1 = .ok (.iload_n 1, 1) by decide +kernel) (by rfl) ?_
  refine go_iload_n (show decode cX10_comes 2 = .ok (.iload_n 2, 1) by decide +kernel) (by rfl) ?_
  obtain ⟨q1, h⟩ := h
  obtain ⟨z6, p7, h⟩ := h
  refine go_callV (d2 := d - 1) (M2 := MX10_isEdge) (n := 2) (ci := 10) (av := [vI a1, vI a2]) (st := []) (show decode cX10_comes 3 = .ok (.invokevirtual 134, 3) by decide +kernel) ml_X10_134 mt_X10_isEdge min_X10_isEdge mse_X10_isEdge (by decide) (shm_k hsm 53 (by decide) (by decide)) rfl (Nat.le_of_ble_eq_true rfl) (by omega) (ok_mono p7 (fun w2 S3 F4 G5 e9 => ?_))
  obtain ⟨e1, e2, e3, e4⟩ := e9
  subst e1
  replace e2 := e2.symm; subst e2
  replace e3 := e3.symm; subst e3
  replace e4 := e4.symm; subst e4
  show Go d MX10_comes 6 [some (vR 53), some (vI a1), some (vI a2), none, none, none] [vI z6] S F G Q
  obtain ⟨ht, hf⟩ := h
  refine go_ifeq (tgt := 10) (show decode cX10_comes 6 = .ok (.ifCond .eq 4, 3) by decide +kernel) (by decide) (fun hc => ?_) (fun hc => ?_)
  · have h := ht hc
    refine go_aload_n (show decode cX10_comes 10 = .ok (.aload_n 0, 1) by decide +kernel) (by rfl) ?_
    refine go_getRc (show decode cX10_comes 11 = .ok (.getfield 29, 3) by decide +kernel) fl_X10_29 rfl (shm_k hsm 53 (by decide) (by decide)) (v := 55) (shm_r hsm 53 5 (by decide) (by decide)) ?_
    refine go_iload_n (show decode cX10_comes 14 = .ok (.iload_n 1, 1) by decide +kernel) (by rfl) ?_
    obtain ⟨q8, h⟩ := h
    obtain ⟨q9, h⟩ := h
    refine go_iaload (show decode cX10_comes 15 = .ok (.iaload, 1) by decide +kernel) (shm_k hsm 55 (by decide) (by decide)) q8 (lt_n (m := 2) q9 (shm_n hsm 55 (by decide) (by decide))) ?_
    obtain ⟨x10, x10e⟩ : ∃ x10 : Int, x10 = G 55 a1 := ⟨_, rfl⟩
    have h := h x10 x10e
    rw [← x10e]
    refine go_istore_n (show decode cX10_comes 16 = .ok (.istore_n 3, 1) by decide +kernel) (by decide) ?_
    show Go d MX10_comes 17 [some (vR 53), some (vI a1), some (vI a2), some (vI x10), none, none] [] S F G Q
    refine go_iload_n (show decode cX10_comes 17 = .ok (.iload_n 3, 1) by decide +kernel) (by rfl) ?_
    refine go_istore (show decode cX10_comes 18 = .ok (.istore 4, 2) by decide +kernel) (by decide) ?_
    show Go d MX10_comes 20 [some (vR 53), some (vI a1), some (vI a2), some (vI x10), some (vI x10), none] [] S F G Q
    exact h
  · have h := hf hc
    exact go_vret (show decode cX10_comes 9 = .ok (.return_, 1) by decide +kernel) rfl h
def V_X10_parts_85 (d : Nat) (S : AS) (F : AF) (G : AG) (Q : AQ) (a0 : Nat) (a1 : Int) (a2 : Int) (a3 : Int) (a4 : Int) (a5 : Int) (a6 : Int) (a7 : Int) (a8 : Int) (s0 : Int) : Prop :=
  (r32 (a1 + a8)) ∧
  (r32 (a1 + s0)) ∧
  ((0 : Int) ≤ a1 + s0) ∧
  ((a1 + s0 : Int) < (sN S a0 : Int)) ∧
  ((0 : Int) ≤ a1 + a8) ∧
  ((a1 + a8 : Int) < (sN S a0 : Int)) ∧
  ∀ G7 : AG, G7 = gu G a0 (a1 + a8) (G a0 (a1 + s0)) →
  (r32 (a7 + 1)) ∧
  Go d MX10_parts 22 [some (vR a0), some (vI a1), some (vI a2), some (vI a3), some (vI a4), some (vI a5), some (vI a6), some (vI (a7 + 1)), none, none] [] S F G7 Q
theorem R_X10_parts_85 {d : Nat} {S : AS} {F : AF} {G : AG} {Q : AQ} {a0 : Nat} {a1 : Int} {a2 : Int} {a3 : Int} {a4 : Int} {a5 : Int} {a6 : Int} {a7 : Int} {a8 : Int} {s0 : Int} (hsm : ShM S) (hk0 : AtJ S a0) (h : V_X10_parts_85 d S F G Q a0 a1 a2 a3 a4 a5 a6 a7 a8 s0) : Go d MX10_parts 85 [some (vR a0), some (vI a1), some (vI a2), some (vI a3), some (vI a4), some (vI a5), some (vI a6), some (vI a7), some (vI a8), none] [vI s0] S F G Q := by
  unfold V_X10_parts_85 at h
  refine go_istore (show decode cX10_parts 85 = .ok (.istore 9, 2) by decide +kernel) (by decide) ?_
  show Go d MX10_parts 87 [some (vR a0), some (vI a1), some (vI a2), some (vI a3), some (vI a4), some (vI a5), some (vI a6), some (vI a7), some (vI a8), some (vI s0)] [] S F G Q
  refine go_aload_n (show decode cX10_parts 87 = .ok (.aload_n 0, 1) by decide +kernel) (by rfl) ?_
  refine go_iload_n (show decode cX10_parts 88 = .ok (.iload_n 1, 1) by decide +kernel) (by rfl) ?_
  refine go_iload (show decode cX10_parts 89 = .ok (.iload 8, 2) by decide +kernel) (by rfl) ?_
  obtain ⟨q1, h⟩ := h
  refine go_iadd (show decode cX10_parts 91 = .ok (.iadd, 1) by decide +kernel) q1 ?_
  refine go_aload_n (show decode cX10_parts 92 = .ok (.aload_n 0, 1) by decide +kernel) (by rfl) ?_
  refine go_iload_n (show decode cX10_parts 93 = .ok (.iload_n 1, 1) by decide +kernel) (by rfl) ?_
  refine go_iload (show decode cX10_parts 94 = .ok (.iload 9, 2) by decide +kernel) (by rfl) ?_
  obtain ⟨q2, h⟩ := h
  refine go_iadd (show decode cX10_parts 96 = .ok (.iadd, 1) by decide +kernel) q2 ?_
  obtain ⟨q3, h⟩ := h
  obtain ⟨q4, h⟩ := h
  refine go_laload (show decode cX10_parts 97 = .ok (.laload, 1) by decide +kernel) hk0 q3 q4 ?_
  obtain ⟨q5, h⟩ := h
  obtain ⟨q6, h⟩ := h
  refine go_lastore (show decode cX10_parts 98 = .ok (.lastore, 1) by decide +kernel) hk0 q5 q6  ?_
  obtain ⟨G7, G7e⟩ : ∃ G7 : AG, G7 = gu G a0 (a1 + a8) (G a0 (a1 + s0)) := ⟨_, rfl⟩
  have h := h G7 G7e
  rw [← G7e]
  obtain ⟨q8, h⟩ := h
  refine go_iinc (show decode cX10_parts 99 = .ok (.iinc 7 1, 3) by decide +kernel) (by rfl) q8 (by decide) ?_
  show Go d MX10_parts 102 [some (vR a0), some (vI a1), some (vI a2), some (vI a3), some (vI a4), some (vI a5), some (vI a6), some (vI (a7 + 1)), some (vI a8), some (vI s0)] [] S F G7 Q
  refine go_goto (tgt := 22) (show decode cX10_parts 102 = .ok (.goto (-80), 3) by decide +kernel) (by decide) ?_
  refine go_clr 8 ?_
  refine go_clr 9 ?_
  exact h
def V_X10_parts_54 (d : Nat) (S : AS) (F : AF) (G : AG) (Q : AQ) (a0 : Nat) (a1 : Int) (a2 : Int) (a3 : Int) (a4 : Int) (a5 : Int) (a6 : Int) (a7 : Int) (s0 : Int) : Prop :=
  ((¬ a2 = 0) →
    (r32 (a6 - 1)) ∧
    (1 ≤ d) ∧
    ∃ z7 : Int, Pu (d - 1) MX10_slot [vI a5, vI a7, vI (a6 - 1)] S F G (some (vI z7)) ∧
    V_X10_parts_85 d S F G Q a0 a1 a2 a3 a4 a5 a6 a7 s0 z7) ∧
  ((a2 = 0) →
    (r32 (a6 - 1)) ∧
    (1 ≤ d) ∧
    ∃ z15 : Int, Pu (d - 1) MX10_slot [vI a5, vI (a6 - 1), vI a7] S F G (some (vI z15)) ∧
    V_X10_parts_85 d S F G Q a0 a1 a2 a3 a4 a5 a6 a7 s0 z15)
theorem R_X10_parts_54 {d : Nat} {S : AS} {F : AF} {G : AG} {Q : AQ} {a0 : Nat} {a1 : Int} {a2 : Int} {a3 : Int} {a4 : Int} {a5 : Int} {a6 : Int} {a7 : Int} {s0 : Int} (hsm : ShM S) (hk0 : AtJ S a0) (h : V_X10_parts_54 d S F G Q a0 a1 a2 a3 a4 a5 a6 a7 s0) : Go d MX10_parts 54 [some (vR a0), some (vI a1), some (vI a2), some (vI a3), some (vI a4), some (vI a5), some (vI a6), some (vI a7), none, none] [vI s0] S F G Q := by
  unfold V_X10_parts_54 at h
  refine go_istore (show decode cX10_parts 54 = .ok (.istore 8, 2) by decide +kernel) (by decide) ?_
  show Go d MX10_parts 56 [some (vR a0), some (vI a1), some (vI a2), some (vI a3), some (vI a4), some (vI a5), some (vI a6), some (vI a7), some (vI s0), none] [] S F G Q
  refine go_iload_n (show decode cX10_parts 56 = .ok (.iload_n 2, 1) by decide +kernel) (by rfl) ?_
  obtain ⟨ht, hf⟩ := h
  refine go_ifne (tgt := 74) (show decode cX10_parts 57 = .ok (.ifCond .ne 17, 3) by decide +kernel) (by decide) (fun hc => ?_) (fun hc => ?_)
  · have h := ht hc
    refine go_iload (show decode cX10_parts 74 = .ok (.iload 5, 2) by decide +kernel) (by rfl) ?_
    refine go_iload (show decode cX10_parts 76 = .ok (.iload 7, 2) by decide +kernel) (by rfl) ?_
    refine go_iload (show decode cX10_parts 78 = .ok (.iload 6, 2) by decide +kernel) (by rfl) ?_
    refine go_iconst (show decode cX10_parts 80 = .ok (.iconst 1, 1) by decide +kernel) (by decide) ?_
    obtain ⟨q1, h⟩ := h
    refine go_isub (show decode cX10_parts 81 = .ok (.isub, 1) by decide +kernel) q1 ?_
    obtain ⟨q2, h⟩ := h
    obtain ⟨z7, p8, h⟩ := h
    refine go_callS (d2 := d - 1) (M2 := MX10_slot) (n := 3) (av := [vI a5, vI a7, vI (a6 - 1)]) (st := []) (show decode cX10_parts 82 = .ok (.invokestatic 130, 3) by decide +kernel) ml_X10_130 mt_X10_slot mst_X10_slot rfl (Nat.le_of_ble_eq_true rfl) (by omega) (ok_mono p8 (fun w3 S4 F5 G6 e9 => ?_))
    obtain ⟨e1, e2, e3, e4⟩ := e9
    subst e1
    replace e2 := e2.symm; subst e2
    replace e3 := e3.symm; subst e3
    replace e4 := e4.symm; subst e4
    show Go d MX10_parts 85 [some (vR a0), some (vI a1), some (vI a2), some (vI a3), some (vI a4), some (vI a5), some (vI a6), some (vI a7), some (vI s0), none] [vI z7] S F G Q
    exact R_X10_parts_85 hsm hk0 h
  · have h := hf hc
    refine go_iload (show decode cX10_parts 60 = .ok (.iload 5, 2) by decide +kernel) (by rfl) ?_
    refine go_iload (show decode cX10_parts 62 = .ok (.iload 6, 2) by decide +kernel) (by rfl) ?_
    refine go_iconst (show decode cX10_parts 64 = .ok (.iconst 1, 1) by decide +kernel) (by decide) ?_
    obtain ⟨q9, h⟩ := h
    refine go_isub (show decode cX10_parts 65 = .ok (.isub, 1) by decide +kernel) q9 ?_
    refine go_iload (show decode cX10_parts 66 = .ok (.iload 7, 2) by decide +kernel) (by rfl) ?_
    obtain ⟨q10, h⟩ := h
    obtain ⟨z15, p16, h⟩ := h
    refine go_callS (d2 := d - 1) (M2 := MX10_slot) (n := 3) (av := [vI a5, vI (a6 - 1), vI a7]) (st := []) (show decode cX10_parts 68 = .ok (.invokestatic 130, 3) by decide +kernel) ml_X10_130 mt_X10_slot mst_X10_slot rfl (Nat.le_of_ble_eq_true rfl) (by omega) (ok_mono p16 (fun w11 S12 F13 G14 e9 => ?_))
    obtain ⟨e1, e2, e3, e4⟩ := e9
    subst e1
    replace e2 := e2.symm; subst e2
    replace e3 := e3.symm; subst e3
    replace e4 := e4.symm; subst e4
    show Go d MX10_parts 71 [some (vR a0), some (vI a1), some (vI a2), some (vI a3), some (vI a4), some (vI a5), some (vI a6), some (vI a7), some (vI s0), none] [vI z15] S F G Q
    refine go_goto (tgt := 85) (show decode cX10_parts 71 = .ok (.goto 14, 3) by decide +kernel) (by decide) ?_
    exact R_X10_parts_85 hsm hk0 h
def V_X10_parts_22 (d : Nat) (S : AS) (F : AF) (G : AG) (Q : AQ) (a0 : Nat) (a1 : Int) (a2 : Int) (a3 : Int) (a4 : Int) (a5 : Int) (a6 : Int) (a7 : Int) : Prop :=
  ((48 ≤ a7) →
    (r32 (a6 + (-1))) ∧
    Go d MX10_parts 13 [some (vR a0), some (vI a1), some (vI a2), some (vI a3), some (vI a4), some (vI a5), some (vI (a6 + (-1))), none, none, none] [] S F G Q) ∧
  ((¬ 48 ≤ a7) →
    ((¬ a2 = 0) →
      (1 ≤ d) ∧
      ∃ z7 : Int, Pu (d - 1) MX10_slot [vI a5, vI a7, vI a6] S F G (some (vI z7)) ∧
      V_X10_parts_54 d S F G Q a0 a1 a2 a3 a4 a5 a6 a7 z7) ∧
    ((a2 = 0) →
      (1 ≤ d) ∧
      ∃ z14 : Int, Pu (d - 1) MX10_slot [vI a5, vI a6, vI a7] S F G (some (vI z14)) ∧
      V_X10_parts_54 d S F G Q a0 a1 a2 a3 a4 a5 a6 a7 z14))
theorem R_X10_parts_22 {d : Nat} {S : AS} {F : AF} {G : AG} {Q : AQ} {a0 : Nat} {a1 : Int} {a2 : Int} {a3 : Int} {a4 : Int} {a5 : Int} {a6 : Int} {a7 : Int} (hsm : ShM S) (hk0 : AtJ S a0) (h : V_X10_parts_22 d S F G Q a0 a1 a2 a3 a4 a5 a6 a7) : Go d MX10_parts 22 [some (vR a0), some (vI a1), some (vI a2), some (vI a3), some (vI a4), some (vI a5), some (vI a6), some (vI a7), none, none] [] S F G Q := by
  unfold V_X10_parts_22 at h
  refine go_iload (show decode cX10_parts 22 = .ok (.iload 7, 2) by decide +kernel) (by rfl) ?_
  refine go_bipush (show decode cX10_parts 24 = .ok (.bipush 48, 2) by decide +kernel) (by decide) ?_
  obtain ⟨ht, hf⟩ := h
  refine go_icmpge (tgt := 105) (show decode cX10_parts 26 = .ok (.if_icmp .ge 79, 3) by decide +kernel) (by decide) (fun hc => ?_) (fun hc => ?_)
  · have h := ht hc
    obtain ⟨q1, h⟩ := h
    refine go_iinc (show decode cX10_parts 105 = .ok (.iinc 6 (-1), 3) by decide +kernel) (by rfl) q1 (by decide) ?_
    show Go d MX10_parts 108 [some (vR a0), some (vI a1), some (vI a2), some (vI a3), some (vI a4), some (vI a5), some (vI (a6 + (-1))), some (vI a7), none, none] [] S F G Q
    refine go_goto (tgt := 13) (show decode cX10_parts 108 = .ok (.goto (-95), 3) by decide +kernel) (by decide) ?_
    refine go_clr 7 ?_
    exact h
  · have h := hf hc
    refine go_iload_n (show decode cX10_parts 29 = .ok (.iload_n 2, 1) by decide +kernel) (by rfl) ?_
    obtain ⟨ht, hf⟩ := h
    refine go_ifne (tgt := 45) (show decode cX10_parts 30 = .ok (.ifCond .ne 15, 3) by decide +kernel) (by decide) (fun hc => ?_) (fun hc => ?_)
    · have h := ht hc
      refine go_iload (show decode cX10_parts 45 = .ok (.iload 5, 2) by decide +kernel) (by rfl) ?_
      refine go_iload (show decode cX10_parts 47 = .ok (.iload 7, 2) by decide +kernel) (by rfl) ?_
      refine go_iload (show decode cX10_parts 49 = .ok (.iload 6, 2) by decide +kernel) (by rfl) ?_
      obtain ⟨q2, h⟩ := h
      obtain ⟨z7, p8, h⟩ := h
      refine go_callS (d2 := d - 1) (M2 := MX10_slot) (n := 3) (av := [vI a5, vI a7, vI a6]) (st := []) (show decode cX10_parts 51 = .ok (.invokestatic 130, 3) by decide +kernel) ml_X10_130 mt_X10_slot mst_X10_slot rfl (Nat.le_of_ble_eq_true rfl) (by omega) (ok_mono p8 (fun w3 S4 F5 G6 e9 => ?_))
      obtain ⟨e1, e2, e3, e4⟩ := e9
      subst e1
      replace e2 := e2.symm; subst e2
      replace e3 := e3.symm; subst e3
      replace e4 := e4.symm; subst e4
      show Go d MX10_parts 54 [some (vR a0), some (vI a1), some (vI a2), some (vI a3), some (vI a4), some (vI a5), some (vI a6), some (vI a7), none, none] [vI z7] S F G Q
      exact R_X10_parts_54 hsm hk0 h
    · have h := hf hc
      refine go_iload (show decode cX10_parts 33 = .ok (.iload 5, 2) by decide +kernel) (by rfl) ?_
      refine go_iload (show decode cX10_parts 35 = .ok (.iload 6, 2) by decide +kernel) (by rfl) ?_
      refine go_iload (show decode cX10_parts 37 = .ok (.iload 7, 2) by decide +kernel) (by rfl) ?_
      obtain ⟨q9, h⟩ := h
      obtain ⟨z14, p15, h⟩ := h
      refine go_callS (d2 := d - 1) (M2 := MX10_slot) (n := 3) (av := [vI a5, vI a6, vI a7]) (st := []) (show decode cX10_parts 39 = .ok (.invokestatic 130, 3) by decide +kernel) ml_X10_130 mt_X10_slot mst_X10_slot rfl (Nat.le_of_ble_eq_true rfl) (by omega) (ok_mono p15 (fun w10 S11 F12 G13 e9 => ?_))
      obtain ⟨e1, e2, e3, e4⟩ := e9
      subst e1
      replace e2 := e2.symm; subst e2
      replace e3 := e3.symm; subst e3
      replace e4 := e4.symm; subst e4
      show Go d MX10_parts 42 [some (vR a0), some (vI a1), some (vI a2), some (vI a3), some (vI a4), some (vI a5), some (vI a6), some (vI a7), none, none] [vI z14] S F G Q
      refine go_goto (tgt := 54) (show decode cX10_parts 42 = .ok (.goto 12, 3) by decide +kernel) (by decide) ?_
      exact R_X10_parts_54 hsm hk0 h
def V_X10_parts_13 (d : Nat) (S : AS) (F : AF) (G : AG) (Q : AQ) (a0 : Nat) (a1 : Int) (a2 : Int) (a3 : Int) (a4 : Int) (a5 : Int) (a6 : Int) : Prop :=
  ((a6 ≤ a3) →
    (r32 (a5 + 1)) ∧
    Go d MX10_parts 3 [some (vR a0), some (vI a1), some (vI a2), some (vI a3), some (vI a4), some (vI (a5 + 1)), none, none, none, none] [] S F G Q) ∧
  ((¬ a6 ≤ a3) →
    Go d MX10_parts 22 [some (vR a0), some (vI a1), some (vI a2), some (vI a3), some (vI a4), some (vI a5), some (vI a6), some (vI 0), none, none] [] S F G Q)
theorem R_X10_parts_13 {d : Nat} {S : AS} {F : AF} {G : AG} {Q : AQ} {a0 : Nat} {a1 : Int} {a2 : Int} {a3 : Int} {a4 : Int} {a5 : Int} {a6 : Int} (hsm : ShM S) (hk0 : AtJ S a0) (h : V_X10_parts_13 d S F G Q a0 a1 a2 a3 a4 a5 a6) : Go d MX10_parts 13 [some (vR a0), some (vI a1), some (vI a2), some (vI a3), some (vI a4), some (vI a5), some (vI a6), none, none, none] [] S F G Q := by
  unfold V_X10_parts_13 at h
  refine go_iload (show decode cX10_parts 13 = .ok (.iload 6, 2) by decide +kernel) (by rfl) ?_
  refine go_iload_n (show decode cX10_parts 15 = .ok (.iload_n 3, 1) by decide +kernel) (by rfl) ?_
  obtain ⟨ht, hf⟩ := h
  refine go_icmple (tgt := 111) (show decode cX10_parts 16 = .ok (.if_icmp .le 95, 3) by decide +kernel) (by decide) (fun hc => ?_) (fun hc => ?_)
  · have h := ht hc
    obtain ⟨q1, h⟩ := h
    refine go_iinc (show decode cX10_parts 111 = .ok (.iinc 5 1, 3) by decide +kernel) (by rfl) q1 (by decide) ?_
    show Go d MX10_parts 114 [some (vR a0), some (vI a1), some (vI a2), some (vI a3), some (vI a4), some (vI (a5 + 1)), some (vI a6), none, none, none] [] S F G Q
    refine go_goto (tgt := 3) (show decode cX10_parts 114 = .ok (.goto (-111), 3) by decide +kernel) (by decide) ?_
    refine go_clr 6 ?_
    exact h
  · have h := hf hc
    refine go_iconst (show decode cX10_parts 19 = .ok (.iconst 0, 1) by decide +kernel) (by decide) ?_
    refine go_istore (show decode cX10_parts 20 = .ok (.istore 7, 2) by decide +kernel) (by decide) ?_
    show Go d MX10_parts 22 [some (vR a0), some (vI a1), some (vI a2), some (vI a3), some (vI a4), some (vI a5), some (vI a6), some (vI 0), none, none] [] S F G Q
    exact h
def V_X10_parts_3 (d : Nat) (S : AS) (F : AF) (G : AG) (Q : AQ) (a0 : Nat) (a1 : Int) (a2 : Int) (a3 : Int) (a4 : Int) (a5 : Int) : Prop :=
  ((3 ≤ a5) →
    Q none S F G) ∧
  ((¬ 3 ≤ a5) →
    Go d MX10_parts 13 [some (vR a0), some (vI a1), some (vI a2), some (vI a3), some (vI a4), some (vI a5), some (vI a4), none, none, none] [] S F G Q)
theorem R_X10_parts_3 {d : Nat} {S : AS} {F : AF} {G : AG} {Q : AQ} {a0 : Nat} {a1 : Int} {a2 : Int} {a3 : Int} {a4 : Int} {a5 : Int} (hsm : ShM S) (hk0 : AtJ S a0) (h : V_X10_parts_3 d S F G Q a0 a1 a2 a3 a4 a5) : Go d MX10_parts 3 [some (vR a0), some (vI a1), some (vI a2), some (vI a3), some (vI a4), some (vI a5), none, none, none, none] [] S F G Q := by
  unfold V_X10_parts_3 at h
  refine go_iload (show decode cX10_parts 3 = .ok (.iload 5, 2) by decide +kernel) (by rfl) ?_
  refine go_iconst (show decode cX10_parts 5 = .ok (.iconst 3, 1) by decide +kernel) (by decide) ?_
  obtain ⟨ht, hf⟩ := h
  refine go_icmpge (tgt := 117) (show decode cX10_parts 6 = .ok (.if_icmp .ge 111, 3) by decide +kernel) (by decide) (fun hc => ?_) (fun hc => ?_)
  · have h := ht hc
    exact go_vret (show decode cX10_parts 117 = .ok (.return_, 1) by decide +kernel) rfl h
  · have h := hf hc
    refine go_iload (show decode cX10_parts 9 = .ok (.iload 4, 2) by decide +kernel) (by rfl) ?_
    refine go_istore (show decode cX10_parts 11 = .ok (.istore 6, 2) by decide +kernel) (by decide) ?_
    show Go d MX10_parts 13 [some (vR a0), some (vI a1), some (vI a2), some (vI a3), some (vI a4), some (vI a5), some (vI a4), none, none, none] [] S F G Q
    exact h
def V_X10_parts_0 (d : Nat) (S : AS) (F : AF) (G : AG) (Q : AQ) (a0 : Nat) (a1 : Int) (a2 : Int) (a3 : Int) (a4 : Int) : Prop :=
  Go d MX10_parts 3 [some (vR a0), some (vI a1), some (vI a2), some (vI a3), some (vI a4), some (vI 0), none, none, none, none] [] S F G Q
theorem R_X10_parts_0 {d : Nat} {S : AS} {F : AF} {G : AG} {Q : AQ} {a0 : Nat} {a1 : Int} {a2 : Int} {a3 : Int} {a4 : Int} (hsm : ShM S) (hk0 : AtJ S a0) (h : V_X10_parts_0 d S F G Q a0 a1 a2 a3 a4) : Go d MX10_parts 0 [some (vR a0), some (vI a1), some (vI a2), some (vI a3), some (vI a4), none, none, none, none, none] [] S F G Q := by
  unfold V_X10_parts_0 at h
  refine go_iconst (show decode cX10_parts 0 = .ok (.iconst 0, 1) by decide +kernel) (by decide) ?_
  refine go_istore (show decode cX10_parts 1 = .ok (.istore 5, 2) by decide +kernel) (by decide) ?_
  show Go d MX10_parts 3 [some (vR a0), some (vI a1), some (vI a2), some (vI a3), some (vI a4), some (vI 0), none, none, none, none] [] S F G Q
  exact h
def V_X10_tells_53 (d : Nat) (S : AS) (F : AF) (G : AG) (Q : AQ) (a1 : Int) (a2 : Int) (a3 : Int) (a4 : Int) (a5 : Int) (a6 : Int) (a7 : Int) : Prop :=
  (r32 (7 * (F 53 14))) ∧
  ∀ x2 : Int, x2 = 7 * (F 53 14) →
  ((0 : Int) ≤ x2) ∧
  ((x2 : Int) < 280) ∧
  ∀ G5 : AG, G5 = gu G 62 x2 a1 →
  (r32 (x2 + 1)) ∧
  ((0 : Int) ≤ x2 + 1) ∧
  ((x2 + 1 : Int) < 280) ∧
  ∀ G9 : AG, G9 = gu G5 62 (x2 + 1) a2 →
  (r32 (x2 + 2)) ∧
  ((0 : Int) ≤ x2 + 2) ∧
  ((x2 + 2 : Int) < 280) ∧
  ∀ G13 : AG, G13 = gu G9 62 (x2 + 2) a3 →
  (r32 (x2 + 3)) ∧
  ((0 : Int) ≤ x2 + 3) ∧
  ((x2 + 3 : Int) < 280) ∧
  ∀ G17 : AG, G17 = gu G13 62 (x2 + 3) a4 →
  (r32 (x2 + 4)) ∧
  ((0 : Int) ≤ x2 + 4) ∧
  ((x2 + 4 : Int) < 280) ∧
  ∀ G21 : AG, G21 = gu G17 62 (x2 + 4) a5 →
  (r32 (x2 + 5)) ∧
  ((0 : Int) ≤ x2 + 5) ∧
  ((x2 + 5 : Int) < 280) ∧
  ∀ G25 : AG, G25 = gu G21 62 (x2 + 5) a6 →
  (r32 (x2 + 6)) ∧
  ((0 : Int) ≤ x2 + 6) ∧
  ((x2 + 6 : Int) < 280) ∧
  ∀ G29 : AG, G29 = gu G25 62 (x2 + 6) a7 →
  (r32 ((F 53 14) + 1)) ∧
  ∀ F31 : AF, F31 = fu F 53 14 ((F 53 14) + 1) →
  ((F31 53 11 ≤ 0) →
    Q none S F31 G29) ∧
  ((¬ F31 53 11 ≤ 0) →
    (r32 ((F31 53 11) - 1)) ∧
    ((0 : Int) ≤ (F31 53 11) - 1) ∧
    (((F31 53 11) - 1 : Int) < 8) ∧
    (r32 ((G29 61 ((F31 53 11) - 1)) + 1)) ∧
    ∀ G36 : AG, G36 = gu G29 61 ((F31 53 11) - 1) ((G29 61 ((F31 53 11) - 1)) + 1) →
    Q none S F31 G36)
theorem R_X10_tells_53 {d : Nat} {S : AS} {F : AF} {G : AG} {Q : AQ} {a1 : Int} {a2 : Int} {a3 : Int} {a4 : Int} {a5 : Int} {a6 : Int} {a7 : Int} (hsm : ShM S) (h : V_X10_tells_53 d S F G Q a1 a2 a3 a4 a5 a6 a7) : Go d MX10_tells 53 [some (vR 53), some (vI a1), some (vI a2), some (vI a3), some (vI a4), some (vI a5), some (vI a6), some (vJ a7), none, none] [] S F G Q := by
  unfold V_X10_tells_53 at h
  refine go_bipush (show decode cX10_tells 53 = .ok (.bipush 7, 2) by decide +kernel) (by decide) ?_
  refine go_aload_n (show decode cX10_tells 55 = .ok (.aload_n 0, 1) by decide +kernel) (by rfl) ?_
  refine go_getI (show decode cX10_tells 56 = .ok (.getfield 111, 3) by decide +kernel) fl_X10_111 (Or.inl rfl) (shm_k hsm 53 (by decide) (by decide)) ?_
  obtain ⟨q1, h⟩ := h
  refine go_imul (show decode cX10_tells 59 = .ok (.imul, 1) by decide +kernel) q1 ?_
  obtain ⟨x2, x2e⟩ : ∃ x2 : Int, x2 = 7 * (F 53 14) := ⟨_, rfl⟩
  have h := h x2 x2e
  rw [← x2e]
  refine go_istore (show decode cX10_tells 60 = .ok (.istore 9, 2) by decide +kernel) (by decide) ?_
  show Go d MX10_tells 62 [some (vR 53), some (vI a1), some (vI a2), some (vI a3), some (vI a4), some (vI a5), some (vI a6), some (vJ a7), none, some (vI x2)] [] S F G Q
  refine go_aload_n (show decode cX10_tells 62 = .ok (.aload_n 0, 1) by decide +kernel) (by rfl) ?_
  refine go_getRc (show decode cX10_tells 63 = .ok (.getfield 52, 3) by decide +kernel) fl_X10_52 rfl (shm_k hsm 53 (by decide) (by decide)) (v := 62) (shm_r hsm 53 13 (by decide) (by decide)) ?_
  refine go_iload (show decode cX10_tells 66 = .ok (.iload 9, 2) by decide +kernel) (by rfl) ?_
  refine go_iload_n (show decode cX10_tells 68 = .ok (.iload_n 1, 1) by decide +kernel) (by rfl) ?_
  refine go_i2l (show decode cX10_tells 69 = .ok (.i2l, 1) by decide +kernel) ?_
  obtain ⟨q3, h⟩ := h
  obtain ⟨q4, h⟩ := h
  refine go_lastore (show decode cX10_tells 70 = .ok (.lastore, 1) by decide +kernel) (shm_k hsm 62 (by decide) (by decide)) q3 (lt_n (m := 280) q4 (shm_n hsm 62 (by decide) (by decide)))  ?_
  obtain ⟨G5, G5e⟩ : ∃ G5 : AG, G5 = gu G 62 x2 a1 := ⟨_, rfl⟩
  have h := h G5 G5e
  rw [← G5e]
  refine go_aload_n (show decode cX10_tells 71 = .ok (.aload_n 0, 1) by decide +kernel) (by rfl) ?_
  refine go_getRc (show decode cX10_tells 72 = .ok (.getfield 52, 3) by decide +kernel) fl_X10_52 rfl (shm_k hsm 53 (by decide) (by decide)) (v := 62) (shm_r hsm 53 13 (by decide) (by decide)) ?_
  refine go_iload (show decode cX10_tells 75 = .ok (.iload 9, 2) by decide +kernel) (by rfl) ?_
  refine go_iconst (show decode cX10_tells 77 = .ok (.iconst 1, 1) by decide +kernel) (by decide) ?_
  obtain ⟨q6, h⟩ := h
  refine go_iadd (show decode cX10_tells 78 = .ok (.iadd, 1) by decide +kernel) q6 ?_
  refine go_iload_n (show decode cX10_tells 79 = .ok (.iload_n 2, 1) by decide +kernel) (by rfl) ?_
  refine go_i2l (show decode cX10_tells 80 = .ok (.i2l, 1) by decide +kernel) ?_
  obtain ⟨q7, h⟩ := h
  obtain ⟨q8, h⟩ := h
  refine go_lastore (show decode cX10_tells 81 = .ok (.lastore, 1) by decide +kernel) (shm_k hsm 62 (by decide) (by decide)) q7 (lt_n (m := 280) q8 (shm_n hsm 62 (by decide) (by decide)))  ?_
  obtain ⟨G9, G9e⟩ : ∃ G9 : AG, G9 = gu G5 62 (x2 + 1) a2 := ⟨_, rfl⟩
  have h := h G9 G9e
  rw [← G9e]
  refine go_aload_n (show decode cX10_tells 82 = .ok (.aload_n 0, 1) by decide +kernel) (by rfl) ?_
  refine go_getRc (show decode cX10_tells 83 = .ok (.getfield 52, 3) by decide +kernel) fl_X10_52 rfl (shm_k hsm 53 (by decide) (by decide)) (v := 62) (shm_r hsm 53 13 (by decide) (by decide)) ?_
  refine go_iload (show decode cX10_tells 86 = .ok (.iload 9, 2) by decide +kernel) (by rfl) ?_
  refine go_iconst (show decode cX10_tells 88 = .ok (.iconst 2, 1) by decide +kernel) (by decide) ?_
  obtain ⟨q10, h⟩ := h
  refine go_iadd (show decode cX10_tells 89 = .ok (.iadd, 1) by decide +kernel) q10 ?_
  refine go_iload_n (show decode cX10_tells 90 = .ok (.iload_n 3, 1) by decide +kernel) (by rfl) ?_
  refine go_i2l (show decode cX10_tells 91 = .ok (.i2l, 1) by decide +kernel) ?_
  obtain ⟨q11, h⟩ := h
  obtain ⟨q12, h⟩ := h
  refine go_lastore (show decode cX10_tells 92 = .ok (.lastore, 1) by decide +kernel) (shm_k hsm 62 (by decide) (by decide)) q11 (lt_n (m := 280) q12 (shm_n hsm 62 (by decide) (by decide)))  ?_
  obtain ⟨G13, G13e⟩ : ∃ G13 : AG, G13 = gu G9 62 (x2 + 2) a3 := ⟨_, rfl⟩
  have h := h G13 G13e
  rw [← G13e]
  refine go_aload_n (show decode cX10_tells 93 = .ok (.aload_n 0, 1) by decide +kernel) (by rfl) ?_
  refine go_getRc (show decode cX10_tells 94 = .ok (.getfield 52, 3) by decide +kernel) fl_X10_52 rfl (shm_k hsm 53 (by decide) (by decide)) (v := 62) (shm_r hsm 53 13 (by decide) (by decide)) ?_
  refine go_iload (show decode cX10_tells 97 = .ok (.iload 9, 2) by decide +kernel) (by rfl) ?_
  refine go_iconst (show decode cX10_tells 99 = .ok (.iconst 3, 1) by decide +kernel) (by decide) ?_
  obtain ⟨q14, h⟩ := h
  refine go_iadd (show decode cX10_tells 100 = .ok (.iadd, 1) by decide +kernel) q14 ?_
  refine go_iload (show decode cX10_tells 101 = .ok (.iload 4, 2) by decide +kernel) (by rfl) ?_
  refine go_i2l (show decode cX10_tells 103 = .ok (.i2l, 1) by decide +kernel) ?_
  obtain ⟨q15, h⟩ := h
  obtain ⟨q16, h⟩ := h
  refine go_lastore (show decode cX10_tells 104 = .ok (.lastore, 1) by decide +kernel) (shm_k hsm 62 (by decide) (by decide)) q15 (lt_n (m := 280) q16 (shm_n hsm 62 (by decide) (by decide)))  ?_
  obtain ⟨G17, G17e⟩ : ∃ G17 : AG, G17 = gu G13 62 (x2 + 3) a4 := ⟨_, rfl⟩
  have h := h G17 G17e
  rw [← G17e]
  refine go_aload_n (show decode cX10_tells 105 = .ok (.aload_n 0, 1) by decide +kernel) (by rfl) ?_
  refine go_getRc (show decode cX10_tells 106 = .ok (.getfield 52, 3) by decide +kernel) fl_X10_52 rfl (shm_k hsm 53 (by decide) (by decide)) (v := 62) (shm_r hsm 53 13 (by decide) (by decide)) ?_
  refine go_iload (show decode cX10_tells 109 = .ok (.iload 9, 2) by decide +kernel) (by rfl) ?_
  refine go_iconst (show decode cX10_tells 111 = .ok (.iconst 4, 1) by decide +kernel) (by decide) ?_
  obtain ⟨q18, h⟩ := h
  refine go_iadd (show decode cX10_tells 112 = .ok (.iadd, 1) by decide +kernel) q18 ?_
  refine go_iload (show decode cX10_tells 113 = .ok (.iload 5, 2) by decide +kernel) (by rfl) ?_
  refine go_i2l (show decode cX10_tells 115 = .ok (.i2l, 1) by decide +kernel) ?_
  obtain ⟨q19, h⟩ := h
  obtain ⟨q20, h⟩ := h
  refine go_lastore (show decode cX10_tells 116 = .ok (.lastore, 1) by decide +kernel) (shm_k hsm 62 (by decide) (by decide)) q19 (lt_n (m := 280) q20 (shm_n hsm 62 (by decide) (by decide)))  ?_
  obtain ⟨G21, G21e⟩ : ∃ G21 : AG, G21 = gu G17 62 (x2 + 4) a5 := ⟨_, rfl⟩
  have h := h G21 G21e
  rw [← G21e]
  refine go_aload_n (show decode cX10_tells 117 = .ok (.aload_n 0, 1) by decide +kernel) (by rfl) ?_
  refine go_getRc (show decode cX10_tells 118 = .ok (.getfield 52, 3) by decide +kernel) fl_X10_52 rfl (shm_k hsm 53 (by decide) (by decide)) (v := 62) (shm_r hsm 53 13 (by decide) (by decide)) ?_
  refine go_iload (show decode cX10_tells 121 = .ok (.iload 9, 2) by decide +kernel) (by rfl) ?_
  refine go_iconst (show decode cX10_tells 123 = .ok (.iconst 5, 1) by decide +kernel) (by decide) ?_
  obtain ⟨q22, h⟩ := h
  refine go_iadd (show decode cX10_tells 124 = .ok (.iadd, 1) by decide +kernel) q22 ?_
  refine go_iload (show decode cX10_tells 125 = .ok (.iload 6, 2) by decide +kernel) (by rfl) ?_
  refine go_i2l (show decode cX10_tells 127 = .ok (.i2l, 1) by decide +kernel) ?_
  obtain ⟨q23, h⟩ := h
  obtain ⟨q24, h⟩ := h
  refine go_lastore (show decode cX10_tells 128 = .ok (.lastore, 1) by decide +kernel) (shm_k hsm 62 (by decide) (by decide)) q23 (lt_n (m := 280) q24 (shm_n hsm 62 (by decide) (by decide)))  ?_
  obtain ⟨G25, G25e⟩ : ∃ G25 : AG, G25 = gu G21 62 (x2 + 5) a6 := ⟨_, rfl⟩
  have h := h G25 G25e
  rw [← G25e]
  refine go_aload_n (show decode cX10_tells 129 = .ok (.aload_n 0, 1) by decide +kernel) (by rfl) ?_
  refine go_getRc (show decode cX10_tells 130 = .ok (.getfield 52, 3) by decide +kernel) fl_X10_52 rfl (shm_k hsm 53 (by decide) (by decide)) (v := 62) (shm_r hsm 53 13 (by decide) (by decide)) ?_
  refine go_iload (show decode cX10_tells 133 = .ok (.iload 9, 2) by decide +kernel) (by rfl) ?_
  refine go_bipush (show decode cX10_tells 135 = .ok (.bipush 6, 2) by decide +kernel) (by decide) ?_
  obtain ⟨q26, h⟩ := h
  refine go_iadd (show decode cX10_tells 137 = .ok (.iadd, 1) by decide +kernel) q26 ?_
  refine go_lload (show decode cX10_tells 138 = .ok (.lload 7, 2) by decide +kernel) (by rfl) ?_
  obtain ⟨q27, h⟩ := h
  obtain ⟨q28, h⟩ := h
  refine go_lastore (show decode cX10_tells 140 = .ok (.lastore, 1) by decide +kernel) (shm_k hsm 62 (by decide) (by decide)) q27 (lt_n (m := 280) q28 (shm_n hsm 62 (by decide) (by decide)))  ?_
  obtain ⟨G29, G29e⟩ : ∃ G29 : AG, G29 = gu G25 62 (x2 + 6) a7 := ⟨_, rfl⟩
  have h := h G29 G29e
  rw [← G29e]
  refine go_aload_n (show decode cX10_tells 141 = .ok (.aload_n 0, 1) by decide +kernel) (by rfl) ?_
  refine go_dup (show decode cX10_tells 142 = .ok (.dup, 1) by decide +kernel) ?_
  refine go_getI (show decode cX10_tells 143 = .ok (.getfield 111, 3) by decide +kernel) fl_X10_111 (Or.inl rfl) (shm_k hsm 53 (by decide) (by decide)) ?_
  refine go_iconst (show decode cX10_tells 146 = .ok (.iconst 1, 1) by decide +kernel) (by decide) ?_
  obtain ⟨q30, h⟩ := h
  refine go_iadd (show decode cX10_tells 147 = .ok (.iadd, 1) by decide +kernel) q30 ?_
  refine go_putI (show decode cX10_tells 148 = .ok (.putfield 111, 3) by decide +kernel) fl_X10_111 rfl (Or.inl rfl) (shm_k hsm 53 (by decide) (by decide)) ?_
  obtain ⟨F31, F31e⟩ : ∃ F31 : AF, F31 = fu F 53 14 ((F 53 14) + 1) := ⟨_, rfl⟩
  have h := h F31 F31e
  rw [← F31e]
  refine go_aload_n (show decode cX10_tells 151 = .ok (.aload_n 0, 1) by decide +kernel) (by rfl) ?_
  refine go_getI (show decode cX10_tells 152 = .ok (.getfield 108, 3) by decide +kernel) fl_X10_108 (Or.inl rfl) (shm_k hsm 53 (by decide) (by decide)) ?_
  obtain ⟨ht, hf⟩ := h
  refine go_ifle (tgt := 173) (show decode cX10_tells 155 = .ok (.ifCond .le 18, 3) by decide +kernel) (by decide) (fun hc => ?_) (fun hc => ?_)
  · have h := ht hc
    exact go_vret (show decode cX10_tells 173 = .ok (.return_, 1) by decide +kernel) rfl h
  · have h := hf hc
    refine go_aload_n (show decode cX10_tells 158 = .ok (.aload_n 0, 1) by decide +kernel) (by rfl) ?_
    refine go_getRc (show decode cX10_tells 159 = .ok (.getfield 49, 3) by decide +kernel) fl_X10_49 rfl (shm_k hsm 53 (by decide) (by decide)) (v := 61) (shm_r hsm 53 12 (by decide) (by decide)) ?_
    refine go_aload_n (show decode cX10_tells 162 = .ok (.aload_n 0, 1) by decide +kernel) (by rfl) ?_
    refine go_getI (show decode cX10_tells 163 = .ok (.getfield 108, 3) by decide +kernel) fl_X10_108 (Or.inl rfl) (shm_k hsm 53 (by decide) (by decide)) ?_
    refine go_iconst (show decode cX10_tells 166 = .ok (.iconst 1, 1) by decide +kernel) (by decide) ?_
    obtain ⟨q32, h⟩ := h
    refine go_isub (show decode cX10_tells 167 = .ok (.isub, 1) by decide +kernel) q32 ?_
    refine go_dup2 (show decode cX10_tells 168 = .ok (.dup2, 1) by decide +kernel) ?_
    obtain ⟨q33, h⟩ := h
    obtain ⟨q34, h⟩ := h
    refine go_iaload (show decode cX10_tells 169 = .ok (.iaload, 1) by decide +kernel) (shm_k hsm 61 (by decide) (by decide)) q33 (lt_n (m := 8) q34 (shm_n hsm 61 (by decide) (by decide))) ?_
    refine go_iconst (show decode cX10_tells 170 = .ok (.iconst 1, 1) by decide +kernel) (by decide) ?_
    obtain ⟨q35, h⟩ := h
    refine go_iadd (show decode cX10_tells 171 = .ok (.iadd, 1) by decide +kernel) q35 ?_
    refine go_iastore (show decode cX10_tells 172 = .ok (.iastore, 1) by decide +kernel) (shm_k hsm 61 (by decide) (by decide)) q33 (lt_n (m := 8) q34 (shm_n hsm 61 (by decide) (by decide)))  ?_
    obtain ⟨G36, G36e⟩ : ∃ G36 : AG, G36 = gu G29 61 ((F31 53 11) - 1) ((G29 61 ((F31 53 11) - 1)) + 1) := ⟨_, rfl⟩
    have h := h G36 G36e
    rw [← G36e]
    exact go_vret (show decode cX10_tells 173 = .ok (.return_, 1) by decide +kernel) rfl h
def V_X10_tells_12 (d : Nat) (S : AS) (F : AF) (G : AG) (Q : AQ) (a1 : Int) (a2 : Int) (a3 : Int) (a4 : Int) (a5 : Int) (a6 : Int) (a7 : Int) (a9 : Int) : Prop :=
  ((273 ≤ a9) →
    (r32 ((F 53 14) - 1)) ∧
    ∀ F2 : AF, F2 = fu F 53 14 ((F 53 14) - 1) →
    V_X10_tells_53 d S F2 G Q a1 a2 a3 a4 a5 a6 a7) ∧
  ((¬ 273 ≤ a9) →
    (r32 (a9 + 7)) ∧
    ((0 : Int) ≤ a9 + 7) ∧
    ((a9 + 7 : Int) < 280) ∧
    ((0 : Int) ≤ a9) ∧
    ((a9 : Int) < 280) ∧
    ∀ G8 : AG, G8 = gu G 62 a9 (G 62 (a9 + 7)) →
    (r32 (a9 + 1)) ∧
    Go d MX10_tells 12 [some (vR 53), some (vI a1), some (vI a2), some (vI a3), some (vI a4), some (vI a5), some (vI a6), some (vJ a7), none, some (vI (a9 + 1))] [] S F G8 Q)
theorem R_X10_tells_12 {d : Nat} {S : AS} {F : AF} {G : AG} {Q : AQ} {a1 : Int} {a2 : Int} {a3 : Int} {a4 : Int} {a5 : Int} {a6 : Int} {a7 : Int} {a9 : Int} (hsm : ShM S) (h : V_X10_tells_12 d S F G Q a1 a2 a3 a4 a5 a6 a7 a9) : Go d MX10_tells 12 [some (vR 53), some (vI a1), some (vI a2), some (vI a3), some (vI a4), some (vI a5), some (vI a6), some (vJ a7), none, some (vI a9)] [] S F G Q := by
  unfold V_X10_tells_12 at h
  refine go_iload (show decode cX10_tells 12 = .ok (.iload 9, 2) by decide +kernel) (by rfl) ?_
  refine go_sipush (show decode cX10_tells 14 = .ok (.sipush 273, 3) by decide +kernel) (by decide) ?_
  obtain ⟨ht, hf⟩ := h
  refine go_icmpge (tgt := 43) (show decode cX10_tells 17 = .ok (.if_icmp .ge 26, 3) by decide +kernel) (by decide) (fun hc => ?_) (fun hc => ?_)
  · have h := ht hc
    refine go_aload_n (show decode cX10_tells 43 = .ok (.aload_n 0, 1) by decide +kernel) (by rfl) ?_
    refine go_dup (show decode cX10_tells 44 = .ok (.dup, 1) by decide +kernel) ?_
    refine go_getI (show decode cX10_tells 45 = .ok (.getfield 111, 3) by decide +kernel) fl_X10_111 (Or.inl rfl) (shm_k hsm 53 (by decide) (by decide)) ?_
    refine go_iconst (show decode cX10_tells 48 = .ok (.iconst 1, 1) by decide +kernel) (by decide) ?_
    obtain ⟨q1, h⟩ := h
    refine go_isub (show decode cX10_tells 49 = .ok (.isub, 1) by decide +kernel) q1 ?_
    refine go_putI (show decode cX10_tells 50 = .ok (.putfield 111, 3) by decide +kernel) fl_X10_111 rfl (Or.inl rfl) (shm_k hsm 53 (by decide) (by decide)) ?_
    obtain ⟨F2, F2e⟩ : ∃ F2 : AF, F2 = fu F 53 14 ((F 53 14) - 1) := ⟨_, rfl⟩
    have h := h F2 F2e
    rw [← F2e]
    refine go_clr 9 ?_
    exact R_X10_tells_53 hsm h
  · have h := hf hc
    refine go_aload_n (show decode cX10_tells 20 = .ok (.aload_n 0, 1) by decide +kernel) (by rfl) ?_
    refine go_getRc (show decode cX10_tells 21 = .ok (.getfield 52, 3) by decide +kernel) fl_X10_52 rfl (shm_k hsm 53 (by decide) (by decide)) (v := 62) (shm_r hsm 53 13 (by decide) (by decide)) ?_
    refine go_iload (show decode cX10_tells 24 = .ok (.iload 9, 2) by decide +kernel) (by rfl) ?_
    refine go_aload_n (show decode cX10_tells 26 = .ok (.aload_n 0, 1) by decide +kernel) (by rfl) ?_
    refine go_getRc (show decode cX10_tells 27 = .ok (.getfield 52, 3) by decide +kernel) fl_X10_52 rfl (shm_k hsm 53 (by decide) (by decide)) (v := 62) (shm_r hsm 53 13 (by decide) (by decide)) ?_
    refine go_iload (show decode cX10_tells 30 = .ok (.iload 9, 2) by decide +kernel) (by rfl) ?_
    refine go_bipush (show decode cX10_tells 32 = .ok (.bipush 7, 2) by decide +kernel) (by decide) ?_
    obtain ⟨q3, h⟩ := h
    refine go_iadd (show decode cX10_tells 34 = .ok (.iadd, 1) by decide +kernel) q3 ?_
    obtain ⟨q4, h⟩ := h
    obtain ⟨q5, h⟩ := h
    refine go_laload (show decode cX10_tells 35 = .ok (.laload, 1) by decide +kernel) (shm_k hsm 62 (by decide) (by decide)) q4 (lt_n (m := 280) q5 (shm_n hsm 62 (by decide) (by decide))) ?_
    obtain ⟨q6, h⟩ := h
    obtain ⟨q7, h⟩ := h
    refine go_lastore (show decode cX10_tells 36 = .ok (.lastore, 1) by decide +kernel) (shm_k hsm 62 (by decide) (by decide)) q6 (lt_n (m := 280) q7 (shm_n hsm 62 (by decide) (by decide)))  ?_
    obtain ⟨G8, G8e⟩ : ∃ G8 : AG, G8 = gu G 62 a9 (G 62 (a9 + 7)) := ⟨_, rfl⟩
    have h := h G8 G8e
    rw [← G8e]
    obtain ⟨q9, h⟩ := h
    refine go_iinc (show decode cX10_tells 37 = .ok (.iinc 9 1, 3) by decide +kernel) (by rfl) q9 (by decide) ?_
    show Go d MX10_tells 40 [some (vR 53), some (vI a1), some (vI a2), some (vI a3), some (vI a4), some (vI a5), some (vI a6), some (vJ a7), none, some (vI (a9 + 1))] [] S F G8 Q
    refine go_goto (tgt := 12) (show decode cX10_tells 40 = .ok (.goto (-28), 3) by decide +kernel) (by decide) ?_
    exact h
def V_X10_tells_0 (d : Nat) (S : AS) (F : AF) (G : AG) (Q : AQ) (a1 : Int) (a2 : Int) (a3 : Int) (a4 : Int) (a5 : Int) (a6 : Int) (a7 : Int) : Prop :=
  ((¬ F 53 14 = 40) →
    V_X10_tells_53 d S F G Q a1 a2 a3 a4 a5 a6 a7) ∧
  ((F 53 14 = 40) →
    Go d MX10_tells 12 [some (vR 53), some (vI a1), some (vI a2), some (vI a3), some (vI a4), some (vI a5), some (vI a6), some (vJ a7), none, some (vI 0)] [] S F G Q)
theorem R_X10_tells_0 {d : Nat} {S : AS} {F : AF} {G : AG} {Q : AQ} {a1 : Int} {a2 : Int} {a3 : Int} {a4 : Int} {a5 : Int} {a6 : Int} {a7 : Int} (hsm : ShM S) (h : V_X10_tells_0 d S F G Q a1 a2 a3 a4 a5 a6 a7) : Go d MX10_tells 0 [some (vR 53), some (vI a1), some (vI a2), some (vI a3), some (vI a4), some (vI a5), some (vI a6), some (vJ a7), none, none] [] S F G Q := by
  unfold V_X10_tells_0 at h
  refine go_aload_n (show decode cX10_tells 0 = .ok (.aload_n 0, 1) by decide +kernel) (by rfl) ?_
  refine go_getI (show decode cX10_tells 1 = .ok (.getfield 111, 3) by decide +kernel) fl_X10_111 (Or.inl rfl) (shm_k hsm 53 (by decide) (by decide)) ?_
  refine go_bipush (show decode cX10_tells 4 = .ok (.bipush 40, 2) by decide +kernel) (by decide) ?_
  obtain ⟨ht, hf⟩ := h
  refine go_icmpne (tgt := 53) (show decode cX10_tells 6 = .ok (.if_icmp .ne 47, 3) by decide +kernel) (by decide) (fun hc => ?_) (fun hc => ?_)
  · have h := ht hc
    exact R_X10_tells_53 hsm h
  · have h := hf hc
    refine go_iconst (show decode cX10_tells 9 = .ok (.iconst 0, 1) by decide +kernel) (by decide) ?_
    refine go_istore (show decode cX10_tells 10 = .ok (.istore 9, 2) by decide +kernel) (by decide) ?_
    show Go d MX10_tells 12 [some (vR 53), some (vI a1), some (vI a2), some (vI a3), some (vI a4), some (vI a5), some (vI a6), some (vJ a7), none, some (vI 0)] [] S F G Q
    exact h
def V_X10_pick_218 (d : Nat) (S : AS) (F : AF) (G : AG) (Q : AQ) (a1 : Int) (a2 : Int) (a3 : Int) (a4 : Int) (a5 : Int) (a6 : Int) (a8 : Int) (a9 : Int) (a10 : Int) : Prop :=
  (1 ≤ d) ∧
  ∃ z6 : Int, Pu (d - 1) MX10_blockAt [vR 53, vI 0, vI a8] S F G (some (vI z6)) ∧
  ∃ z12 : Int, Pu (d - 1) MX10_blockAt [vR 53, vI 1, vI a9] S F G (some (vI z12)) ∧
  ∃ z18 : Int, Pu (d - 1) MX10_slot [vI a1, vI z6, vI z12] S F G (some (vI z18)) ∧
  ((0 : Int) ≤ z18) ∧
  ((z18 : Int) < 6912) ∧
  (r64 ((G 57 z18) - a10)) ∧
  ∀ G23 : AG, G23 = gu G 57 z18 ((G 57 z18) - a10) →
  ((0 : Int) ≤ a1) ∧
  ((a1 : Int) < 3) ∧
  (r64 ((G23 59 a1) - a6)) ∧
  ∀ G27 : AG, G27 = gu G23 59 a1 ((G23 59 a1) - a6) →
  Ok (d - 1) MX10_tells [vR 53, vI 1, vI a1, vI a2, vI a3, vI a4, vI a5, vJ a6] S F G27 (fun w28 S29 F30 G31 =>
  S29 = S ∧
  w28 = none ∧
  ∃ z36 : Int, Pu (d - 1) MX10_number [vR 53, vI a8, vI a9] S F30 G31 (some (vJ z36)) ∧
  Q (some (vJ z36)) S F30 G31)
theorem R_X10_pick_218 {d : Nat} {S : AS} {F : AF} {G : AG} {Q : AQ} {a1 : Int} {a2 : Int} {a3 : Int} {a4 : Int} {a5 : Int} {a6 : Int} {a8 : Int} {a9 : Int} {a10 : Int} (hsm : ShM S) (h : V_X10_pick_218 d S F G Q a1 a2 a3 a4 a5 a6 a8 a9 a10) : Go d MX10_pick 218 [some (vR 53), some (vI a1), some (vI a2), some (vI a3), some (vI a4), some (vI a5), some (vJ a6), none, some (vI a8), some (vI a9), some (vJ a10), none] [] S F G Q := by
  unfold V_X10_pick_218 at h
  refine go_aload_n (show decode cX10_pick 218 = .ok (.aload_n 0, 1) by decide +kernel) (by rfl) ?_
  refine go_getRc (show decode cX10_pick 219 = .ok (.getfield 35, 3) by decide +kernel) fl_X10_35 rfl (shm_k hsm 53 (by decide) (by decide)) (v := 57) (shm_r hsm 53 7 (by decide) (by decide)) ?_
  refine go_iload_n (show decode cX10_pick 222 = .ok (.iload_n 1, 1) by decide +kernel) (by rfl) ?_
  refine go_aload_n (show decode cX10_pick 223 = .ok (.aload_n 0, 1) by decide +kernel) (by rfl) ?_
  refine go_iconst (show decode cX10_pick 224 = .ok (.iconst 0, 1) by decide +kernel) (by decide) ?_
  refine go_iload (show decode cX10_pick 225 = .ok (.iload 8, 2) by decide +kernel) (by rfl) ?_
  obtain ⟨q1, h⟩ := h
  obtain ⟨z6, p7, h⟩ := h
  refine go_callV (d2 := d - 1) (M2 := MX10_blockAt) (n := 2) (ci := 10) (av := [vI 0, vI a8]) (st := [vI a1, vR 57]) (show decode cX10_pick 227 = .ok (.invokevirtual 265, 3) by decide +kernel) ml_X10_265 mt_X10_blockAt min_X10_blockAt mse_X10_blockAt (by decide) (shm_k hsm 53 (by decide) (by decide)) rfl (Nat.le_of_ble_eq_true rfl) (by omega) (ok_mono p7 (fun w2 S3 F4 G5 e9 => ?_))
  obtain ⟨e1, e2, e3, e4⟩ := e9
  subst e1
  replace e2 := e2.symm; subst e2
  replace e3 := e3.symm; subst e3
  replace e4 := e4.symm; subst e4
  show Go d MX10_pick 230 [some (vR 53), some (vI a1), some (vI a2), some (vI a3), some (vI a4), some (vI a5), some (vJ a6), none, some (vI a8), some (vI a9), some (vJ a10), none] [vI z6, vI a1, vR 57] S F G Q
  refine go_aload_n (show decode cX10_pick 230 = .ok (.aload_n 0, 1) by decide +kernel) (by rfl) ?_
  refine go_iconst (show decode cX10_pick 231 = .ok (.iconst 1, 1) by decide +kernel) (by decide) ?_
  refine go_iload (show decode cX10_pick 232 = .ok (.iload 9, 2) by decide +kernel) (by rfl) ?_
  obtain ⟨z12, p13, h⟩ := h
  refine go_callV (d2 := d - 1) (M2 := MX10_blockAt) (n := 2) (ci := 10) (av := [vI 1, vI a9]) (st := [vI z6, vI a1, vR 57]) (show decode cX10_pick 234 = .ok (.invokevirtual 265, 3) by decide +kernel) ml_X10_265 mt_X10_blockAt min_X10_blockAt mse_X10_blockAt (by decide) (shm_k hsm 53 (by decide) (by decide)) rfl (Nat.le_of_ble_eq_true rfl) (by omega) (ok_mono p13 (fun w8 S9 F10 G11 e9 => ?_))
  obtain ⟨e1, e2, e3, e4⟩ := e9
  subst e1
  replace e2 := e2.symm; subst e2
  replace e3 := e3.symm; subst e3
  replace e4 := e4.symm; subst e4
  show Go d MX10_pick 237 [some (vR 53), some (vI a1), some (vI a2), some (vI a3), some (vI a4), some (vI a5), some (vJ a6), none, some (vI a8), some (vI a9), some (vJ a10), none] [vI z12, vI z6, vI a1, vR 57] S F G Q
  obtain ⟨z18, p19, h⟩ := h
  refine go_callS (d2 := d - 1) (M2 := MX10_slot) (n := 3) (av := [vI a1, vI z6, vI z12]) (st := [vR 57]) (show decode cX10_pick 237 = .ok (.invokestatic 130, 3) by decide +kernel) ml_X10_130 mt_X10_slot mst_X10_slot rfl (Nat.le_of_ble_eq_true rfl) (by omega) (ok_mono p19 (fun w14 S15 F16 G17 e9 => ?_))
  obtain ⟨e1, e2, e3, e4⟩ := e9
  subst e1
  replace e2 := e2.symm; subst e2
  replace e3 := e3.symm; subst e3
  replace e4 := e4.symm; subst e4
  show Go d MX10_pick 240 [some (vR 53), some (vI a1), some (vI a2), some (vI a3), some (vI a4), some (vI a5), some (vJ a6), none, some (vI a8), some (vI a9), some (vJ a10), none] [vI z18, vR 57] S F G Q
  refine go_dup2 (show decode cX10_pick 240 = .ok (.dup2, 1) by decide +kernel) ?_
  obtain ⟨q20, h⟩ := h
  obtain ⟨q21, h⟩ := h
  refine go_laload (show decode cX10_pick 241 = .ok (.laload, 1) by decide +kernel) (shm_k hsm 57 (by decide) (by decide)) q20 (lt_n (m := 6912) q21 (shm_n hsm 57 (by decide) (by decide))) ?_
  refine go_lload (show decode cX10_pick 242 = .ok (.lload 10, 2) by decide +kernel) (by rfl) ?_
  obtain ⟨q22, h⟩ := h
  refine go_lsub (show decode cX10_pick 244 = .ok (.lsub, 1) by decide +kernel) q22 ?_
  refine go_lastore (show decode cX10_pick 245 = .ok (.lastore, 1) by decide +kernel) (shm_k hsm 57 (by decide) (by decide)) q20 (lt_n (m := 6912) q21 (shm_n hsm 57 (by decide) (by decide)))  ?_
  obtain ⟨G23, G23e⟩ : ∃ G23 : AG, G23 = gu G 57 z18 ((G 57 z18) - a10) := ⟨_, rfl⟩
  have h := h G23 G23e
  rw [← G23e]
  refine go_aload_n (show decode cX10_pick 246 = .ok (.aload_n 0, 1) by decide +kernel) (by rfl) ?_
  refine go_getRc (show decode cX10_pick 247 = .ok (.getfield 43, 3) by decide +kernel) fl_X10_43 rfl (shm_k hsm 53 (by decide) (by decide)) (v := 59) (shm_r hsm 53 9 (by decide) (by decide)) ?_
  refine go_iload_n (show decode cX10_pick 250 = .ok (.iload_n 1, 1) by decide +kernel) (by rfl) ?_
  refine go_dup2 (show decode cX10_pick 251 = .ok (.dup2, 1) by decide +kernel) ?_
  obtain ⟨q24, h⟩ := h
  obtain ⟨q25, h⟩ := h
  refine go_laload (show decode cX10_pick 252 = .ok (.laload, 1) by decide +kernel) (shm_k hsm 59 (by decide) (by decide)) q24 (lt_n (m := 3) q25 (shm_n hsm 59 (by decide) (by decide))) ?_
  refine go_lload (show decode cX10_pick 253 = .ok (.lload 6, 2) by decide +kernel) (by rfl) ?_
  obtain ⟨q26, h⟩ := h
  refine go_lsub (show decode cX10_pick 255 = .ok (.lsub, 1) by decide +kernel) q26 ?_
  refine go_lastore (show decode cX10_pick 256 = .ok (.lastore, 1) by decide +kernel) (shm_k hsm 59 (by decide) (by decide)) q24 (lt_n (m := 3) q25 (shm_n hsm 59 (by decide) (by decide)))  ?_
  obtain ⟨G27, G27e⟩ : ∃ G27 : AG, G27 = gu G23 59 a1 ((G23 59 a1) - a6) := ⟨_, rfl⟩
  have h := h G27 G27e
  rw [← G27e]
  refine go_aload_n (show decode cX10_pick 257 = .ok (.aload_n 0, 1) by decide +kernel) (by rfl) ?_
  refine go_iconst (show decode cX10_pick 258 = .ok (.iconst 1, 1) by decide +kernel) (by decide) ?_
  refine go_iload_n (show decode cX10_pick 259 = .ok (.iload_n 1, 1) by decide +kernel) (by rfl) ?_
  refine go_iload_n (show decode cX10_pick 260 = .ok (.iload_n 2, 1) by decide +kernel) (by rfl) ?_
  refine go_iload_n (show decode cX10_pick 261 = .ok (.iload_n 3, 1) by decide +kernel) (by rfl) ?_
  refine go_iload (show decode cX10_pick 262 = .ok (.iload 4, 2) by decide +kernel) (by rfl) ?_
  refine go_iload (show decode cX10_pick 264 = .ok (.iload 5, 2) by decide +kernel) (by rfl) ?_
  refine go_lload (show decode cX10_pick 266 = .ok (.lload 6, 2) by decide +kernel) (by rfl) ?_
  refine go_callV (d2 := d - 1) (M2 := MX10_tells) (n := 7) (ci := 10) (av := [vI 1, vI a1, vI a2, vI a3, vI a4, vI a5, vJ a6]) (st := []) (show decode cX10_pick 268 = .ok (.invokevirtual 213, 3) by decide +kernel) ml_X10_213 mt_X10_tells min_X10_tells mse_X10_tells (by decide) (shm_k hsm 53 (by decide) (by decide)) rfl (Nat.le_of_ble_eq_true rfl) (by omega) (ok_mono h (fun w28 S29 F30 G31 h => ?_))
  obtain ⟨e8, h⟩ := h
  replace e8 := e8.symm; subst e8
  obtain ⟨e9, h⟩ := h
  subst e9
  show Go d MX10_pick 271 [some (vR 53), some (vI a1), some (vI a2), some (vI a3), some (vI a4), some (vI a5), some (vJ a6), none, some (vI a8), some (vI a9), some (vJ a10), none] [] S F30 G31 Q
  refine go_aload_n (show decode cX10_pick 271 = .ok (.aload_n 0, 1) by decide +kernel) (by rfl) ?_
  refine go_iload (show decode cX10_pick 272 = .ok (.iload 8, 2) by decide +kernel) (by rfl) ?_
  refine go_iload (show decode cX10_pick 274 = .ok (.iload 9, 2) by decide +kernel) (by rfl) ?_
  obtain ⟨z36, p37, h⟩ := h
  refine go_callV (d2 := d - 1) (M2 := MX10_number) (n := 2) (ci := 10) (av := [vI a8, vI a9]) (st := []) (show decode cX10_pick 276 = .ok (.invokevirtual 268, 3) by decide +kernel) ml_X10_268 mt_X10_number min_X10_number mse_X10_number (by decide) (shm_k hsm 53 (by decide) (by decide)) rfl (Nat.le_of_ble_eq_true rfl) (by omega) (ok_mono p37 (fun w32 S33 F34 G35 e9 => ?_))
  obtain ⟨e1, e2, e3, e4⟩ := e9
  subst e1
  replace e2 := e2.symm; subst e2
  replace e3 := e3.symm; subst e3
  replace e4 := e4.symm; subst e4
  show Go d MX10_pick 279 [some (vR 53), some (vI a1), some (vI a2), some (vI a3), some (vI a4), some (vI a5), some (vJ a6), none, some (vI a8), some (vI a9), some (vJ a10), none] [vJ z36] S F30 G31 Q
  exact go_lret (show decode cX10_pick 279 = .ok (.lreturn, 1) by decide +kernel) rfl h
def V_X10_pick_198 (d : Nat) (S : AS) (F : AF) (G : AG) (Q : AQ) (a1 : Int) (a2 : Int) (a3 : Int) (a4 : Int) (a5 : Int) (a6 : Int) (a8 : Int) (a9 : Int) (a10 : Int) : Prop :=
  ((a8 ≤ a2) →
    V_X10_pick_218 d S F G Q a1 a2 a3 a4 a5 a6 a8 a9 a10) ∧
  ((¬ a8 ≤ a2) →
    (r32 (a8 - 1)) ∧
    (1 ≤ d) ∧
    Ok (d - 1) MX10_empties [vR 53, vI a1, vI a2, vI a9, vI (a8 - 1), vI a9] S F G (fun w3 S4 F5 G6 =>
    S4 = S ∧
    w3 = none ∧
    V_X10_pick_218 d S F5 G6 Q a1 a2 a3 a4 a5 a6 a8 a9 a10))
theorem R_X10_pick_198 {d : Nat} {S : AS} {F : AF} {G : AG} {Q : AQ} {a1 : Int} {a2 : Int} {a3 : Int} {a4 : Int} {a5 : Int} {a6 : Int} {a8 : Int} {a9 : Int} {a10 : Int} (hsm : ShM S) (h : V_X10_pick_198 d S F G Q a1 a2 a3 a4 a5 a6 a8 a9 a10) : Go d MX10_pick 198 [some (vR 53), some (vI a1), some (vI a2), some (vI a3), some (vI a4), some (vI a5), some (vJ a6), none, some (vI a8), some (vI a9), some (vJ a10), none] [] S F G Q := by
  unfold V_X10_pick_198 at h
  refine go_iload (show decode cX10_pick 198 = .ok (.iload 8, 2) by decide +kernel) (by rfl) ?_
  refine go_iload_n (show decode cX10_pick 200 = .ok (.iload_n 2, 1) by decide +kernel) (by rfl) ?_
  obtain ⟨ht, hf⟩ := h
  refine go_icmple (tgt := 218) (show decode cX10_pick 201 = .ok (.if_icmp .le 17, 3) by decide +kernel) (by decide) (fun hc => ?_) (fun hc => ?_)
  · have h := ht hc
    exact R_X10_pick_218 hsm h
  · have h := hf hc
    refine go_aload_n (show decode cX10_pick 204 = .ok (.aload_n 0, 1) by decide +kernel) (by rfl) ?_
    refine go_iload_n (show decode cX10_pick 205 = .ok (.iload_n 1, 1) by decide +kernel) (by rfl) ?_
    refine go_iload_n (show decode cX10_pick 206 = .ok (.iload_n 2, 1) by decide +kernel) (by rfl) ?_
    refine go_iload (show decode cX10_pick 207 = .ok (.iload 9, 2) by decide +kernel) (by rfl) ?_
    refine go_iload (show decode cX10_pick 209 = .ok (.iload 8, 2) by decide +kernel) (by rfl) ?_
    refine go_iconst (show decode cX10_pick 211 = .ok (.iconst 1, 1) by decide +kernel) (by decide) ?_
    obtain ⟨q1, h⟩ := h
    refine go_isub (show decode cX10_pick 212 = .ok (.isub, 1) by decide +kernel) q1 ?_
    refine go_iload (show decode cX10_pick 213 = .ok (.iload 9, 2) by decide +kernel) (by rfl) ?_
    obtain ⟨q2, h⟩ := h
    refine go_callV (d2 := d - 1) (M2 := MX10_empties) (n := 5) (ci := 10) (av := [vI a1, vI a2, vI a9, vI (a8 - 1), vI a9]) (st := []) (show decode cX10_pick 215 = .ok (.invokevirtual 261, 3) by decide +kernel) ml_X10_261 mt_X10_empties min_X10_empties mse_X10_empties (by decide) (shm_k hsm 53 (by decide) (by decide)) rfl (Nat.le_of_ble_eq_true rfl) (by omega) (ok_mono h (fun w3 S4 F5 G6 h => ?_))
    obtain ⟨e8, h⟩ := h
    replace e8 := e8.symm; subst e8
    obtain ⟨e9, h⟩ := h
    subst e9
    show Go d MX10_pick 218 [some (vR 53), some (vI a1), some (vI a2), some (vI a3), some (vI a4), some (vI a5), some (vJ a6), none, some (vI a8), some (vI a9), some (vJ a10), none] [] S F5 G6 Q
    exact R_X10_pick_218 hsm h
def V_X10_pick_0 (d : Nat) (S : AS) (F : AF) (G : AG) (Q : AQ) (a1 : Int) (a2 : Int) (a3 : Int) (a4 : Int) (a5 : Int) (a6 : Int) : Prop :=
  ∀ F1 : AF, F1 = fu F 53 0 0 →
  (1 ≤ d) ∧
  ∃ z7 : Int, Pu (d - 1) MX10_isGood [vI a1] S F1 G (some (vI z7)) ∧
  ((z7 = 0) →
    Q (some (vJ (-2))) S F1 G) ∧
  ((¬ z7 = 0) →
    ∃ z13 : Int, Pu (d - 1) MX10_isRectangle [vR 53, vI a2, vI a3, vI a4, vI a5] S F1 G (some (vI z13)) ∧
    ((¬ z13 = 0) →
      ∃ z19 : Int, Pu (d - 1) MX10_isIn [vJ a6, vJ 1, vJ 3000000000000000000] S F1 G (some (vI z19)) ∧
      ((¬ z19 = 0) →
        Ok (d - 1) MX10_finds [vR 53, vI a1, vI a2, vI a3, vI a4, vI a5, vJ a6] S F1 G (fun w21 S22 F23 G24 =>
        S22 = S ∧
        ∃ z25 : Int, w21 = some (vI z25) ∧
        ((¬ z25 = 0) →
          ∀ x26 : Int, x26 = F23 53 21 →
          ∀ x27 : Int, x27 = F23 53 22 →
          ∀ x28 : Int, x28 = F23 53 23 →
          Ok (d - 1) MX10_hasRoom [vR 53, vI 0, vI a2, vI a4, vI x26] S F23 G24 (fun w29 S30 F31 G32 =>
          S30 = S ∧
          ∃ z33 : Int, w29 = some (vI z33) ∧
          ((z33 = 0) →
            Q (some (vJ (-4))) S F31 G32) ∧
          ((¬ z33 = 0) →
            Ok (d - 1) MX10_hasRoom [vR 53, vI 1, vI a3, vI a5, vI x27] S F31 G32 (fun w34 S35 F36 G37 =>
            S35 = S ∧
            ∃ z38 : Int, w34 = some (vI z38) ∧
            ((¬ z38 = 0) →
              Ok (d - 1) MX10_acts [vR 53] S F36 G37 (fun w39 S40 F41 G42 =>
              S40 = S ∧
              w39 = none ∧
              Ok (d - 1) MX10_comes [vR 53, vI 0, vI a2] S F41 G42 (fun w43 S44 F45 G46 =>
              S44 = S ∧
              w43 = none ∧
              (r32 (a4 + 1)) ∧
              Ok (d - 1) MX10_comes [vR 53, vI 0, vI (a4 + 1)] S F45 G46 (fun w48 S49 F50 G51 =>
              S49 = S ∧
              w48 = none ∧
              Ok (d - 1) MX10_comes [vR 53, vI 0, vI x26] S F50 G51 (fun w52 S53 F54 G55 =>
              S53 = S ∧
              w52 = none ∧
              (r32 (x26 + 1)) ∧
              Ok (d - 1) MX10_comes [vR 53, vI 0, vI (x26 + 1)] S F54 G55 (fun w57 S58 F59 G60 =>
              S58 = S ∧
              w57 = none ∧
              Ok (d - 1) MX10_comes [vR 53, vI 1, vI a3] S F59 G60 (fun w61 S62 F63 G64 =>
              S62 = S ∧
              w61 = none ∧
              (r32 (a5 + 1)) ∧
              Ok (d - 1) MX10_comes [vR 53, vI 1, vI (a5 + 1)] S F63 G64 (fun w66 S67 F68 G69 =>
              S67 = S ∧
              w66 = none ∧
              Ok (d - 1) MX10_comes [vR 53, vI 1, vI x27] S F68 G69 (fun w70 S71 F72 G73 =>
              S71 = S ∧
              w70 = none ∧
              (r32 (x27 + 1)) ∧
              Ok (d - 1) MX10_comes [vR 53, vI 1, vI (x27 + 1)] S F72 G73 (fun w75 S76 F77 G78 =>
              S76 = S ∧
              w75 = none ∧
              ((x27 ≤ a3) →
                V_X10_pick_198 d S F77 G78 Q a1 a2 a3 a4 a5 a6 x26 x27 x28) ∧
              ((¬ x27 ≤ a3) →
                (r32 (x27 - 1)) ∧
                Ok (d - 1) MX10_empties [vR 53, vI a1, vI a2, vI a3, vI a4, vI (x27 - 1)] S F77 G78 (fun w80 S81 F82 G83 =>
                S81 = S ∧
                w80 = none ∧
                V_X10_pick_198 d S F82 G83 Q a1 a2 a3 a4 a5 a6 x26 x27 x28)))))))))))) ∧
            ((z38 = 0) →
              Q (some (vJ (-4))) S F36 G37))))) ∧
        ((z25 = 0) →
          Q (some (vJ (-5))) S F23 G24))) ∧
      ((z19 = 0) →
        Q (some (vJ (-3))) S F1 G)) ∧
    ((z13 = 0) →
      Q (some (vJ (-2))) S F1 G))
theorem R_X10_pick_0 {d : Nat} {S : AS} {F : AF} {G : AG} {Q : AQ} {a1 : Int} {a2 : Int} {a3 : Int} {a4 : Int} {a5 : Int} {a6 : Int} (hsm : ShM S) (h : V_X10_pick_0 d S F G Q a1 a2 a3 a4 a5 a6) : Go d MX10_pick 0 [some (vR 53), some (vI a1), some (vI a2), some (vI a3), some (vI a4), some (vI a5), some (vJ a6), none, none, none, none, none] [] S F G Q := by
  unfold V_X10_pick_0 at h
  refine go_aload_n (show decode cX10_pick 0 = .ok (.aload_n 0, 1) by decide +kernel) (by rfl) ?_
  refine go_iconst (show decode cX10_pick 1 = .ok (.iconst 0, 1) by decide +kernel) (by decide) ?_
  refine go_putI (show decode cX10_pick 2 = .ok (.putfield 1, 3) by decide +kernel) fl_X10_1 rfl (Or.inl rfl) (shm_k hsm 53 (by decide) (by decide)) ?_
  obtain ⟨F1, F1e⟩ : ∃ F1 : AF, F1 = fu F 53 0 0 := ⟨_, rfl⟩
  have h := h F1 F1e
  rw [← F1e]
  refine go_iload_n (show decode cX10_pick 5 = .ok (.iload_n 1, 1) by decide +kernel) (by rfl) ?_
  obtain ⟨q2, h⟩ := h
  obtain ⟨z7, p8, h⟩ := h
  refine go_callS (d2 := d - 1) (M2 := MX10_isGood) (n := 1) (av := [vI a1]) (st := []) (show decode cX10_pick 6 = .ok (.invokestatic 167, 3) by decide +kernel) ml_X10_167 mt_X10_isGood mst_X10_isGood rfl (Nat.le_of_ble_eq_true rfl) (by omega) (ok_mono p8 (fun w3 S4 F5 G6 e9 => ?_))
  obtain ⟨e1, e2, e3, e4⟩ := e9
  subst e1
  replace e2 := e2.symm; subst e2
  replace e3 := e3.symm; subst e3
  replace e4 := e4.symm; subst e4
  show Go d MX10_pick 9 [some (vR 53), some (vI a1), some (vI a2), some (vI a3), some (vI a4), some (vI a5), some (vJ a6), none, none, none, none, none] [vI z7] S F1 G Q
  obtain ⟨ht, hf⟩ := h
  refine go_ifeq (tgt := 25) (show decode cX10_pick 9 = .ok (.ifCond .eq 16, 3) by decide +kernel) (by decide) (fun hc => ?_) (fun hc => ?_)
  · have h := ht hc
    refine go_ldc2 (show decode cX10_pick 25 = .ok (.ldc2_w 174, 3) by decide +kernel) lc_X10_174 (by decide) ?_
    exact go_lret (show decode cX10_pick 28 = .ok (.lreturn, 1) by decide +kernel) rfl h
  · have h := hf hc
    refine go_aload_n (show decode cX10_pick 12 = .ok (.aload_n 0, 1) by decide +kernel) (by rfl) ?_
    refine go_iload_n (show decode cX10_pick 13 = .ok (.iload_n 2, 1) by decide +kernel) (by rfl) ?_
    refine go_iload_n (show decode cX10_pick 14 = .ok (.iload_n 3, 1) by decide +kernel) (by rfl) ?_
    refine go_iload (show decode cX10_pick 15 = .ok (.iload 4, 2) by decide +kernel) (by rfl) ?_
    refine go_iload (show decode cX10_pick 17 = .ok (.iload 5, 2) by decide +kernel) (by rfl) ?_
    obtain ⟨z13, p14, h⟩ := h
    refine go_callV (d2 := d - 1) (M2 := MX10_isRectangle) (n := 4) (ci := 10) (av := [vI a2, vI a3, vI a4, vI a5]) (st := []) (show decode cX10_pick 19 = .ok (.invokevirtual 170, 3) by decide +kernel) ml_X10_170 mt_X10_isRectangle min_X10_isRectangle mse_X10_isRectangle (by decide) (shm_k hsm 53 (by decide) (by decide)) rfl (Nat.le_of_ble_eq_true rfl) (by omega) (ok_mono p14 (fun w9 S10 F11 G12 e9 => ?_))
    obtain ⟨e1, e2, e3, e4⟩ := e9
    subst e1
    replace e2 := e2.symm; subst e2
    replace e3 := e3.symm; subst e3
    replace e4 := e4.symm; subst e4
    show Go d MX10_pick 22 [some (vR 53), some (vI a1), some (vI a2), some (vI a3), some (vI a4), some (vI a5), some (vJ a6), none, none, none, none, none] [vI z13] S F1 G Q
    obtain ⟨ht, hf⟩ := h
    refine go_ifne (tgt := 29) (show decode cX10_pick 22 = .ok (.ifCond .ne 7, 3) by decide +kernel) (by decide) (fun hc => ?_) (fun hc => ?_)
    · have h := ht hc
      refine go_lload (show decode cX10_pick 29 = .ok (.lload 6, 2) by decide +kernel) (by rfl) ?_
      refine go_lconst (n := 1) (show decode cX10_pick 31 = .ok (.lconst 1, 1) by decide +kernel) ?_
      show Go d MX10_pick 32 [some (vR 53), some (vI a1), some (vI a2), some (vI a3), some (vI a4), some (vI a5), some (vJ a6), none, none, none, none, none] [vJ 1, vJ a6] S F1 G Q
      refine go_ldc2 (show decode cX10_pick 32 = .ok (.ldc2_w 198, 3) by decide +kernel) lc_X10_198 (by decide) ?_
      obtain ⟨z19, p20, h⟩ := h
      refine go_callS (d2 := d - 1) (M2 := MX10_isIn) (n := 3) (av := [vJ a6, vJ 1, vJ 3000000000000000000]) (st := []) (show decode cX10_pick 35 = .ok (.invokestatic 116, 3) by decide +kernel) ml_X10_116 mt_X10_isIn mst_X10_isIn rfl (Nat.le_of_ble_eq_true rfl) (by omega) (ok_mono p20 (fun w15 S16 F17 G18 e9 => ?_))
      obtain ⟨e1, e2, e3, e4⟩ := e9
      subst e1
      replace e2 := e2.symm; subst e2
      replace e3 := e3.symm; subst e3
      replace e4 := e4.symm; subst e4
      show Go d MX10_pick 38 [some (vR 53), some (vI a1), some (vI a2), some (vI a3), some (vI a4), some (vI a5), some (vJ a6), none, none, none, none, none] [vI z19] S F1 G Q
      obtain ⟨ht, hf⟩ := h
      refine go_ifne (tgt := 45) (show decode cX10_pick 38 = .ok (.ifCond .ne 7, 3) by decide +kernel) (by decide) (fun hc => ?_) (fun hc => ?_)
      · have h := ht hc
        refine go_aload_n (show decode cX10_pick 45 = .ok (.aload_n 0, 1) by decide +kernel) (by rfl) ?_
        refine go_iload_n (show decode cX10_pick 46 = .ok (.iload_n 1, 1) by decide +kernel) (by rfl) ?_
        refine go_iload_n (show decode cX10_pick 47 = .ok (.iload_n 2, 1) by decide +kernel) (by rfl) ?_
        refine go_iload_n (show decode cX10_pick 48 = .ok (.iload_n 3, 1) by decide +kernel) (by rfl) ?_
        refine go_iload (show decode cX10_pick 49 = .ok (.iload 4, 2) by decide +kernel) (by rfl) ?_
        refine go_iload (show decode cX10_pick 51 = .ok (.iload 5, 2) by decide +kernel) (by rfl) ?_
        refine go_lload (show decode cX10_pick 53 = .ok (.lload 6, 2) by decide +kernel) (by rfl) ?_
        refine go_callV (d2 := d - 1) (M2 := MX10_finds) (n := 6) (ci := 10) (av := [vI a1, vI a2, vI a3, vI a4, vI a5, vJ a6]) (st := []) (show decode cX10_pick 55 = .ok (.invokevirtual 255, 3) by decide +kernel) ml_X10_255 mt_X10_finds min_X10_finds mse_X10_finds (by decide) (shm_k hsm 53 (by decide) (by decide)) rfl (Nat.le_of_ble_eq_true rfl) (by omega) (ok_mono h (fun w21 S22 F23 G24 h => ?_))
        obtain ⟨e8, h⟩ := h
        replace e8 := e8.symm; subst e8
        obtain ⟨z25, e9, h⟩ := h
        subst e9
        show Go d MX10_pick 58 [some (vR 53), some (vI a1), some (vI a2), some (vI a3), some (vI a4), some (vI a5), some (vJ a6), none, none, none, none, none] [vI z25] S F23 G24 Q
        obtain ⟨ht, hf⟩ := h
        refine go_ifne (tgt := 65) (show decode cX10_pick 58 = .ok (.ifCond .ne 7, 3) by decide +kernel) (by decide) (fun hc => ?_) (fun hc => ?_)
        · have h := ht hc
          refine go_aload_n (show decode cX10_pick 65 = .ok (.aload_n 0, 1) by decide +kernel) (by rfl) ?_
          refine go_getI (show decode cX10_pick 66 = .ok (.getfield 224, 3) by decide +kernel) fl_X10_224 (Or.inl rfl) (shm_k hsm 53 (by decide) (by decide)) ?_
          obtain ⟨x26, x26e⟩ : ∃ x26 : Int, x26 = F23 53 21 := ⟨_, rfl⟩
          have h := h x26 x26e
          rw [← x26e]
          refine go_istore (show decode cX10_pick 69 = .ok (.istore 8, 2) by decide +kernel) (by decide) ?_
          show Go d MX10_pick 71 [some (vR 53), some (vI a1), some (vI a2), some (vI a3), some (vI a4), some (vI a5), some (vJ a6), none, some (vI x26), none, none, none] [] S F23 G24 Q
          refine go_aload_n (show decode cX10_pick 71 = .ok (.aload_n 0, 1) by decide +kernel) (by rfl) ?_
          refine go_getI (show decode cX10_pick 72 = .ok (.getfield 221, 3) by decide +kernel) fl_X10_221 (Or.inl rfl) (shm_k hsm 53 (by decide) (by decide)) ?_
          obtain ⟨x27, x27e⟩ : ∃ x27 : Int, x27 = F23 53 22 := ⟨_, rfl⟩
          have h := h x27 x27e
          rw [← x27e]
          refine go_istore (show decode cX10_pick 75 = .ok (.istore 9, 2) by decide +kernel) (by decide) ?_
          show Go d MX10_pick 77 [some (vR 53), some (vI a1), some (vI a2), some (vI a3), some (vI a4), some (vI a5), some (vJ a6), none, some (vI x26), some (vI x27), none, none] [] S F23 G24 Q
          refine go_aload_n (show decode cX10_pick 77 = .ok (.aload_n 0, 1) by decide +kernel) (by rfl) ?_
          refine go_getJ (show decode cX10_pick 78 = .ok (.getfield 227, 3) by decide +kernel) fl_X10_227 rfl (shm_k hsm 53 (by decide) (by decide)) ?_
          obtain ⟨x28, x28e⟩ : ∃ x28 : Int, x28 = F23 53 23 := ⟨_, rfl⟩
          have h := h x28 x28e
          rw [← x28e]
          refine go_lstore (show decode cX10_pick 81 = .ok (.lstore 10, 2) by decide +kernel) (by decide) ?_
          show Go d MX10_pick 83 [some (vR 53), some (vI a1), some (vI a2), some (vI a3), some (vI a4), some (vI a5), some (vJ a6), none, some (vI x26), some (vI x27), some (vJ x28), none] [] S F23 G24 Q
          refine go_aload_n (show decode cX10_pick 83 = .ok (.aload_n 0, 1) by decide +kernel) (by rfl) ?_
          refine go_iconst (show decode cX10_pick 84 = .ok (.iconst 0, 1) by decide +kernel) (by decide) ?_
          refine go_iload_n (show decode cX10_pick 85 = .ok (.iload_n 2, 1) by decide +kernel) (by rfl) ?_
          refine go_iload (show decode cX10_pick 86 = .ok (.iload 4, 2) by decide +kernel) (by rfl) ?_
          refine go_iload (show decode cX10_pick 88 = .ok (.iload 8, 2) by decide +kernel) (by rfl) ?_
          refine go_callV (d2 := d - 1) (M2 := MX10_hasRoom) (n := 4) (ci := 10) (av := [vI 0, vI a2, vI a4, vI x26]) (st := []) (show decode cX10_pick 90 = .ok (.invokevirtual 202, 3) by decide +kernel) ml_X10_202 mt_X10_hasRoom min_X10_hasRoom mse_X10_hasRoom (by decide) (shm_k hsm 53 (by decide) (by decide)) rfl (Nat.le_of_ble_eq_true rfl) (by omega) (ok_mono h (fun w29 S30 F31 G32 h => ?_))
          obtain ⟨e8, h⟩ := h
          replace e8 := e8.symm; subst e8
          obtain ⟨z33, e9, h⟩ := h
          subst e9
          show Go d MX10_pick 93 [some (vR 53), some (vI a1), some (vI a2), some (vI a3), some (vI a4), some (vI a5), some (vJ a6), none, some (vI x26), some (vI x27), some (vJ x28), none] [vI z33] S F31 G32 Q
          obtain ⟨ht, hf⟩ := h
          refine go_ifeq (tgt := 109) (show decode cX10_pick 93 = .ok (.ifCond .eq 16, 3) by decide +kernel) (by decide) (fun hc => ?_) (fun hc => ?_)
          · have h := ht hc
            refine go_ldc2 (show decode cX10_pick 109 = .ok (.ldc2_w 205, 3) by decide +kernel) lc_X10_205 (by decide) ?_
            exact go_lret (show decode cX10_pick 112 = .ok (.lreturn, 1) by decide +kernel) rfl h
          · have h := hf hc
            refine go_aload_n (show decode cX10_pick 96 = .ok (.aload_n 0, 1) by decide +kernel) (by rfl) ?_
            refine go_iconst (show decode cX10_pick 97 = .ok (.iconst 1, 1) by decide +kernel) (by decide) ?_
            refine go_iload_n (show decode cX10_pick 98 = .ok (.iload_n 3, 1) by decide +kernel) (by rfl) ?_
            refine go_iload (show decode cX10_pick 99 = .ok (.iload 5, 2) by decide +kernel) (by rfl) ?_
            refine go_iload (show decode cX10_pick 101 = .ok (.iload 9, 2) by decide +kernel) (by rfl) ?_
            refine go_callV (d2 := d - 1) (M2 := MX10_hasRoom) (n := 4) (ci := 10) (av := [vI 1, vI a3, vI a5, vI x27]) (st := []) (show decode cX10_pick 103 = .ok (.invokevirtual 202, 3) by decide +kernel) ml_X10_202 mt_X10_hasRoom min_X10_hasRoom mse_X10_hasRoom (by decide) (shm_k hsm 53 (by decide) (by decide)) rfl (Nat.le_of_ble_eq_true rfl) (by omega) (ok_mono h (fun w34 S35 F36 G37 h => ?_))
            obtain ⟨e8, h⟩ := h
            replace e8 := e8.symm; subst e8
            obtain ⟨z38, e9, h⟩ := h
            subst e9
            show Go d MX10_pick 106 [some (vR 53), some (vI a1), some (vI a2), some (vI a3), some (vI a4), some (vI a5), some (vJ a6), none, some (vI x26), some (vI x27), some (vJ x28), none] [vI z38] S F36 G37 Q
            obtain ⟨ht, hf⟩ := h
            refine go_ifne (tgt := 113) (show decode cX10_pick 106 = .ok (.ifCond .ne 7, 3) by decide +kernel) (by decide) (fun hc => ?_) (fun hc => ?_)
            · have h := ht hc
              refine go_aload_n (show decode cX10_pick 113 = .ok (.aload_n 0, 1) by decide +kernel) (by rfl) ?_
              refine go_callV (d2 := d - 1) (M2 := MX10_acts) (n := 0) (ci := 10) (av := []) (st := []) (show decode cX10_pick 114 = .ok (.invokevirtual 207, 3) by decide +kernel) ml_X10_207 mt_X10_acts min_X10_acts mse_X10_acts (by decide) (shm_k hsm 53 (by decide) (by decide)) rfl (Nat.le_of_ble_eq_true rfl) (by omega) (ok_mono h (fun w39 S40 F41 G42 h => ?_))
              obtain ⟨e8, h⟩ := h
              replace e8 := e8.symm; subst e8
              obtain ⟨e9, h⟩ := h
              subst e9
              show Go d MX10_pick 117 [some (vR 53), some (vI a1), some (vI a2), some (vI a3), some (vI a4), some (vI a5), some (vJ a6), none, some (vI x26), some (vI x27), some (vJ x28), none] [] S F41 G42 Q
              refine go_aload_n (show decode cX10_pick 117 = .ok (.aload_n 0, 1) by decide +kernel) (by rfl) ?_
              refine go_iconst (show decode cX10_pick 118 = .ok (.iconst 0, 1) by decide +kernel) (by decide) ?_
              refine go_iload_n (show decode cX10_pick 119 = .ok (.iload_n 2, 1) by decide +kernel) (by rfl) ?_
              refine go_callV (d2 := d - 1) (M2 := MX10_comes) (n := 2) (ci := 10) (av := [vI 0, vI a2]) (st := []) (show decode cX10_pick 120 = .ok (.invokevirtual 210, 3) by decide +kernel) ml_X10_210 mt_X10_comes min_X10_comes mse_X10_comes (by decide) (shm_k hsm 53 (by decide) (by decide)) rfl (Nat.le_of_ble_eq_true rfl) (by omega) (ok_mono h (fun w43 S44 F45 G46 h => ?_))
              obtain ⟨e8, h⟩ := h
              replace e8 := e8.symm; subst e8
              obtain ⟨e9, h⟩ := h
              subst e9
              show Go d MX10_pick 123 [some (vR 53), some (vI a1), some (vI a2), some (vI a3), some (vI a4), some (vI a5), some (vJ a6), none, some (vI x26), some (vI x27), some (vJ x28), none] [] S F45 G46 Q
              refine go_aload_n (show decode cX10_pick 123 = .ok (.aload_n 0, 1) by decide +kernel) (by rfl) ?_
              refine go_iconst (show decode cX10_pick 124 = .ok (.iconst 0, 1) by decide +kernel) (by decide) ?_
              refine go_iload (show decode cX10_pick 125 = .ok (.iload 4, 2) by decide +kernel) (by rfl) ?_
              refine go_iconst (show decode cX10_pick 127 = .ok (.iconst 1, 1) by decide +kernel) (by decide) ?_
              obtain ⟨q47, h⟩ := h
              refine go_iadd (show decode cX10_pick 128 = .ok (.iadd, 1) by decide +kernel) q47 ?_
              refine go_callV (d2 := d - 1) (M2 := MX10_comes) (n := 2) (ci := 10) (av := [vI 0, vI (a4 + 1)]) (st := []) (show decode cX10_pick 129 = .ok (.invokevirtual 210, 3) by decide +kernel) ml_X10_210 mt_X10_comes min_X10_comes mse_X10_comes (by decide) (shm_k hsm 53 (by decide) (by decide)) rfl (Nat.le_of_ble_eq_true rfl) (by omega) (ok_mono h (fun w48 S49 F50 G51 h => ?_))
              obtain ⟨e8, h⟩ := h
              replace e8 := e8.symm; subst e8
              obtain ⟨e9, h⟩ := h
              subst e9
              show Go d MX10_pick 132 [some (vR 53), some (vI a1), some (vI a2), some (vI a3), some (vI a4), some (vI a5), some (vJ a6), none, some (vI x26), some (vI x27), some (vJ x28), none] [] S F50 G51 Q
              refine go_aload_n (show decode cX10_pick 132 = .ok (.aload_n 0, 1) by decide +kernel) (by rfl) ?_
              refine go_iconst (show decode cX10_pick 133 = .ok (.iconst 0, 1) by decide +kernel) (by decide) ?_
              refine go_iload (show decode cX10_pick 134 = .ok (.iload 8, 2) by decide +kernel) (by rfl) ?_
              refine go_callV (d2 := d - 1) (M2 := MX10_comes) (n := 2) (ci := 10) (av := [vI 0, vI x26]) (st := []) (show decode cX10_pick 136 = .ok (.invokevirtual 210, 3) by decide +kernel) ml_X10_210 mt_X10_comes min_X10_comes mse_X10_comes (by decide) (shm_k hsm 53 (by decide) (by decide)) rfl (Nat.le_of_ble_eq_true rfl) (by omega) (ok_mono h (fun w52 S53 F54 G55 h => ?_))
              obtain ⟨e8, h⟩ := h
              replace e8 := e8.symm; subst e8
              obtain ⟨e9, h⟩ := h
              subst e9
              show Go d MX10_pick 139 [some (vR 53), some (vI a1), some (vI a2), some (vI a3), some (vI a4), some (vI a5), some (vJ a6), none, some (vI x26), some (vI x27), some (vJ x28), none] [] S F54 G55 Q
              refine go_aload_n (show decode cX10_pick 139 = .ok (.aload_n 0, 1) by decide +kernel) (by rfl) ?_
              refine go_iconst (show decode cX10_pick 140 = .ok (.iconst 0, 1) by decide +kernel) (by decide) ?_
              refine go_iload (show decode cX10_pick 141 = .ok (.iload 8, 2) by decide +kernel) (by rfl) ?_
              refine go_iconst (show decode cX10_pick 143 = .ok (.iconst 1, 1) by decide +kernel) (by decide) ?_
              obtain ⟨q56, h⟩ := h
              refine go_iadd (show decode cX10_pick 144 = .ok (.iadd, 1) by decide +kernel) q56 ?_
              refine go_callV (d2 := d - 1) (M2 := MX10_comes) (n := 2) (ci := 10) (av := [vI 0, vI (x26 + 1)]) (st := []) (show decode cX10_pick 145 = .ok (.invokevirtual 210, 3) by decide +kernel) ml_X10_210 mt_X10_comes min_X10_comes mse_X10_comes (by decide) (shm_k hsm 53 (by decide) (by decide)) rfl (Nat.le_of_ble_eq_true rfl) (by omega) (ok_mono h (fun w57 S58 F59 G60 h => ?_))
              obtain ⟨e8, h⟩ := h
              replace e8 := e8.symm; subst e8
              obtain ⟨e9, h⟩ := h
              subst e9
              show Go d MX10_pick 148 [some (vR 53), some (vI a1), some (vI a2), some (vI a3), some (vI a4), some (vI a5), some (vJ a6), none, some (vI x26), some (vI x27), some (vJ x28), none] [] S F59 G60 Q
              refine go_aload_n (show decode cX10_pick 148 = .ok (.aload_n 0, 1) by decide +kernel) (by rfl) ?_
              refine go_iconst (show decode cX10_pick 149 = .ok (.iconst 1, 1) by decide +kernel) (by decide) ?_
              refine go_iload_n (show decode cX10_pick 150 = .ok (.iload_n 3, 1) by decide +kernel) (by rfl) ?_
              refine go_callV (d2 := d - 1) (M2 := MX10_comes) (n := 2) (ci := 10) (av := [vI 1, vI a3]) (st := []) (show decode cX10_pick 151 = .ok (.invokevirtual 210, 3) by decide +kernel) ml_X10_210 mt_X10_comes min_X10_comes mse_X10_comes (by decide) (shm_k hsm 53 (by decide) (by decide)) rfl (Nat.le_of_ble_eq_true rfl) (by omega) (ok_mono h (fun w61 S62 F63 G64 h => ?_))
              obtain ⟨e8, h⟩ := h
              replace e8 := e8.symm; subst e8
              obtain ⟨e9, h⟩ := h
              subst e9
              show Go d MX10_pick 154 [some (vR 53), some (vI a1), some (vI a2), some (vI a3), some (vI a4), some (vI a5), some (vJ a6), none, some (vI x26), some (vI x27), some (vJ x28), none] [] S F63 G64 Q
              refine go_aload_n (show decode cX10_pick 154 = .ok (.aload_n 0, 1) by decide +kernel) (by rfl) ?_
              refine go_iconst (show decode cX10_pick 155 = .ok (.iconst 1, 1) by decide +kernel) (by decide) ?_
              refine go_iload (show decode cX10_pick 156 = .ok (.iload 5, 2) by decide +kernel) (by rfl) ?_
              refine go_iconst (show decode cX10_pick 158 = .ok (.iconst 1, 1) by decide +kernel) (by decide) ?_
              obtain ⟨q65, h⟩ := h
              refine go_iadd (show decode cX10_pick 159 = .ok (.iadd, 1) by decide +kernel) q65 ?_
              refine go_callV (d2 := d - 1) (M2 := MX10_comes) (n := 2) (ci := 10) (av := [vI 1, vI (a5 + 1)]) (st := []) (show decode cX10_pick 160 = .ok (.invokevirtual 210, 3) by decide +kernel) ml_X10_210 mt_X10_comes min_X10_comes mse_X10_comes (by decide) (shm_k hsm 53 (by decide) (by decide)) rfl (Nat.le_of_ble_eq_true rfl) (by omega) (ok_mono h (fun w66 S67 F68 G69 h => ?_))
              obtain ⟨e8, h⟩ := h
              replace e8 := e8.symm; subst e8
              obtain ⟨e9, h⟩ := h
              subst e9
              show Go d MX10_pick 163 [some (vR 53), some (vI a1), some (vI a2), some (vI a3), some (vI a4), some (vI a5), some (vJ a6), none, some (vI x26), some (vI x27), some (vJ x28), none] [] S F68 G69 Q
              refine go_aload_n (show decode cX10_pick 163 = .ok (.aload_n 0, 1) by decide +kernel) (by rfl) ?_
              refine go_iconst (show decode cX10_pick 164 = .ok (.iconst 1, 1) by decide +kernel) (by decide) ?_
              refine go_iload (show decode cX10_pick 165 = .ok (.iload 9, 2) by decide +kernel) (by rfl) ?_
              refine go_callV (d2 := d - 1) (M2 := MX10_comes) (n := 2) (ci := 10) (av := [vI 1, vI x27]) (st := []) (show decode cX10_pick 167 = .ok (.invokevirtual 210, 3) by decide +kernel) ml_X10_210 mt_X10_comes min_X10_comes mse_X10_comes (by decide) (shm_k hsm 53 (by decide) (by decide)) rfl (Nat.le_of_ble_eq_true rfl) (by omega) (ok_mono h (fun w70 S71 F72 G73 h => ?_))
              obtain ⟨e8, h⟩ := h
              replace e8 := e8.symm; subst e8
              obtain ⟨e9, h⟩ := h
              subst e9
              show Go d MX10_pick 170 [some (vR 53), some (vI a1), some (vI a2), some (vI a3), some (vI a4), some (vI a5), some (vJ a6), none, some (vI x26), some (vI x27), some (vJ x28), none] [] S F72 G73 Q
              refine go_aload_n (show decode cX10_pick 170 = .ok (.aload_n 0, 1) by decide +kernel) (by rfl) ?_
              refine go_iconst (show decode cX10_pick 171 = .ok (.iconst 1, 1) by decide +kernel) (by decide) ?_
              refine go_iload (show decode cX10_pick 172 = .ok (.iload 9, 2) by decide +kernel) (by rfl) ?_
              refine go_iconst (show decode cX10_pick 174 = .ok (.iconst 1, 1) by decide +kernel) (by decide) ?_
              obtain ⟨q74, h⟩ := h
              refine go_iadd (show decode cX10_pick 175 = .ok (.iadd, 1) by decide +kernel) q74 ?_
              refine go_callV (d2 := d - 1) (M2 := MX10_comes) (n := 2) (ci := 10) (av := [vI 1, vI (x27 + 1)]) (st := []) (show decode cX10_pick 176 = .ok (.invokevirtual 210, 3) by decide +kernel) ml_X10_210 mt_X10_comes min_X10_comes mse_X10_comes (by decide) (shm_k hsm 53 (by decide) (by decide)) rfl (Nat.le_of_ble_eq_true rfl) (by omega) (ok_mono h (fun w75 S76 F77 G78 h => ?_))
              obtain ⟨e8, h⟩ := h
              replace e8 := e8.symm; subst e8
              obtain ⟨e9, h⟩ := h
              subst e9
              show Go d MX10_pick 179 [some (vR 53), some (vI a1), some (vI a2), some (vI a3), some (vI a4), some (vI a5), some (vJ a6), none, some (vI x26), some (vI x27), some (vJ x28), none] [] S F77 G78 Q
              refine go_iload (show decode cX10_pick 179 = .ok (.iload 9, 2) by decide +kernel) (by rfl) ?_
              refine go_iload_n (show decode cX10_pick 181 = .ok (.iload_n 3, 1) by decide +kernel) (by rfl) ?_
              obtain ⟨ht, hf⟩ := h
              refine go_icmple (tgt := 198) (show decode cX10_pick 182 = .ok (.if_icmp .le 16, 3) by decide +kernel) (by decide) (fun hc => ?_) (fun hc => ?_)
              · have h := ht hc
                exact R_X10_pick_198 hsm h
              · have h := hf hc
                refine go_aload_n (show decode cX10_pick 185 = .ok (.aload_n 0, 1) by decide +kernel) (by rfl) ?_
                refine go_iload_n (show decode cX10_pick 186 = .ok (.iload_n 1, 1) by decide +kernel) (by rfl) ?_
                refine go_iload_n (show decode cX10_pick 187 = .ok (.iload_n 2, 1) by decide +kernel) (by rfl) ?_
                refine go_iload_n (show decode cX10_pick 188 = .ok (.iload_n 3, 1) by decide +kernel) (by rfl) ?_
                refine go_iload (show decode cX10_pick 189 = .ok (.iload 4, 2) by decide +kernel) (by rfl) ?_
                refine go_iload (show decode cX10_pick 191 = .ok (.iload 9, 2) by decide +kernel) (by rfl) ?_
                refine go_iconst (show decode cX10_pick 193 = .ok (.iconst 1, 1) by decide +kernel) (by decide) ?_
                obtain ⟨q79, h⟩ := h
                refine go_isub (show decode cX10_pick 194 = .ok (.isub, 1) by decide +kernel) q79 ?_
                refine go_callV (d2 := d - 1) (M2 := MX10_empties) (n := 5) (ci := 10) (av := [vI a1, vI a2, vI a3, vI a4, vI (x27 - 1)]) (st := []) (show decode cX10_pick 195 = .ok (.invokevirtual 261, 3) by decide +kernel) ml_X10_261 mt_X10_empties min_X10_empties mse_X10_empties (by decide) (shm_k hsm 53 (by decide) (by decide)) rfl (Nat.le_of_ble_eq_true rfl) (by omega) (ok_mono h (fun w80 S81 F82 G83 h => ?_))
                obtain ⟨e8, h⟩ := h
                replace e8 := e8.symm; subst e8
                obtain ⟨e9, h⟩ := h
                subst e9
                show Go d MX10_pick 198 [some (vR 53), some (vI a1), some (vI a2), some (vI a3), some (vI a4), some (vI a5), some (vJ a6), none, some (vI x26), some (vI x27), some (vJ x28), none] [] S F82 G83 Q
                exact R_X10_pick_198 hsm h
            · have h := hf hc
              refine go_ldc2 (show decode cX10_pick 109 = .ok (.ldc2_w 205, 3) by decide +kernel) lc_X10_205 (by decide) ?_
              exact go_lret (show decode cX10_pick 112 = .ok (.lreturn, 1) by decide +kernel) rfl h
        · have h := hf hc
          refine go_ldc2 (show decode cX10_pick 61 = .ok (.ldc2_w 259, 3) by decide +kernel) lc_X10_259 (by decide) ?_
          exact go_lret (show decode cX10_pick 64 = .ok (.lreturn, 1) by decide +kernel) rfl h
      · have h := hf hc
        refine go_ldc2 (show decode cX10_pick 41 = .ok (.ldc2_w 120, 3) by decide +kernel) lc_X10_120 (by decide) ?_
        exact go_lret (show decode cX10_pick 44 = .ok (.lreturn, 1) by decide +kernel) rfl h
    · have h := hf hc
      refine go_ldc2 (show decode cX10_pick 25 = .ok (.ldc2_w 174, 3) by decide +kernel) lc_X10_174 (by decide) ?_
      exact go_lret (show decode cX10_pick 28 = .ok (.lreturn, 1) by decide +kernel) rfl h
def V_X10_finds_230 (d : Nat) (S : AS) (F : AF) (G : AG) (Q : AQ) (a1 : Int) (a2 : Int) (a3 : Int) (a4 : Int) (a5 : Int) (a6 : Int) (a8 : Int) (a10 : Int) (a11 : Int) (a12 : Int) (a14 : Int) (a16 : Int) (a17 : Int) (s0 : Int) (s1 : Int) : Prop :=
  (r32 (s1 + s0)) ∧
  ∀ F2 : AF, F2 = fu F 53 21 (s1 + s0) →
  (r64 (a8 - 1)) ∧
  (¬ a17 = 0) ∧
  (r64 (Int.tdiv (a8 - 1) a17)) ∧
  (r64 (Int.tmod (a8 - 1) a17)) ∧
  (r64 ((Int.tmod (a8 - 1) a17) + 1)) ∧
  ∀ F8 : AF, F8 = fu F2 53 23 ((Int.tmod (a8 - 1) a17) + 1) →
  Q (some (vI 1)) S F8 G
theorem R_X10_finds_230 {d : Nat} {S : AS} {F : AF} {G : AG} {Q : AQ} {a1 : Int} {a2 : Int} {a3 : Int} {a4 : Int} {a5 : Int} {a6 : Int} {a8 : Int} {a10 : Int} {a11 : Int} {a12 : Int} {a14 : Int} {a16 : Int} {a17 : Int} {s0 : Int} {s1 : Int} (hsm : ShM S) (h : V_X10_finds_230 d S F G Q a1 a2 a3 a4 a5 a6 a8 a10 a11 a12 a14 a16 a17 s0 s1) : Go d MX10_finds 230 [some (vR 53), some (vI a1), some (vI a2), some (vI a3), some (vI a4), some (vI a5), some (vJ a6), none, some (vJ a8), none, some (vI a10), some (vI a11), some (vJ a12), none, some (vJ a14), none, some (vI a16), some (vJ a17), none] [vI s0, vI s1, vR 53] S F G Q := by
  unfold V_X10_finds_230 at h
  obtain ⟨q1, h⟩ := h
  refine go_iadd (show decode cX10_finds 230 = .ok (.iadd, 1) by decide +kernel) q1 ?_
  refine go_putI (show decode cX10_finds 231 = .ok (.putfield 224, 3) by decide +kernel) fl_X10_224 rfl (Or.inl rfl) (shm_k hsm 53 (by decide) (by decide)) ?_
  obtain ⟨F2, F2e⟩ : ∃ F2 : AF, F2 = fu F 53 21 (s1 + s0) := ⟨_, rfl⟩
  have h := h F2 F2e
  rw [← F2e]
  refine go_aload_n (show decode cX10_finds 234 = .ok (.aload_n 0, 1) by decide +kernel) (by rfl) ?_
  refine go_lload (show decode cX10_finds 235 = .ok (.lload 8, 2) by decide +kernel) (by rfl) ?_
  refine go_lconst (n := 1) (show decode cX10_finds 237 = .ok (.lconst 1, 1) by decide +kernel) ?_
  show Go d MX10_finds 238 [some (vR 53), some (vI a1), some (vI a2), some (vI a3), some (vI a4), some (vI a5), some (vJ a6), none, some (vJ a8), none, some (vI a10), some (vI a11), some (vJ a12), none, some (vJ a14), none, some (vI a16), some (vJ a17), none] [vJ 1, vJ a8, vR 53] S F2 G Q
  obtain ⟨q3, h⟩ := h
  refine go_lsub (show decode cX10_finds 238 = .ok (.lsub, 1) by decide +kernel) q3 ?_
  refine go_lload (show decode cX10_finds 239 = .ok (.lload 17, 2) by decide +kernel) (by rfl) ?_
  obtain ⟨q4, h⟩ := h
  obtain ⟨q5, h⟩ := h
  obtain ⟨q6, h⟩ := h
  refine go_lrem (show decode cX10_finds 241 = .ok (.lrem, 1) by decide +kernel) q4 q5 q6 ?_
  refine go_lconst (n := 1) (show decode cX10_finds 242 = .ok (.lconst 1, 1) by decide +kernel) ?_
  show Go d MX10_finds 243 [some (vR 53), some (vI a1), some (vI a2), some (vI a3), some (vI a4), some (vI a5), some (vJ a6), none, some (vJ a8), none, some (vI a10), some (vI a11), some (vJ a12), none, some (vJ a14), none, some (vI a16), some (vJ a17), none] [vJ 1, vJ (Int.tmod (a8 - 1) a17), vR 53] S F2 G Q
  obtain ⟨q7, h⟩ := h
  refine go_ladd (show decode cX10_finds 243 = .ok (.ladd, 1) by decide +kernel) q7 ?_
  refine go_putJ (show decode cX10_finds 244 = .ok (.putfield 227, 3) by decide +kernel) fl_X10_227 rfl (Or.inl rfl) (shm_k hsm 53 (by decide) (by decide)) ?_
  obtain ⟨F8, F8e⟩ : ∃ F8 : AF, F8 = fu F2 53 23 ((Int.tmod (a8 - 1) a17) + 1) := ⟨_, rfl⟩
  have h := h F8 F8e
  rw [← F8e]
  refine go_iconst (show decode cX10_finds 247 = .ok (.iconst 1, 1) by decide +kernel) (by decide) ?_
  exact go_zret (show decode cX10_finds 248 = .ok (.ireturn, 1) by decide +kernel) rfl (by decide) h
def V_X10_finds_129 (d : Nat) (S : AS) (F : AF) (G : AG) (Q : AQ) (a1 : Int) (a2 : Int) (a3 : Int) (a4 : Int) (a5 : Int) (a6 : Int) (a8 : Int) (a10 : Int) (a11 : Int) (a12 : Int) (a14 : Int) (a16 : Int) : Prop :=
  (1 ≤ d) ∧
  ∃ z6 : Int, Pu (d - 1) MX10_in [vR 53, vI a1, vI a16, vI a10] S F G (some (vJ z6)) ∧
  ∃ z12 : Int, Pu (d - 1) MX10_part [vR 53, vI 0, vI a16, vI a2, vI a4] S F G (some (vI z12)) ∧
  (r64 (z6 * z12)) ∧
  ((a8 ≤ z6 * z12) →
    ∃ z19 : Int, Pu (d - 1) MX10_in [vR 53, vI a1, vI a16, vI a10] S F G (some (vJ z19)) ∧
    (r64 (a8 - 1)) ∧
    (¬ z19 = 0) ∧
    (r64 (Int.tdiv (a8 - 1) z19)) ∧
    (r32 (Int.tdiv (a8 - 1) z19)) ∧
    ∃ z29 : Int, Pu (d - 1) MX10_edgeAt [vR 53, vI 0, vI a16] S F G (some (vI z29)) ∧
    ((z29 ≤ a2) →
      V_X10_finds_230 d S F G Q a1 a2 a3 a4 a5 a6 a8 a10 a11 a12 a14 a16 z19 a2 (Int.tdiv (a8 - 1) z19)) ∧
    ((¬ z29 ≤ a2) →
      ∃ z35 : Int, Pu (d - 1) MX10_edgeAt [vR 53, vI 0, vI a16] S F G (some (vI z35)) ∧
      V_X10_finds_230 d S F G Q a1 a2 a3 a4 a5 a6 a8 a10 a11 a12 a14 a16 z19 z35 (Int.tdiv (a8 - 1) z19))) ∧
  ((¬ a8 ≤ z6 * z12) →
    ∃ z41 : Int, Pu (d - 1) MX10_in [vR 53, vI a1, vI a16, vI a10] S F G (some (vJ z41)) ∧
    ∃ z47 : Int, Pu (d - 1) MX10_part [vR 53, vI 0, vI a16, vI a2, vI a4] S F G (some (vI z47)) ∧
    (r64 (z41 * z47)) ∧
    (r64 (a8 - (z41 * z47))) ∧
    ∀ x51 : Int, x51 = a8 - (z41 * z47) →
    (r32 (a16 + 1)) ∧
    Go d MX10_finds 129 [some (vR 53), some (vI a1), some (vI a2), some (vI a3), some (vI a4), some (vI a5), some (vJ a6), none, some (vJ x51), none, some (vI a10), some (vI a11), some (vJ a12), none, some (vJ a14), none, some (vI (a16 + 1)), none, none] [] S F G Q)
theorem R_X10_finds_129 {d : Nat} {S : AS} {F : AF} {G : AG} {Q : AQ} {a1 : Int} {a2 : Int} {a3 : Int} {a4 : Int} {a5 : Int} {a6 : Int} {a8 : Int} {a10 : Int} {a11 : Int} {a12 : Int} {a14 : Int} {a16 : Int} (hsm : ShM S) (h : V_X10_finds_129 d S F G Q a1 a2 a3 a4 a5 a6 a8 a10 a11 a12 a14 a16) : Go d MX10_finds 129 [some (vR 53), some (vI a1), some (vI a2), some (vI a3), some (vI a4), some (vI a5), some (vJ a6), none, some (vJ a8), none, some (vI a10), some (vI a11), some (vJ a12), none, some (vJ a14), none, some (vI a16), none, none] [] S F G Q := by
  unfold V_X10_finds_129 at h
  refine go_aload_n (show decode cX10_finds 129 = .ok (.aload_n 0, 1) by decide +kernel) (by rfl) ?_
  refine go_iload_n (show decode cX10_finds 130 = .ok (.iload_n 1, 1) by decide +kernel) (by rfl) ?_
  refine go_iload (show decode cX10_finds 131 = .ok (.iload 16, 2) by decide +kernel) (by rfl) ?_
  refine go_iload (show decode cX10_finds 133 = .ok (.iload 10, 2) by decide +kernel) (by rfl) ?_
  obtain ⟨q1, h⟩ := h
  obtain ⟨z6, p7, h⟩ := h
  refine go_callV (d2 := d - 1) (M2 := MX10_in) (n := 3) (ci := 10) (av := [vI a1, vI a16, vI a10]) (st := []) (show decode cX10_finds 135 = .ok (.invokevirtual 163, 3) by decide +kernel) ml_X10_163 mt_X10_in min_X10_in mse_X10_in (by decide) (shm_k hsm 53 (by decide) (by decide)) rfl (Nat.le_of_ble_eq_true rfl) (by omega) (ok_mono p7 (fun w2 S3 F4 G5 e9 => ?_))
  obtain ⟨e1, e2, e3, e4⟩ := e9
  subst e1
  replace e2 := e2.symm; subst e2
  replace e3 := e3.symm; subst e3
  replace e4 := e4.symm; subst e4
  show Go d MX10_finds 138 [some (vR 53), some (vI a1), some (vI a2), some (vI a3), some (vI a4), some (vI a5), some (vJ a6), none, some (vJ a8), none, some (vI a10), some (vI a11), some (vJ a12), none, some (vJ a14), none, some (vI a16), none, none] [vJ z6] S F G Q
  refine go_aload_n (show decode cX10_finds 138 = .ok (.aload_n 0, 1) by decide +kernel) (by rfl) ?_
  refine go_iconst (show decode cX10_finds 139 = .ok (.iconst 0, 1) by decide +kernel) (by decide) ?_
  refine go_iload (show decode cX10_finds 140 = .ok (.iload 16, 2) by decide +kernel) (by rfl) ?_
  refine go_iload_n (show decode cX10_finds 142 = .ok (.iload_n 2, 1) by decide +kernel) (by rfl) ?_
  refine go_iload (show decode cX10_finds 143 = .ok (.iload 4, 2) by decide +kernel) (by rfl) ?_
  obtain ⟨z12, p13, h⟩ := h
  refine go_callV (d2 := d - 1) (M2 := MX10_part) (n := 4) (ci := 10) (av := [vI 0, vI a16, vI a2, vI a4]) (st := [vJ z6]) (show decode cX10_finds 145 = .ok (.invokevirtual 159, 3) by decide +kernel) ml_X10_159 mt_X10_part min_X10_part mse_X10_part (by decide) (shm_k hsm 53 (by decide) (by decide)) rfl (Nat.le_of_ble_eq_true rfl) (by omega) (ok_mono p13 (fun w8 S9 F10 G11 e9 => ?_))
  obtain ⟨e1, e2, e3, e4⟩ := e9
  subst e1
  replace e2 := e2.symm; subst e2
  replace e3 := e3.symm; subst e3
  replace e4 := e4.symm; subst e4
  show Go d MX10_finds 148 [some (vR 53), some (vI a1), some (vI a2), some (vI a3), some (vI a4), some (vI a5), some (vJ a6), none, some (vJ a8), none, some (vI a10), some (vI a11), some (vJ a12), none, some (vJ a14), none, some (vI a16), none, none] [vI z12, vJ z6] S F G Q
  refine go_i2l (show decode cX10_finds 148 = .ok (.i2l, 1) by decide +kernel) ?_
  obtain ⟨q14, h⟩ := h
  refine go_lmul (show decode cX10_finds 149 = .ok (.lmul, 1) by decide +kernel) q14 ?_
  refine go_lload (show decode cX10_finds 150 = .ok (.lload 8, 2) by decide +kernel) (by rfl) ?_
  obtain ⟨ht, hf⟩ := h
  refine go_jge (tgt := 188) (show decode cX10_finds 152 = .ok (.lcmp, 1) by decide +kernel) (show decode cX10_finds 153 = .ok (.ifCond .ge 35, 3) by decide +kernel) (by decide) (fun hc => ?_) (fun hc => ?_)
  · have h := ht hc
    refine go_aload_n (show decode cX10_finds 188 = .ok (.aload_n 0, 1) by decide +kernel) (by rfl) ?_
    refine go_iload_n (show decode cX10_finds 189 = .ok (.iload_n 1, 1) by decide +kernel) (by rfl) ?_
    refine go_iload (show decode cX10_finds 190 = .ok (.iload 16, 2) by decide +kernel) (by rfl) ?_
    refine go_iload (show decode cX10_finds 192 = .ok (.iload 10, 2) by decide +kernel) (by rfl) ?_
    obtain ⟨z19, p20, h⟩ := h
    refine go_callV (d2 := d - 1) (M2 := MX10_in) (n := 3) (ci := 10) (av := [vI a1, vI a16, vI a10]) (st := []) (show decode cX10_finds 194 = .ok (.invokevirtual 163, 3) by decide +kernel) ml_X10_163 mt_X10_in min_X10_in mse_X10_in (by decide) (shm_k hsm 53 (by decide) (by decide)) rfl (Nat.le_of_ble_eq_true rfl) (by omega) (ok_mono p20 (fun w15 S16 F17 G18 e9 => ?_))
    obtain ⟨e1, e2, e3, e4⟩ := e9
    subst e1
    replace e2 := e2.symm; subst e2
    replace e3 := e3.symm; subst e3
    replace e4 := e4.symm; subst e4
    show Go d MX10_finds 197 [some (vR 53), some (vI a1), some (vI a2), some (vI a3), some (vI a4), some (vI a5), some (vJ a6), none, some (vJ a8), none, some (vI a10), some (vI a11), some (vJ a12), none, some (vJ a14), none, some (vI a16), none, none] [vJ z19] S F G Q
    refine go_lstore (show decode cX10_finds 197 = .ok (.lstore 17, 2) by decide +kernel) (by decide) ?_
    show Go d MX10_finds 199 [some (vR 53), some (vI a1), some (vI a2), some (vI a3), some (vI a4), some (vI a5), some (vJ a6), none, some (vJ a8), none, some (vI a10), some (vI a11), some (vJ a12), none, some (vJ a14), none, some (vI a16), some (vJ z19), none] [] S F G Q
    refine go_aload_n (show decode cX10_finds 199 = .ok (.aload_n 0, 1) by decide +kernel) (by rfl) ?_
    refine go_lload (show decode cX10_finds 200 = .ok (.lload 8, 2) by decide +kernel) (by rfl) ?_
    refine go_lconst (n := 1) (show decode cX10_finds 202 = .ok (.lconst 1, 1) by decide +kernel) ?_
    show Go d MX10_finds 203 [some (vR 53), some (vI a1), some (vI a2), some (vI a3), some (vI a4), some (vI a5), some (vJ a6), none, some (vJ a8), none, some (vI a10), some (vI a11), some (vJ a12), none, some (vJ a14), none, some (vI a16), some (vJ z19), none] [vJ 1, vJ a8, vR 53] S F G Q
    obtain ⟨q21, h⟩ := h
    refine go_lsub (show decode cX10_finds 203 = .ok (.lsub, 1) by decide +kernel) q21 ?_
    refine go_lload (show decode cX10_finds 204 = .ok (.lload 17, 2) by decide +kernel) (by rfl) ?_
    obtain ⟨q22, h⟩ := h
    obtain ⟨q23, h⟩ := h
    refine go_ldiv (show decode cX10_finds 206 = .ok (.ldiv, 1) by decide +kernel) q22 q23 ?_
    obtain ⟨q24, h⟩ := h
    refine go_l2i (show decode cX10_finds 207 = .ok (.l2i, 1) by decide +kernel) q24 ?_
    refine go_aload_n (show decode cX10_finds 208 = .ok (.aload_n 0, 1) by decide +kernel) (by rfl) ?_
    refine go_iconst (show decode cX10_finds 209 = .ok (.iconst 0, 1) by decide +kernel) (by decide) ?_
    refine go_iload (show decode cX10_finds 210 = .ok (.iload 16, 2) by decide +kernel) (by rfl) ?_
    obtain ⟨z29, p30, h⟩ := h
    refine go_callV (d2 := d - 1) (M2 := MX10_edgeAt) (n := 2) (ci := 10) (av := [vI 0, vI a16]) (st := [vI (Int.tdiv (a8 - 1) z19), vR 53]) (show decode cX10_finds 212 = .ok (.invokevirtual 126, 3) by decide +kernel) ml_X10_126 mt_X10_edgeAt min_X10_edgeAt mse_X10_edgeAt (by decide) (shm_k hsm 53 (by decide) (by decide)) rfl (Nat.le_of_ble_eq_true rfl) (by omega) (ok_mono p30 (fun w25 S26 F27 G28 e9 => ?_))
    obtain ⟨e1, e2, e3, e4⟩ := e9
    subst e1
    replace e2 := e2.symm; subst e2
    replace e3 := e3.symm; subst e3
    replace e4 := e4.symm; subst e4
    show Go d MX10_finds 215 [some (vR 53), some (vI a1), some (vI a2), some (vI a3), some (vI a4), some (vI a5), some (vJ a6), none, some (vJ a8), none, some (vI a10), some (vI a11), some (vJ a12), none, some (vJ a14), none, some (vI a16), some (vJ z19), none] [vI z29, vI (Int.tdiv (a8 - 1) z19), vR 53] S F G Q
    refine go_iload_n (show decode cX10_finds 215 = .ok (.iload_n 2, 1) by decide +kernel) (by rfl) ?_
    obtain ⟨ht, hf⟩ := h
    refine go_icmple (tgt := 229) (show decode cX10_finds 216 = .ok (.if_icmp .le 13, 3) by decide +kernel) (by decide) (fun hc => ?_) (fun hc => ?_)
    · have h := ht hc
      refine go_iload_n (show decode cX10_finds 229 = .ok (.iload_n 2, 1) by decide +kernel) (by rfl) ?_
      exact R_X10_finds_230 hsm h
    · have h := hf hc
      refine go_aload_n (show decode cX10_finds 219 = .ok (.aload_n 0, 1) by decide +kernel) (by rfl) ?_
      refine go_iconst (show decode cX10_finds 220 = .ok (.iconst 0, 1) by decide +kernel) (by decide) ?_
      refine go_iload (show decode cX10_finds 221 = .ok (.iload 16, 2) by decide +kernel) (by rfl) ?_
      obtain ⟨z35, p36, h⟩ := h
      refine go_callV (d2 := d - 1) (M2 := MX10_edgeAt) (n := 2) (ci := 10) (av := [vI 0, vI a16]) (st := [vI (Int.tdiv (a8 - 1) z19), vR 53]) (show decode cX10_finds 223 = .ok (.invokevirtual 126, 3) by decide +kernel) ml_X10_126 mt_X10_edgeAt min_X10_edgeAt mse_X10_edgeAt (by decide) (shm_k hsm 53 (by decide) (by decide)) rfl (Nat.le_of_ble_eq_true rfl) (by omega) (ok_mono p36 (fun w31 S32 F33 G34 e9 => ?_))
      obtain ⟨e1, e2, e3, e4⟩ := e9
      subst e1
      replace e2 := e2.symm; subst e2
      replace e3 := e3.symm; subst e3
      replace e4 := e4.symm; subst e4
      show Go d MX10_finds 226 [some (vR 53), some (vI a1), some (vI a2), some (vI a3), some (vI a4), some (vI a5), some (vJ a6), none, some (vJ a8), none, some (vI a10), some (vI a11), some (vJ a12), none, some (vJ a14), none, some (vI a16), some (vJ z19), none] [vI z35, vI (Int.tdiv (a8 - 1) z19), vR 53] S F G Q
      refine go_goto (tgt := 230) (show decode cX10_finds 226 = .ok (.goto 4, 3) by decide +kernel) (by decide) ?_
      exact R_X10_finds_230 hsm h
  · have h := hf hc
    refine go_lload (show decode cX10_finds 156 = .ok (.lload 8, 2) by decide +kernel) (by rfl) ?_
    refine go_aload_n (show decode cX10_finds 158 = .ok (.aload_n 0, 1) by decide +kernel) (by rfl) ?_
    refine go_iload_n (show decode cX10_finds 159 = .ok (.iload_n 1, 1) by decide +kernel) (by rfl) ?_
    refine go_iload (show decode cX10_finds 160 = .ok (.iload 16, 2) by decide +kernel) (by rfl) ?_
    refine go_iload (show decode cX10_finds 162 = .ok (.iload 10, 2) by decide +kernel) (by rfl) ?_
    obtain ⟨z41, p42, h⟩ := h
    refine go_callV (d2 := d - 1) (M2 := MX10_in) (n := 3) (ci := 10) (av := [vI a1, vI a16, vI a10]) (st := [vJ a8]) (show decode cX10_finds 164 = .ok (.invokevirtual 163, 3) by decide +kernel) ml_X10_163 mt_X10_in min_X10_in mse_X10_in (by decide) (shm_k hsm 53 (by decide) (by decide)) rfl (Nat.le_of_ble_eq_true rfl) (by omega) (ok_mono p42 (fun w37 S38 F39 G40 e9 => ?_))
    obtain ⟨e1, e2, e3, e4⟩ := e9
    subst e1
    replace e2 := e2.symm; subst e2
    replace e3 := e3.symm; subst e3
    replace e4 := e4.symm; subst e4
    show Go d MX10_finds 167 [some (vR 53), some (vI a1), some (vI a2), some (vI a3), some (vI a4), some (vI a5), some (vJ a6), none, some (vJ a8), none, some (vI a10), some (vI a11), some (vJ a12), none, some (vJ a14), none, some (vI a16), none, none] [vJ z41, vJ a8] S F G Q
    refine go_aload_n (show decode cX10_finds 167 = .ok (.aload_n 0, 1) by decide +kernel) (by rfl) ?_
    refine go_iconst (show decode cX10_finds 168 = .ok (.iconst 0, 1) by decide +kernel) (by decide) ?_
    refine go_iload (show decode cX10_finds 169 = .ok (.iload 16, 2) by decide +kernel) (by rfl) ?_
    refine go_iload_n (show decode cX10_finds 171 = .ok (.iload_n 2, 1) by decide +kernel) (by rfl) ?_
    refine go_iload (show decode cX10_finds 172 = .ok (.iload 4, 2) by decide +kernel) (by rfl) ?_
    obtain ⟨z47, p48, h⟩ := h
    refine go_callV (d2 := d - 1) (M2 := MX10_part) (n := 4) (ci := 10) (av := [vI 0, vI a16, vI a2, vI a4]) (st := [vJ z41, vJ a8]) (show decode cX10_finds 174 = .ok (.invokevirtual 159, 3) by decide +kernel) ml_X10_159 mt_X10_part min_X10_part mse_X10_part (by decide) (shm_k hsm 53 (by decide) (by decide)) rfl (Nat.le_of_ble_eq_true rfl) (by omega) (ok_mono p48 (fun w43 S44 F45 G46 e9 => ?_))
    obtain ⟨e1, e2, e3, e4⟩ := e9
    subst e1
    replace e2 := e2.symm; subst e2
    replace e3 := e3.symm; subst e3
    replace e4 := e4.symm; subst e4
    show Go d MX10_finds 177 [some (vR 53), some (vI a1), some (vI a2), some (vI a3), some (vI a4), some (vI a5), some (vJ a6), none, some (vJ a8), none, some (vI a10), some (vI a11), some (vJ a12), none, some (vJ a14), none, some (vI a16), none, none] [vI z47, vJ z41, vJ a8] S F G Q
    refine go_i2l (show decode cX10_finds 177 = .ok (.i2l, 1) by decide +kernel) ?_
    obtain ⟨q49, h⟩ := h
    refine go_lmul (show decode cX10_finds 178 = .ok (.lmul, 1) by decide +kernel) q49 ?_
    obtain ⟨q50, h⟩ := h
    refine go_lsub (show decode cX10_finds 179 = .ok (.lsub, 1) by decide +kernel) q50 ?_
    obtain ⟨x51, x51e⟩ : ∃ x51 : Int, x51 = a8 - (z41 * z47) := ⟨_, rfl⟩
    have h := h x51 x51e
    rw [← x51e]
    refine go_lstore (show decode cX10_finds 180 = .ok (.lstore 8, 2) by decide +kernel) (by decide) ?_
    show Go d MX10_finds 182 [some (vR 53), some (vI a1), some (vI a2), some (vI a3), some (vI a4), some (vI a5), some (vJ a6), none, some (vJ x51), none, some (vI a10), some (vI a11), some (vJ a12), none, some (vJ a14), none, some (vI a16), none, none] [] S F G Q
    obtain ⟨q52, h⟩ := h
    refine go_iinc (show decode cX10_finds 182 = .ok (.iinc 16 1, 3) by decide +kernel) (by rfl) q52 (by decide) ?_
    show Go d MX10_finds 185 [some (vR 53), some (vI a1), some (vI a2), some (vI a3), some (vI a4), some (vI a5), some (vJ a6), none, some (vJ x51), none, some (vI a10), some (vI a11), some (vJ a12), none, some (vJ a14), none, some (vI (a16 + 1)), none, none] [] S F G Q
    refine go_goto (tgt := 129) (show decode cX10_finds 185 = .ok (.goto (-56), 3) by decide +kernel) (by decide) ?_
    exact h
def V_X10_finds_122 (d : Nat) (S : AS) (F : AF) (G : AG) (Q : AQ) (a1 : Int) (a2 : Int) (a3 : Int) (a4 : Int) (a5 : Int) (a6 : Int) (a8 : Int) (a10 : Int) (a11 : Int) (a12 : Int) (a14 : Int) (s0 : Int) (s1 : Int) : Prop :=
  (r32 (s1 + s0)) ∧
  ∀ F2 : AF, F2 = fu F 53 22 (s1 + s0) →
  Go d MX10_finds 129 [some (vR 53), some (vI a1), some (vI a2), some (vI a3), some (vI a4), some (vI a5), some (vJ a6), none, some (vJ a8), none, some (vI a10), some (vI a11), some (vJ a12), none, some (vJ a14), none, some (vI 0), none, none] [] S F2 G Q
theorem R_X10_finds_122 {d : Nat} {S : AS} {F : AF} {G : AG} {Q : AQ} {a1 : Int} {a2 : Int} {a3 : Int} {a4 : Int} {a5 : Int} {a6 : Int} {a8 : Int} {a10 : Int} {a11 : Int} {a12 : Int} {a14 : Int} {s0 : Int} {s1 : Int} (hsm : ShM S) (h : V_X10_finds_122 d S F G Q a1 a2 a3 a4 a5 a6 a8 a10 a11 a12 a14 s0 s1) : Go d MX10_finds 122 [some (vR 53), some (vI a1), some (vI a2), some (vI a3), some (vI a4), some (vI a5), some (vJ a6), none, some (vJ a8), none, some (vI a10), some (vI a11), some (vJ a12), none, some (vJ a14), none, none, none, none] [vI s0, vI s1, vR 53] S F G Q := by
  unfold V_X10_finds_122 at h
  obtain ⟨q1, h⟩ := h
  refine go_iadd (show decode cX10_finds 122 = .ok (.iadd, 1) by decide +kernel) q1 ?_
  refine go_putI (show decode cX10_finds 123 = .ok (.putfield 221, 3) by decide +kernel) fl_X10_221 rfl (Or.inl rfl) (shm_k hsm 53 (by decide) (by decide)) ?_
  obtain ⟨F2, F2e⟩ : ∃ F2 : AF, F2 = fu F 53 22 (s1 + s0) := ⟨_, rfl⟩
  have h := h F2 F2e
  rw [← F2e]
  refine go_iconst (show decode cX10_finds 126 = .ok (.iconst 0, 1) by decide +kernel) (by decide) ?_
  refine go_istore (show decode cX10_finds 127 = .ok (.istore 16, 2) by decide +kernel) (by decide) ?_
  show Go d MX10_finds 129 [some (vR 53), some (vI a1), some (vI a2), some (vI a3), some (vI a4), some (vI a5), some (vJ a6), none, some (vJ a8), none, some (vI a10), some (vI a11), some (vJ a12), none, some (vJ a14), none, some (vI 0), none, none] [] S F2 G Q
  exact h
def V_X10_finds_49 (d : Nat) (S : AS) (F : AF) (G : AG) (Q : AQ) (a1 : Int) (a2 : Int) (a3 : Int) (a4 : Int) (a5 : Int) (a6 : Int) (a8 : Int) (a10 : Int) (a11 : Int) (s0 : Int) : Prop :=
  (r64 (s0 * a11)) ∧
  ((a8 ≤ s0 * a11) →
    (r64 (a8 - 1)) ∧
    (¬ s0 = 0) ∧
    (r64 (Int.tdiv (a8 - 1) s0)) ∧
    ∀ x5 : Int, x5 = Int.tdiv (a8 - 1) s0 →
    (r64 (x5 * s0)) ∧
    (r64 (a8 - (x5 * s0))) ∧
    ∀ x8 : Int, x8 = a8 - (x5 * s0) →
    (r32 (x5)) ∧
    (1 ≤ d) ∧
    ∃ z15 : Int, Pu (d - 1) MX10_edgeAt [vR 53, vI 1, vI a10] S F G (some (vI z15)) ∧
    ((z15 ≤ a3) →
      V_X10_finds_122 d S F G Q a1 a2 a3 a4 a5 a6 x8 a10 a11 s0 x5 a3 x5) ∧
    ((¬ z15 ≤ a3) →
      ∃ z21 : Int, Pu (d - 1) MX10_edgeAt [vR 53, vI 1, vI a10] S F G (some (vI z21)) ∧
      V_X10_finds_122 d S F G Q a1 a2 a3 a4 a5 a6 x8 a10 a11 s0 x5 z21 x5)) ∧
  ((¬ a8 ≤ s0 * a11) →
    (r64 (a8 - (s0 * a11))) ∧
    ∀ x24 : Int, x24 = a8 - (s0 * a11) →
    (r32 (a10 + 1)) ∧
    Go d MX10_finds 7 [some (vR 53), some (vI a1), some (vI a2), some (vI a3), some (vI a4), some (vI a5), some (vJ a6), none, some (vJ x24), none, some (vI (a10 + 1)), none, none, none, none, none, none, none, none] [] S F G Q)
theorem R_X10_finds_49 {d : Nat} {S : AS} {F : AF} {G : AG} {Q : AQ} {a1 : Int} {a2 : Int} {a3 : Int} {a4 : Int} {a5 : Int} {a6 : Int} {a8 : Int} {a10 : Int} {a11 : Int} {s0 : Int} (hsm : ShM S) (h : V_X10_finds_49 d S F G Q a1 a2 a3 a4 a5 a6 a8 a10 a11 s0) : Go d MX10_finds 49 [some (vR 53), some (vI a1), some (vI a2), some (vI a3), some (vI a4), some (vI a5), some (vJ a6), none, some (vJ a8), none, some (vI a10), some (vI a11), none, none, none, none, none, none, none] [vJ s0] S F G Q := by
  unfold V_X10_finds_49 at h
  refine go_lstore (show decode cX10_finds 49 = .ok (.lstore 12, 2) by decide +kernel) (by decide) ?_
  show Go d MX10_finds 51 [some (vR 53), some (vI a1), some (vI a2), some (vI a3), some (vI a4), some (vI a5), some (vJ a6), none, some (vJ a8), none, some (vI a10), some (vI a11), some (vJ s0), none, none, none, none, none, none] [] S F G Q
  refine go_lload (show decode cX10_finds 51 = .ok (.lload 12, 2) by decide +kernel) (by rfl) ?_
  refine go_iload (show decode cX10_finds 53 = .ok (.iload 11, 2) by decide +kernel) (by rfl) ?_
  refine go_i2l (show decode cX10_finds 55 = .ok (.i2l, 1) by decide +kernel) ?_
  obtain ⟨q1, h⟩ := h
  refine go_lmul (show decode cX10_finds 56 = .ok (.lmul, 1) by decide +kernel) q1 ?_
  refine go_lload (show decode cX10_finds 57 = .ok (.lload 8, 2) by decide +kernel) (by rfl) ?_
  obtain ⟨ht, hf⟩ := h
  refine go_jge (tgt := 77) (show decode cX10_finds 59 = .ok (.lcmp, 1) by decide +kernel) (show decode cX10_finds 60 = .ok (.ifCond .ge 17, 3) by decide +kernel) (by decide) (fun hc => ?_) (fun hc => ?_)
  · have h := ht hc
    refine go_lload (show decode cX10_finds 77 = .ok (.lload 8, 2) by decide +kernel) (by rfl) ?_
    refine go_lconst (n := 1) (show decode cX10_finds 79 = .ok (.lconst 1, 1) by decide +kernel) ?_
    show Go d MX10_finds 80 [some (vR 53), some (vI a1), some (vI a2), some (vI a3), some (vI a4), some (vI a5), some (vJ a6), none, some (vJ a8), none, some (vI a10), some (vI a11), some (vJ s0), none, none, none, none, none, none] [vJ 1, vJ a8] S F G Q
    obtain ⟨q2, h⟩ := h
    refine go_lsub (show decode cX10_finds 80 = .ok (.lsub, 1) by decide +kernel) q2 ?_
    refine go_lload (show decode cX10_finds 81 = .ok (.lload 12, 2) by decide +kernel) (by rfl) ?_
    obtain ⟨q3, h⟩ := h
    obtain ⟨q4, h⟩ := h
    refine go_ldiv (show decode cX10_finds 83 = .ok (.ldiv, 1) by decide +kernel) q3 q4 ?_
    obtain ⟨x5, x5e⟩ : ∃ x5 : Int, x5 = Int.tdiv (a8 - 1) s0 := ⟨_, rfl⟩
    have h := h x5 x5e
    rw [← x5e]
    refine go_lstore (show decode cX10_finds 84 = .ok (.lstore 14, 2) by decide +kernel) (by decide) ?_
    show Go d MX10_finds 86 [some (vR 53), some (vI a1), some (vI a2), some (vI a3), some (vI a4), some (vI a5), some (vJ a6), none, some (vJ a8), none, some (vI a10), some (vI a11), some (vJ s0), none, some (vJ x5), none, none, none, none] [] S F G Q
    refine go_lload (show decode cX10_finds 86 = .ok (.lload 8, 2) by decide +kernel) (by rfl) ?_
    refine go_lload (show decode cX10_finds 88 = .ok (.lload 14, 2) by decide +kernel) (by rfl) ?_
    refine go_lload (show decode cX10_finds 90 = .ok (.lload 12, 2) by decide +kernel) (by rfl) ?_
    obtain ⟨q6, h⟩ := h
    refine go_lmul (show decode cX10_finds 92 = .ok (.lmul, 1) by decide +kernel) q6 ?_
    obtain ⟨q7, h⟩ := h
    refine go_lsub (show decode cX10_finds 93 = .ok (.lsub, 1) by decide +kernel) q7 ?_
    obtain ⟨x8, x8e⟩ : ∃ x8 : Int, x8 = a8 - (x5 * s0) := ⟨_, rfl⟩
    have h := h x8 x8e
    rw [← x8e]
    refine go_lstore (show decode cX10_finds 94 = .ok (.lstore 8, 2) by decide +kernel) (by decide) ?_
    show Go d MX10_finds 96 [some (vR 53), some (vI a1), some (vI a2), some (vI a3), some (vI a4), some (vI a5), some (vJ a6), none, some (vJ x8), none, some (vI a10), some (vI a11), some (vJ s0), none, some (vJ x5), none, none, none, none] [] S F G Q
    refine go_aload_n (show decode cX10_finds 96 = .ok (.aload_n 0, 1) by decide +kernel) (by rfl) ?_
    refine go_lload (show decode cX10_finds 97 = .ok (.lload 14, 2) by decide +kernel) (by rfl) ?_
    obtain ⟨q9, h⟩ := h
    refine go_l2i (show decode cX10_finds 99 = .ok (.l2i, 1) by decide +kernel) q9 ?_
    refine go_aload_n (show decode cX10_finds 100 = .ok (.aload_n 0, 1) by decide +kernel) (by rfl) ?_
    refine go_iconst (show decode cX10_finds 101 = .ok (.iconst 1, 1) by decide +kernel) (by decide) ?_
    refine go_iload (show decode cX10_finds 102 = .ok (.iload 10, 2) by decide +kernel) (by rfl) ?_
    obtain ⟨q10, h⟩ := h
    obtain ⟨z15, p16, h⟩ := h
    refine go_callV (d2 := d - 1) (M2 := MX10_edgeAt) (n := 2) (ci := 10) (av := [vI 1, vI a10]) (st := [vI x5, vR 53]) (show decode cX10_finds 104 = .ok (.invokevirtual 126, 3) by decide +kernel) ml_X10_126 mt_X10_edgeAt min_X10_edgeAt mse_X10_edgeAt (by decide) (shm_k hsm 53 (by decide) (by decide)) rfl (Nat.le_of_ble_eq_true rfl) (by omega) (ok_mono p16 (fun w11 S12 F13 G14 e9 => ?_))
    obtain ⟨e1, e2, e3, e4⟩ := e9
    subst e1
    replace e2 := e2.symm; subst e2
    replace e3 := e3.symm; subst e3
    replace e4 := e4.symm; subst e4
    show Go d MX10_finds 107 [some (vR 53), some (vI a1), some (vI a2), some (vI a3), some (vI a4), some (vI a5), some (vJ a6), none, some (vJ x8), none, some (vI a10), some (vI a11), some (vJ s0), none, some (vJ x5), none, none, none, none] [vI z15, vI x5, vR 53] S F G Q
    refine go_iload_n (show decode cX10_finds 107 = .ok (.iload_n 3, 1) by decide +kernel) (by rfl) ?_
    obtain ⟨ht, hf⟩ := h
    refine go_icmple (tgt := 121) (show decode cX10_finds 108 = .ok (.if_icmp .le 13, 3) by decide +kernel) (by decide) (fun hc => ?_) (fun hc => ?_)
    · have h := ht hc
      refine go_iload_n (show decode cX10_finds 121 = .ok (.iload_n 3, 1) by decide +kernel) (by rfl) ?_
      exact R_X10_finds_122 hsm h
    · have h := hf hc
      refine go_aload_n (show decode cX10_finds 111 = .ok (.aload_n 0, 1) by decide +kernel) (by rfl) ?_
      refine go_iconst (show decode cX10_finds 112 = .ok (.iconst 1, 1) by decide +kernel) (by decide) ?_
      refine go_iload (show decode cX10_finds 113 = .ok (.iload 10, 2) by decide +kernel) (by rfl) ?_
      obtain ⟨z21, p22, h⟩ := h
      refine go_callV (d2 := d - 1) (M2 := MX10_edgeAt) (n := 2) (ci := 10) (av := [vI 1, vI a10]) (st := [vI x5, vR 53]) (show decode cX10_finds 115 = .ok (.invokevirtual 126, 3) by decide +kernel) ml_X10_126 mt_X10_edgeAt min_X10_edgeAt mse_X10_edgeAt (by decide) (shm_k hsm 53 (by decide) (by decide)) rfl (Nat.le_of_ble_eq_true rfl) (by omega) (ok_mono p22 (fun w17 S18 F19 G20 e9 => ?_))
      obtain ⟨e1, e2, e3, e4⟩ := e9
      subst e1
      replace e2 := e2.symm; subst e2
      replace e3 := e3.symm; subst e3
      replace e4 := e4.symm; subst e4
      show Go d MX10_finds 118 [some (vR 53), some (vI a1), some (vI a2), some (vI a3), some (vI a4), some (vI a5), some (vJ a6), none, some (vJ x8), none, some (vI a10), some (vI a11), some (vJ s0), none, some (vJ x5), none, none, none, none] [vI z21, vI x5, vR 53] S F G Q
      refine go_goto (tgt := 122) (show decode cX10_finds 118 = .ok (.goto 4, 3) by decide +kernel) (by decide) ?_
      exact R_X10_finds_122 hsm h
  · have h := hf hc
    refine go_lload (show decode cX10_finds 63 = .ok (.lload 8, 2) by decide +kernel) (by rfl) ?_
    refine go_lload (show decode cX10_finds 65 = .ok (.lload 12, 2) by decide +kernel) (by rfl) ?_
    refine go_iload (show decode cX10_finds 67 = .ok (.iload 11, 2) by decide +kernel) (by rfl) ?_
    refine go_i2l (show decode cX10_finds 69 = .ok (.i2l, 1) by decide +kernel) ?_
    refine go_lmul (show decode cX10_finds 70 = .ok (.lmul, 1) by decide +kernel) q1 ?_
    obtain ⟨q23, h⟩ := h
    refine go_lsub (show decode cX10_finds 71 = .ok (.lsub, 1) by decide +kernel) q23 ?_
    obtain ⟨x24, x24e⟩ : ∃ x24 : Int, x24 = a8 - (s0 * a11) := ⟨_, rfl⟩
    have h := h x24 x24e
    rw [← x24e]
    refine go_lstore (show decode cX10_finds 72 = .ok (.lstore 8, 2) by decide +kernel) (by decide) ?_
    show Go d MX10_finds 74 [some (vR 53), some (vI a1), some (vI a2), some (vI a3), some (vI a4), some (vI a5), some (vJ a6), none, some (vJ x24), none, some (vI a10), some (vI a11), some (vJ s0), none, none, none, none, none, none] [] S F G Q
    refine go_goto (tgt := 249) (show decode cX10_finds 74 = .ok (.goto 175, 3) by decide +kernel) (by decide) ?_
    obtain ⟨q25, h⟩ := h
    refine go_iinc (show decode cX10_finds 249 = .ok (.iinc 10 1, 3) by decide +kernel) (by rfl) q25 (by decide) ?_
    show Go d MX10_finds 252 [some (vR 53), some (vI a1), some (vI a2), some (vI a3), some (vI a4), some (vI a5), some (vJ a6), none, some (vJ x24), none, some (vI (a10 + 1)), some (vI a11), some (vJ s0), none, none, none, none, none, none] [] S F G Q
    refine go_goto (tgt := 7) (show decode cX10_finds 252 = .ok (.goto (-245), 3) by decide +kernel) (by decide) ?_
    refine go_clr 11 ?_
    refine go_clr 12 ?_
    exact h
def V_X10_finds_7 (d : Nat) (S : AS) (F : AF) (G : AG) (Q : AQ) (a1 : Int) (a2 : Int) (a3 : Int) (a4 : Int) (a5 : Int) (a6 : Int) (a8 : Int) (a10 : Int) : Prop :=
  ((G 55 1 ≤ a10) →
    Q (some (vI 0)) S F G) ∧
  ((¬ G 55 1 ≤ a10) →
    (1 ≤ d) ∧
    ∃ z6 : Int, Pu (d - 1) MX10_part [vR 53, vI 1, vI a10, vI a3, vI a5] S F G (some (vI z6)) ∧
    ((¬ z6 = 0) →
      ∃ z12 : Int, Pu (d - 1) MX10_acrossSum [vR 53, vI a1, vI a10, vI a2, vI a4] S F G (some (vJ z12)) ∧
      V_X10_finds_49 d S F G Q a1 a2 a3 a4 a5 a6 a8 a10 z6 z12) ∧
    ((z6 = 0) →
      V_X10_finds_49 d S F G Q a1 a2 a3 a4 a5 a6 a8 a10 z6 0))
theorem R_X10_finds_7 {d : Nat} {S : AS} {F : AF} {G : AG} {Q : AQ} {a1 : Int} {a2 : Int} {a3 : Int} {a4 : Int} {a5 : Int} {a6 : Int} {a8 : Int} {a10 : Int} (hsm : ShM S) (h : V_X10_finds_7 d S F G Q a1 a2 a3 a4 a5 a6 a8 a10) : Go d MX10_finds 7 [some (vR 53), some (vI a1), some (vI a2), some (vI a3), some (vI a4), some (vI a5), some (vJ a6), none, some (vJ a8), none, some (vI a10), none, none, none, none, none, none, none, none] [] S F G Q := by
  unfold V_X10_finds_7 at h
  refine go_iload (show decode cX10_finds 7 = .ok (.iload 10, 2) by decide +kernel) (by rfl) ?_
  refine go_aload_n (show decode cX10_finds 9 = .ok (.aload_n 0, 1) by decide +kernel) (by rfl) ?_
  refine go_getRc (show decode cX10_finds 10 = .ok (.getfield 29, 3) by decide +kernel) fl_X10_29 rfl (shm_k hsm 53 (by decide) (by decide)) (v := 55) (shm_r hsm 53 5 (by decide) (by decide)) ?_
  refine go_iconst (show decode cX10_finds 13 = .ok (.iconst 1, 1) by decide +kernel) (by decide) ?_
  refine go_iaload (show decode cX10_finds 14 = .ok (.iaload, 1) by decide +kernel) (shm_k hsm 55 (by decide) (by decide)) (by decide) (lt_n (m := 2) (by decide) (shm_n hsm 55 (by decide) (by decide))) ?_
  obtain ⟨ht, hf⟩ := h
  refine go_icmpge (tgt := 255) (show decode cX10_finds 15 = .ok (.if_icmp .ge 240, 3) by decide +kernel) (by decide) (fun hc => ?_) (fun hc => ?_)
  · have h := ht hc
    refine go_iconst (show decode cX10_finds 255 = .ok (.iconst 0, 1) by decide +kernel) (by decide) ?_
    exact go_zret (show decode cX10_finds 256 = .ok (.ireturn, 1) by decide +kernel) rfl (by decide) h
  · have h := hf hc
    refine go_aload_n (show decode cX10_finds 18 = .ok (.aload_n 0, 1) by decide +kernel) (by rfl) ?_
    refine go_iconst (show decode cX10_finds 19 = .ok (.iconst 1, 1) by decide +kernel) (by decide) ?_
    refine go_iload (show decode cX10_finds 20 = .ok (.iload 10, 2) by decide +kernel) (by rfl) ?_
    refine go_iload_n (show decode cX10_finds 22 = .ok (.iload_n 3, 1) by decide +kernel) (by rfl) ?_
    refine go_iload (show decode cX10_finds 23 = .ok (.iload 5, 2) by decide +kernel) (by rfl) ?_
    obtain ⟨q1, h⟩ := h
    obtain ⟨z6, p7, h⟩ := h
    refine go_callV (d2 := d - 1) (M2 := MX10_part) (n := 4) (ci := 10) (av := [vI 1, vI a10, vI a3, vI a5]) (st := []) (show decode cX10_finds 25 = .ok (.invokevirtual 159, 3) by decide +kernel) ml_X10_159 mt_X10_part min_X10_part mse_X10_part (by decide) (shm_k hsm 53 (by decide) (by decide)) rfl (Nat.le_of_ble_eq_true rfl) (by omega) (ok_mono p7 (fun w2 S3 F4 G5 e9 => ?_))
    obtain ⟨e1, e2, e3, e4⟩ := e9
    subst e1
    replace e2 := e2.symm; subst e2
    replace e3 := e3.symm; subst e3
    replace e4 := e4.symm; subst e4
    show Go d MX10_finds 28 [some (vR 53), some (vI a1), some (vI a2), some (vI a3), some (vI a4), some (vI a5), some (vJ a6), none, some (vJ a8), none, some (vI a10), none, none, none, none, none, none, none, none] [vI z6] S F G Q
    refine go_istore (show decode cX10_finds 28 = .ok (.istore 11, 2) by decide +kernel) (by decide) ?_
    show Go d MX10_finds 30 [some (vR 53), some (vI a1), some (vI a2), some (vI a3), some (vI a4), some (vI a5), some (vJ a6), none, some (vJ a8), none, some (vI a10), some (vI z6), none, none, none, none, none, none, none] [] S F G Q
    refine go_iload (show decode cX10_finds 30 = .ok (.iload 11, 2) by decide +kernel) (by rfl) ?_
    obtain ⟨ht, hf⟩ := h
    refine go_ifne (tgt := 39) (show decode cX10_finds 32 = .ok (.ifCond .ne 7, 3) by decide +kernel) (by decide) (fun hc => ?_) (fun hc => ?_)
    · have h := ht hc
      refine go_aload_n (show decode cX10_finds 39 = .ok (.aload_n 0, 1) by decide +kernel) (by rfl) ?_
      refine go_iload_n (show decode cX10_finds 40 = .ok (.iload_n 1, 1) by decide +kernel) (by rfl) ?_
      refine go_iload (show decode cX10_finds 41 = .ok (.iload 10, 2) by decide +kernel) (by rfl) ?_
      refine go_iload_n (show decode cX10_finds 43 = .ok (.iload_n 2, 1) by decide +kernel) (by rfl) ?_
      refine go_iload (show decode cX10_finds 44 = .ok (.iload 4, 2) by decide +kernel) (by rfl) ?_
      obtain ⟨z12, p13, h⟩ := h
      refine go_callV (d2 := d - 1) (M2 := MX10_acrossSum) (n := 4) (ci := 10) (av := [vI a1, vI a10, vI a2, vI a4]) (st := []) (show decode cX10_finds 46 = .ok (.invokevirtual 217, 3) by decide +kernel) ml_X10_217 mt_X10_acrossSum min_X10_acrossSum mse_X10_acrossSum (by decide) (shm_k hsm 53 (by decide) (by decide)) rfl (Nat.le_of_ble_eq_true rfl) (by omega) (ok_mono p13 (fun w8 S9 F10 G11 e9 => ?_))
      obtain ⟨e1, e2, e3, e4⟩ := e9
      subst e1
      replace e2 := e2.symm; subst e2
      replace e3 := e3.symm; subst e3
      replace e4 := e4.symm; subst e4
      show Go d MX10_finds 49 [some (vR 53), some (vI a1), some (vI a2), some (vI a3), some (vI a4), some (vI a5), some (vJ a6), none, some (vJ a8), none, some (vI a10), some (vI z6), none, none, none, none, none, none, none] [vJ z12] S F G Q
      exact R_X10_finds_49 hsm h
    · have h := hf hc
      refine go_lconst (n := 0) (show decode cX10_finds 35 = .ok (.lconst 0, 1) by decide +kernel) ?_
      show Go d MX10_finds 36 [some (vR 53), some (vI a1), some (vI a2), some (vI a3), some (vI a4), some (vI a5), some (vJ a6), none, some (vJ a8), none, some (vI a10), some (vI z6), none, none, none, none, none, none, none] [vJ 0] S F G Q
      refine go_goto (tgt := 49) (show decode cX10_finds 36 = .ok (.goto 13, 3) by decide +kernel) (by decide) ?_
      exact R_X10_finds_49 hsm h
def V_X10_finds_0 (d : Nat) (S : AS) (F : AF) (G : AG) (Q : AQ) (a1 : Int) (a2 : Int) (a3 : Int) (a4 : Int) (a5 : Int) (a6 : Int) : Prop :=
  Go d MX10_finds 7 [some (vR 53), some (vI a1), some (vI a2), some (vI a3), some (vI a4), some (vI a5), some (vJ a6), none, some (vJ a6), none, some (vI 0), none, none, none, none, none, none, none, none] [] S F G Q
theorem R_X10_finds_0 {d : Nat} {S : AS} {F : AF} {G : AG} {Q : AQ} {a1 : Int} {a2 : Int} {a3 : Int} {a4 : Int} {a5 : Int} {a6 : Int} (hsm : ShM S) (h : V_X10_finds_0 d S F G Q a1 a2 a3 a4 a5 a6) : Go d MX10_finds 0 [some (vR 53), some (vI a1), some (vI a2), some (vI a3), some (vI a4), some (vI a5), some (vJ a6), none, none, none, none, none, none, none, none, none, none, none, none] [] S F G Q := by
  unfold V_X10_finds_0 at h
  refine go_lload (show decode cX10_finds 0 = .ok (.lload 6, 2) by decide +kernel) (by rfl) ?_
  refine go_lstore (show decode cX10_finds 2 = .ok (.lstore 8, 2) by decide +kernel) (by decide) ?_
  show Go d MX10_finds 4 [some (vR 53), some (vI a1), some (vI a2), some (vI a3), some (vI a4), some (vI a5), some (vJ a6), none, some (vJ a6), none, none, none, none, none, none, none, none, none, none] [] S F G Q
  refine go_iconst (show decode cX10_finds 4 = .ok (.iconst 0, 1) by decide +kernel) (by decide) ?_
  refine go_istore (show decode cX10_finds 5 = .ok (.istore 10, 2) by decide +kernel) (by decide) ?_
  show Go d MX10_finds 7 [some (vR 53), some (vI a1), some (vI a2), some (vI a3), some (vI a4), some (vI a5), some (vJ a6), none, some (vJ a6), none, some (vI 0), none, none, none, none, none, none, none, none] [] S F G Q
  exact h
def V_X10_empties_68 (d : Nat) (S : AS) (F : AF) (G : AG) (Q : AQ) (a1 : Int) (a2 : Int) (a3 : Int) (a4 : Int) (a5 : Int) (a6 : Int) (a7 : Int) : Prop :=
  (r32 (a7 + 1)) ∧
  Go d MX10_empties 17 [some (vR 53), some (vI a1), some (vI a2), some (vI a3), some (vI a4), some (vI a5), some (vI a6), some (vI (a7 + 1))] [] S F G Q
theorem R_X10_empties_68 {d : Nat} {S : AS} {F : AF} {G : AG} {Q : AQ} {a1 : Int} {a2 : Int} {a3 : Int} {a4 : Int} {a5 : Int} {a6 : Int} {a7 : Int} (hsm : ShM S) (h : V_X10_empties_68 d S F G Q a1 a2 a3 a4 a5 a6 a7) : Go d MX10_empties 68 [some (vR 53), some (vI a1), some (vI a2), some (vI a3), some (vI a4), some (vI a5), some (vI a6), some (vI a7)] [] S F G Q := by
  unfold V_X10_empties_68 at h
  obtain ⟨q1, h⟩ := h
  refine go_iinc (show decode cX10_empties 68 = .ok (.iinc 7 1, 3) by decide +kernel) (by rfl) q1 (by decide) ?_
  show Go d MX10_empties 71 [some (vR 53), some (vI a1), some (vI a2), some (vI a3), some (vI a4), some (vI a5), some (vI a6), some (vI (a7 + 1))] [] S F G Q
  refine go_goto (tgt := 17) (show decode cX10_empties 71 = .ok (.goto (-54), 3) by decide +kernel) (by decide) ?_
  exact h
def V_X10_empties_17 (d : Nat) (S : AS) (F : AF) (G : AG) (Q : AQ) (a1 : Int) (a2 : Int) (a3 : Int) (a4 : Int) (a5 : Int) (a6 : Int) (a7 : Int) : Prop :=
  ((G 55 1 ≤ a7) →
    (r32 (a6 + 1)) ∧
    Go d MX10_empties 3 [some (vR 53), some (vI a1), some (vI a2), some (vI a3), some (vI a4), some (vI a5), some (vI (a6 + 1)), none] [] S F G Q) ∧
  ((¬ G 55 1 ≤ a7) →
    (1 ≤ d) ∧
    ∃ z7 : Int, Pu (d - 1) MX10_part [vR 53, vI 0, vI a6, vI a2, vI a4] S F G (some (vI z7)) ∧
    ((z7 ≤ 0) →
      V_X10_empties_68 d S F G Q a1 a2 a3 a4 a5 a6 a7) ∧
    ((¬ z7 ≤ 0) →
      ∃ z13 : Int, Pu (d - 1) MX10_part [vR 53, vI 1, vI a7, vI a3, vI a5] S F G (some (vI z13)) ∧
      ((z13 ≤ 0) →
        V_X10_empties_68 d S F G Q a1 a2 a3 a4 a5 a6 a7) ∧
      ((¬ z13 ≤ 0) →
        ∃ z19 : Int, Pu (d - 1) MX10_slot [vI a1, vI a6, vI a7] S F G (some (vI z19)) ∧
        ((0 : Int) ≤ z19) ∧
        ((z19 : Int) < 6912) ∧
        ∀ G23 : AG, G23 = gu G 57 z19 0 →
        V_X10_empties_68 d S F G23 Q a1 a2 a3 a4 a5 a6 a7)))
theorem R_X10_empties_17 {d : Nat} {S : AS} {F : AF} {G : AG} {Q : AQ} {a1 : Int} {a2 : Int} {a3 : Int} {a4 : Int} {a5 : Int} {a6 : Int} {a7 : Int} (hsm : ShM S) (h : V_X10_empties_17 d S F G Q a1 a2 a3 a4 a5 a6 a7) : Go d MX10_empties 17 [some (vR 53), some (vI a1), some (vI a2), some (vI a3), some (vI a4), some (vI a5), some (vI a6), some (vI a7)] [] S F G Q := by
  unfold V_X10_empties_17 at h
  refine go_iload (show decode cX10_empties 17 = .ok (.iload 7, 2) by decide +kernel) (by rfl) ?_
  refine go_aload_n (show decode cX10_empties 19 = .ok (.aload_n 0, 1) by decide +kernel) (by rfl) ?_
  refine go_getRc (show decode cX10_empties 20 = .ok (.getfield 29, 3) by decide +kernel) fl_X10_29 rfl (shm_k hsm 53 (by decide) (by decide)) (v := 55) (shm_r hsm 53 5 (by decide) (by decide)) ?_
  refine go_iconst (show decode cX10_empties 23 = .ok (.iconst 1, 1) by decide +kernel) (by decide) ?_
  refine go_iaload (show decode cX10_empties 24 = .ok (.iaload, 1) by decide +kernel) (shm_k hsm 55 (by decide) (by decide)) (by decide) (lt_n (m := 2) (by decide) (shm_n hsm 55 (by decide) (by decide))) ?_
  obtain ⟨ht, hf⟩ := h
  refine go_icmpge (tgt := 74) (show decode cX10_empties 25 = .ok (.if_icmp .ge 49, 3) by decide +kernel) (by decide) (fun hc => ?_) (fun hc => ?_)
  · have h := ht hc
    obtain ⟨q1, h⟩ := h
    refine go_iinc (show decode cX10_empties 74 = .ok (.iinc 6 1, 3) by decide +kernel) (by rfl) q1 (by decide) ?_
    show Go d MX10_empties 77 [some (vR 53), some (vI a1), some (vI a2), some (vI a3), some (vI a4), some (vI a5), some (vI (a6 + 1)), some (vI a7)] [] S F G Q
    refine go_goto (tgt := 3) (show decode cX10_empties 77 = .ok (.goto (-74), 3) by decide +kernel) (by decide) ?_
    refine go_clr 7 ?_
    exact h
  · have h := hf hc
    refine go_aload_n (show decode cX10_empties 28 = .ok (.aload_n 0, 1) by decide +kernel) (by rfl) ?_
    refine go_iconst (show decode cX10_empties 29 = .ok (.iconst 0, 1) by decide +kernel) (by decide) ?_
    refine go_iload (show decode cX10_empties 30 = .ok (.iload 6, 2) by decide +kernel) (by rfl) ?_
    refine go_iload_n (show decode cX10_empties 32 = .ok (.iload_n 2, 1) by decide +kernel) (by rfl) ?_
    refine go_iload (show decode cX10_empties 33 = .ok (.iload 4, 2) by decide +kernel) (by rfl) ?_
    obtain ⟨q2, h⟩ := h
    obtain ⟨z7, p8, h⟩ := h
    refine go_callV (d2 := d - 1) (M2 := MX10_part) (n := 4) (ci := 10) (av := [vI 0, vI a6, vI a2, vI a4]) (st := []) (show decode cX10_empties 35 = .ok (.invokevirtual 159, 3) by decide +kernel) ml_X10_159 mt_X10_part min_X10_part mse_X10_part (by decide) (shm_k hsm 53 (by decide) (by decide)) rfl (Nat.le_of_ble_eq_true rfl) (by omega) (ok_mono p8 (fun w3 S4 F5 G6 e9 => ?_))
    obtain ⟨e1, e2, e3, e4⟩ := e9
    subst e1
    replace e2 := e2.symm; subst e2
    replace e3 := e3.symm; subst e3
    replace e4 := e4.symm; subst e4
    show Go d MX10_empties 38 [some (vR 53), some (vI a1), some (vI a2), some (vI a3), some (vI a4), some (vI a5), some (vI a6), some (vI a7)] [vI z7] S F G Q
    obtain ⟨ht, hf⟩ := h
    refine go_ifle (tgt := 68) (show decode cX10_empties 38 = .ok (.ifCond .le 30, 3) by decide +kernel) (by decide) (fun hc => ?_) (fun hc => ?_)
    · have h := ht hc
      exact R_X10_empties_68 hsm h
    · have h := hf hc
      refine go_aload_n (show decode cX10_empties 41 = .ok (.aload_n 0, 1) by decide +kernel) (by rfl) ?_
      refine go_iconst (show decode cX10_empties 42 = .ok (.iconst 1, 1) by decide +kernel) (by decide) ?_
      refine go_iload (show decode cX10_empties 43 = .ok (.iload 7, 2) by decide +kernel) (by rfl) ?_
      refine go_iload_n (show decode cX10_empties 45 = .ok (.iload_n 3, 1) by decide +kernel) (by rfl) ?_
      refine go_iload (show decode cX10_empties 46 = .ok (.iload 5, 2) by decide +kernel) (by rfl) ?_
      obtain ⟨z13, p14, h⟩ := h
      refine go_callV (d2 := d - 1) (M2 := MX10_part) (n := 4) (ci := 10) (av := [vI 1, vI a7, vI a3, vI a5]) (st := []) (show decode cX10_empties 48 = .ok (.invokevirtual 159, 3) by decide +kernel) ml_X10_159 mt_X10_part min_X10_part mse_X10_part (by decide) (shm_k hsm 53 (by decide) (by decide)) rfl (Nat.le_of_ble_eq_true rfl) (by omega) (ok_mono p14 (fun w9 S10 F11 G12 e9 => ?_))
      obtain ⟨e1, e2, e3, e4⟩ := e9
      subst e1
      replace e2 := e2.symm; subst e2
      replace e3 := e3.symm; subst e3
      replace e4 := e4.symm; subst e4
      show Go d MX10_empties 51 [some (vR 53), some (vI a1), some (vI a2), some (vI a3), some (vI a4), some (vI a5), some (vI a6), some (vI a7)] [vI z13] S F G Q
      obtain ⟨ht, hf⟩ := h
      refine go_ifle (tgt := 68) (show decode cX10_empties 51 = .ok (.ifCond .le 17, 3) by decide +kernel) (by decide) (fun hc => ?_) (fun hc => ?_)
      · have h := ht hc
        exact R_X10_empties_68 hsm h
      · have h := hf hc
        refine go_aload_n (show decode cX10_empties 54 = .ok (.aload_n 0, 1) by decide +kernel) (by rfl) ?_
        refine go_getRc (show decode cX10_empties 55 = .ok (.getfield 35, 3) by decide +kernel) fl_X10_35 rfl (shm_k hsm 53 (by decide) (by decide)) (v := 57) (shm_r hsm 53 7 (by decide) (by decide)) ?_
        refine go_iload_n (show decode cX10_empties 58 = .ok (.iload_n 1, 1) by decide +kernel) (by rfl) ?_
        refine go_iload (show decode cX10_empties 59 = .ok (.iload 6, 2) by decide +kernel) (by rfl) ?_
        refine go_iload (show decode cX10_empties 61 = .ok (.iload 7, 2) by decide +kernel) (by rfl) ?_
        obtain ⟨z19, p20, h⟩ := h
        refine go_callS (d2 := d - 1) (M2 := MX10_slot) (n := 3) (av := [vI a1, vI a6, vI a7]) (st := [vR 57]) (show decode cX10_empties 63 = .ok (.invokestatic 130, 3) by decide +kernel) ml_X10_130 mt_X10_slot mst_X10_slot rfl (Nat.le_of_ble_eq_true rfl) (by omega) (ok_mono p20 (fun w15 S16 F17 G18 e9 => ?_))
        obtain ⟨e1, e2, e3, e4⟩ := e9
        subst e1
        replace e2 := e2.symm; subst e2
        replace e3 := e3.symm; subst e3
        replace e4 := e4.symm; subst e4
        show Go d MX10_empties 66 [some (vR 53), some (vI a1), some (vI a2), some (vI a3), some (vI a4), some (vI a5), some (vI a6), some (vI a7)] [vI z19, vR 57] S F G Q
        refine go_lconst (n := 0) (show decode cX10_empties 66 = .ok (.lconst 0, 1) by decide +kernel) ?_
        show Go d MX10_empties 67 [some (vR 53), some (vI a1), some (vI a2), some (vI a3), some (vI a4), some (vI a5), some (vI a6), some (vI a7)] [vJ 0, vI z19, vR 57] S F G Q
        obtain ⟨q21, h⟩ := h
        obtain ⟨q22, h⟩ := h
        refine go_lastore (show decode cX10_empties 67 = .ok (.lastore, 1) by decide +kernel) (shm_k hsm 57 (by decide) (by decide)) q21 (lt_n (m := 6912) q22 (shm_n hsm 57 (by decide) (by decide)))  ?_
        obtain ⟨G23, G23e⟩ : ∃ G23 : AG, G23 = gu G 57 z19 0 := ⟨_, rfl⟩
        have h := h G23 G23e
        rw [← G23e]
        exact R_X10_empties_68 hsm h
def V_X10_empties_3 (d : Nat) (S : AS) (F : AF) (G : AG) (Q : AQ) (a1 : Int) (a2 : Int) (a3 : Int) (a4 : Int) (a5 : Int) (a6 : Int) : Prop :=
  ((G 55 0 ≤ a6) →
    Q none S F G) ∧
  ((¬ G 55 0 ≤ a6) →
    Go d MX10_empties 17 [some (vR 53), some (vI a1), some (vI a2), some (vI a3), some (vI a4), some (vI a5), some (vI a6), some (vI 0)] [] S F G Q)
theorem R_X10_empties_3 {d : Nat} {S : AS} {F : AF} {G : AG} {Q : AQ} {a1 : Int} {a2 : Int} {a3 : Int} {a4 : Int} {a5 : Int} {a6 : Int} (hsm : ShM S) (h : V_X10_empties_3 d S F G Q a1 a2 a3 a4 a5 a6) : Go d MX10_empties 3 [some (vR 53), some (vI a1), some (vI a2), some (vI a3), some (vI a4), some (vI a5), some (vI a6), none] [] S F G Q := by
  unfold V_X10_empties_3 at h
  refine go_iload (show decode cX10_empties 3 = .ok (.iload 6, 2) by decide +kernel) (by rfl) ?_
  refine go_aload_n (show decode cX10_empties 5 = .ok (.aload_n 0, 1) by decide +kernel) (by rfl) ?_
  refine go_getRc (show decode cX10_empties 6 = .ok (.getfield 29, 3) by decide +kernel) fl_X10_29 rfl (shm_k hsm 53 (by decide) (by decide)) (v := 55) (shm_r hsm 53 5 (by decide) (by decide)) ?_
  refine go_iconst (show decode cX10_empties 9 = .ok (.iconst 0, 1) by decide +kernel) (by decide) ?_
  refine go_iaload (show decode cX10_empties 10 = .ok (.iaload, 1) by decide +kernel) (shm_k hsm 55 (by decide) (by decide)) (by decide) (lt_n (m := 2) (by decide) (shm_n hsm 55 (by decide) (by decide))) ?_
  obtain ⟨ht, hf⟩ := h
  refine go_icmpge (tgt := 80) (show decode cX10_empties 11 = .ok (.if_icmp .ge 69, 3) by decide +kernel) (by decide) (fun hc => ?_) (fun hc => ?_)
  · have h := ht hc
    exact go_vret (show decode cX10_empties 80 = .ok (.return_, 1) by decide +kernel) rfl h
  · have h := hf hc
    refine go_iconst (show decode cX10_empties 14 = .ok (.iconst 0, 1) by decide +kernel) (by decide) ?_
    refine go_istore (show decode cX10_empties 15 = .ok (.istore 7, 2) by decide +kernel) (by decide) ?_
    show Go d MX10_empties 17 [some (vR 53), some (vI a1), some (vI a2), some (vI a3), some (vI a4), some (vI a5), some (vI a6), some (vI 0)] [] S F G Q
    exact h
def V_X10_empties_0 (d : Nat) (S : AS) (F : AF) (G : AG) (Q : AQ) (a1 : Int) (a2 : Int) (a3 : Int) (a4 : Int) (a5 : Int) : Prop :=
  Go d MX10_empties 3 [some (vR 53), some (vI a1), some (vI a2), some (vI a3), some (vI a4), some (vI a5), some (vI 0), none] [] S F G Q
theorem R_X10_empties_0 {d : Nat} {S : AS} {F : AF} {G : AG} {Q : AQ} {a1 : Int} {a2 : Int} {a3 : Int} {a4 : Int} {a5 : Int} (hsm : ShM S) (h : V_X10_empties_0 d S F G Q a1 a2 a3 a4 a5) : Go d MX10_empties 0 [some (vR 53), some (vI a1), some (vI a2), some (vI a3), some (vI a4), some (vI a5), none, none] [] S F G Q := by
  unfold V_X10_empties_0 at h
  refine go_iconst (show decode cX10_empties 0 = .ok (.iconst 0, 1) by decide +kernel) (by decide) ?_
  refine go_istore (show decode cX10_empties 1 = .ok (.istore 6, 2) by decide +kernel) (by decide) ?_
  show Go d MX10_empties 3 [some (vR 53), some (vI a1), some (vI a2), some (vI a3), some (vI a4), some (vI a5), some (vI 0), none] [] S F G Q
  exact h
def V_X10_blockAt_2 (d : Nat) (S : AS) (F : AF) (G : AG) (Q : AQ) (a1 : Int) (a2 : Int) (a3 : Int) : Prop :=
  (r32 (a3 + 1)) ∧
  (1 ≤ d) ∧
  ∃ z7 : Int, Pu (d - 1) MX10_edgeAt [vR 53, vI a1, vI (a3 + 1)] S F G (some (vI z7)) ∧
  ((a2 < z7) →
    Q (some (vI a3)) S F G) ∧
  ((¬ a2 < z7) →
    Go d MX10_blockAt 2 [some (vR 53), some (vI a1), some (vI a2), some (vI (a3 + 1))] [] S F G Q)
theorem R_X10_blockAt_2 {d : Nat} {S : AS} {F : AF} {G : AG} {Q : AQ} {a1 : Int} {a2 : Int} {a3 : Int} (hsm : ShM S) (h : V_X10_blockAt_2 d S F G Q a1 a2 a3) : Go d MX10_blockAt 2 [some (vR 53), some (vI a1), some (vI a2), some (vI a3)] [] S F G Q := by
  unfold V_X10_blockAt_2 at h
  refine go_aload_n (show decode cX10_blockAt 2 = .ok (.aload_n 0, 1) by decide +kernel) (by rfl) ?_
  refine go_iload_n (show decode cX10_blockAt 3 = .ok (.iload_n 1, 1) by decide +kernel) (by rfl) ?_
  refine go_iload_n (show decode cX10_blockAt 4 = .ok (.iload_n 3, 1) by decide +kernel) (by rfl) ?_
  refine go_iconst (show decode cX10_blockAt 5 = .ok (.iconst 1, 1) by decide +kernel) (by decide) ?_
  obtain ⟨q1, h⟩ := h
  refine go_iadd (show decode cX10_blockAt 6 = .ok (.iadd, 1) by decide +kernel) q1 ?_
  obtain ⟨q2, h⟩ := h
  obtain ⟨z7, p8, h⟩ := h
  refine go_callV (d2 := d - 1) (M2 := MX10_edgeAt) (n := 2) (ci := 10) (av := [vI a1, vI (a3 + 1)]) (st := []) (show decode cX10_blockAt 7 = .ok (.invokevirtual 126, 3) by decide +kernel) ml_X10_126 mt_X10_edgeAt min_X10_edgeAt mse_X10_edgeAt (by decide) (shm_k hsm 53 (by decide) (by decide)) rfl (Nat.le_of_ble_eq_true rfl) (by omega) (ok_mono p8 (fun w3 S4 F5 G6 e9 => ?_))
  obtain ⟨e1, e2, e3, e4⟩ := e9
  subst e1
  replace e2 := e2.symm; subst e2
  replace e3 := e3.symm; subst e3
  replace e4 := e4.symm; subst e4
  show Go d MX10_blockAt 10 [some (vR 53), some (vI a1), some (vI a2), some (vI a3)] [vI z7] S F G Q
  refine go_iload_n (show decode cX10_blockAt 10 = .ok (.iload_n 2, 1) by decide +kernel) (by rfl) ?_
  obtain ⟨ht, hf⟩ := h
  refine go_icmpgt (tgt := 20) (show decode cX10_blockAt 11 = .ok (.if_icmp .gt 9, 3) by decide +kernel) (by decide) (fun hc => ?_) (fun hc => ?_)
  · have h := ht hc
    refine go_iload_n (show decode cX10_blockAt 20 = .ok (.iload_n 3, 1) by decide +kernel) (by rfl) ?_
    exact go_iret (show decode cX10_blockAt 21 = .ok (.ireturn, 1) by decide +kernel) rfl h
  · have h := hf hc
    refine go_iinc (show decode cX10_blockAt 14 = .ok (.iinc 3 1, 3) by decide +kernel) (by rfl) q1 (by decide) ?_
    show Go d MX10_blockAt 17 [some (vR 53), some (vI a1), some (vI a2), some (vI (a3 + 1))] [] S F G Q
    refine go_goto (tgt := 2) (show decode cX10_blockAt 17 = .ok (.goto (-15), 3) by decide +kernel) (by decide) ?_
    exact h
def V_X10_blockAt_0 (d : Nat) (S : AS) (F : AF) (G : AG) (Q : AQ) (a1 : Int) (a2 : Int) : Prop :=
  Go d MX10_blockAt 2 [some (vR 53), some (vI a1), some (vI a2), some (vI 0)] [] S F G Q
theorem R_X10_blockAt_0 {d : Nat} {S : AS} {F : AF} {G : AG} {Q : AQ} {a1 : Int} {a2 : Int} (hsm : ShM S) (h : V_X10_blockAt_0 d S F G Q a1 a2) : Go d MX10_blockAt 0 [some (vR 53), some (vI a1), some (vI a2), none] [] S F G Q := by
  unfold V_X10_blockAt_0 at h
  refine go_iconst (show decode cX10_blockAt 0 = .ok (.iconst 0, 1) by decide +kernel) (by decide) ?_
  refine go_istore_n (show decode cX10_blockAt 1 = .ok (.istore_n 3, 1) by decide +kernel) (by decide) ?_
  show Go d MX10_blockAt 2 [some (vR 53), some (vI a1), some (vI a2), some (vI 0)] [] S F G Q
  exact h
def V_X10_number_0 (d : Nat) (S : AS) (F : AF) (G : AG) (Q : AQ) (a1 : Int) (a2 : Int) : Prop :=
  (r64 ((F 53 1) * a2)) ∧
  (r64 (((F 53 1) * a2) + a1)) ∧
  Q (some (vJ (((F 53 1) * a2) + a1))) S F G
theorem R_X10_number_0 {d : Nat} {S : AS} {F : AF} {G : AG} {Q : AQ} {a1 : Int} {a2 : Int} (hsm : ShM S) (h : V_X10_number_0 d S F G Q a1 a2) : Go d MX10_number 0 [some (vR 53), some (vI a1), some (vI a2)] [] S F G Q := by
  unfold V_X10_number_0 at h
  refine go_aload_n (show decode cX10_number 0 = .ok (.aload_n 0, 1) by decide +kernel) (by rfl) ?_
  refine go_getI (show decode cX10_number 1 = .ok (.getfield 13, 3) by decide +kernel) fl_X10_13 (Or.inl rfl) (shm_k hsm 53 (by decide) (by decide)) ?_
  refine go_i2l (show decode cX10_number 4 = .ok (.i2l, 1) by decide +kernel) ?_
  refine go_iload_n (show decode cX10_number 5 = .ok (.iload_n 2, 1) by decide +kernel) (by rfl) ?_
  refine go_i2l (show decode cX10_number 6 = .ok (.i2l, 1) by decide +kernel) ?_
  obtain ⟨q1, h⟩ := h
  refine go_lmul (show decode cX10_number 7 = .ok (.lmul, 1) by decide +kernel) q1 ?_
  refine go_iload_n (show decode cX10_number 8 = .ok (.iload_n 1, 1) by decide +kernel) (by rfl) ?_
  refine go_i2l (show decode cX10_number 9 = .ok (.i2l, 1) by decide +kernel) ?_
  obtain ⟨q2, h⟩ := h
  refine go_ladd (show decode cX10_number 10 = .ok (.ladd, 1) by decide +kernel) q2 ?_
  exact go_lret (show decode cX10_number 11 = .ok (.lreturn, 1) by decide +kernel) rfl h
