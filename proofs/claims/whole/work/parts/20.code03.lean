def V_X7_haulAcross_111 (d : Nat) (S : AS) (F : AF) (G : AG) (Q : AQ) (a1 : Int) (a2 : Int) (a3 : Int) (a4 : Int) (a6 : Nat) (a7 : Int) (a9 : Int) (a10 : Int) : Prop :=
  (r32 (a9 + 1)) ∧
  Go d MX7_haulAcross 14 [some (vR 34), some (vI a1), some (vI a2), some (vI a3), some (vJ a4), none, some (vR a6), some (vJ a7), none, some (vI (a9 + 1)), none, none] [] S F G Q
theorem R_X7_haulAcross_111 {d : Nat} {S : AS} {F : AF} {G : AG} {Q : AQ} {a1 : Int} {a2 : Int} {a3 : Int} {a4 : Int} {a6 : Nat} {a7 : Int} {a9 : Int} {a10 : Int} (hsh : ShC S) (hk6 : AtCuts S a6) (h : V_X7_haulAcross_111 d S F G Q a1 a2 a3 a4 a6 a7 a9 a10) : Go d MX7_haulAcross 111 [some (vR 34), some (vI a1), some (vI a2), some (vI a3), some (vJ a4), none, some (vR a6), some (vJ a7), none, some (vI a9), some (vJ a10), none] [] S F G Q := by
  unfold V_X7_haulAcross_111 at h
  obtain ⟨q1, h⟩ := h
  refine go_iinc (show decode cX7_haulAcross 111 = .ok (.iinc 9 1, 3) by decide +kernel) (by rfl) q1 (by decide) ?_
  show Go d MX7_haulAcross 114 [some (vR 34), some (vI a1), some (vI a2), some (vI a3), some (vJ a4), none, some (vR a6), some (vJ a7), none, some (vI (a9 + 1)), some (vJ a10), none] [] S F G Q
  refine go_goto (tgt := 14) (show decode cX7_haulAcross 114 = .ok (.goto (-100), 3) by decide +kernel) (by decide) ?_
  refine go_clr 10 ?_
  exact h
def V_X7_haulAcross_99 (d : Nat) (S : AS) (F : AF) (G : AG) (Q : AQ) (a1 : Int) (a2 : Int) (a3 : Int) (a4 : Int) (a6 : Nat) (a7 : Int) (a9 : Int) (a10 : Int) : Prop :=
  (r64 ((F 34 2) * a10)) ∧
  (r64 (a7 + ((F 34 2) * a10))) ∧
  ∀ x3 : Int, x3 = a7 + ((F 34 2) * a10) →
  V_X7_haulAcross_111 d S F G Q a1 a2 a3 a4 a6 x3 a9 a10
theorem R_X7_haulAcross_99 {d : Nat} {S : AS} {F : AF} {G : AG} {Q : AQ} {a1 : Int} {a2 : Int} {a3 : Int} {a4 : Int} {a6 : Nat} {a7 : Int} {a9 : Int} {a10 : Int} (hsh : ShC S) (hk6 : AtCuts S a6) (h : V_X7_haulAcross_99 d S F G Q a1 a2 a3 a4 a6 a7 a9 a10) : Go d MX7_haulAcross 99 [some (vR 34), some (vI a1), some (vI a2), some (vI a3), some (vJ a4), none, some (vR a6), some (vJ a7), none, some (vI a9), some (vJ a10), none] [] S F G Q := by
  unfold V_X7_haulAcross_99 at h
  refine go_lload (show decode cX7_haulAcross 99 = .ok (.lload 7, 2) by decide +kernel) (by rfl) ?_
  refine go_aload_n (show decode cX7_haulAcross 101 = .ok (.aload_n 0, 1) by decide +kernel) (by rfl) ?_
  refine go_getJ (show decode cX7_haulAcross 102 = .ok (.getfield 68, 3) by decide +kernel) fl_X7_68 rfl (shc_k hsh 34 (by decide) (by decide)) ?_
  refine go_lload (show decode cX7_haulAcross 105 = .ok (.lload 10, 2) by decide +kernel) (by rfl) ?_
  obtain ⟨q1, h⟩ := h
  refine go_lmul (show decode cX7_haulAcross 107 = .ok (.lmul, 1) by decide +kernel) q1 ?_
  obtain ⟨q2, h⟩ := h
  refine go_ladd (show decode cX7_haulAcross 108 = .ok (.ladd, 1) by decide +kernel) q2 ?_
  obtain ⟨x3, x3e⟩ : ∃ x3 : Int, x3 = a7 + ((F 34 2) * a10) := ⟨_, rfl⟩
  have h := h x3 x3e
  rw [← x3e]
  refine go_lstore (show decode cX7_haulAcross 109 = .ok (.lstore 7, 2) by decide +kernel) (by decide) ?_
  show Go d MX7_haulAcross 111 [some (vR 34), some (vI a1), some (vI a2), some (vI a3), some (vJ a4), none, some (vR a6), some (vJ x3), none, some (vI a9), some (vJ a10), none] [] S F G Q
  exact R_X7_haulAcross_111 hsh hk6 h
def V_X7_haulAcross_14 (d : Nat) (S : AS) (F : AF) (G : AG) (Q : AQ) (a1 : Int) (a2 : Int) (a3 : Int) (a4 : Int) (a6 : Nat) (a7 : Int) (a9 : Int) : Prop :=
  ((F a6 1 ≤ a9) →
    Q (some (vJ a7)) S F G) ∧
  ((¬ F a6 1 ≤ a9) →
    ((3000000000000000000 < a7) →
      Q (some (vJ a7)) S F G) ∧
    ((¬ 3000000000000000000 < a7) →
      (1 ≤ d) ∧
      Ok (d - 1) MX7_measureWhole [vR 34, vI a1, vI a2, vI a9] S F G (fun w2 S3 F4 G5 =>
      S3 = S ∧
      w2 = none ∧
      ((0 : Int) ≤ a9) ∧
      ((a9 : Int) < 105) ∧
      (r32 (a9 + 1)) ∧
      ((0 : Int) ≤ a9 + 1) ∧
      ((a9 + 1 : Int) < 105) ∧
      (r32 ((G5 (a6 + 1) (a9 + 1)) - 1)) ∧
      ∃ z16 : Int, Pu (d - 1) MX7_distances [vI (G5 (a6 + 1) a9), vI ((G5 (a6 + 1) (a9 + 1)) - 1), vI a3] S F4 G5 (some (vJ z16)) ∧
      ((z16 ≤ 0) →
        V_X7_haulAcross_99 d S F4 G5 Q a1 a2 a3 a4 a6 a7 a9 z16) ∧
      ((¬ z16 ≤ 0) →
        (r64 (3000000000000000000 - a7)) ∧
        (¬ z16 = 0) ∧
        (r64 (Int.tdiv (3000000000000000000 - a7) z16)) ∧
        ((F4 34 2 ≤ Int.tdiv (3000000000000000000 - a7) z16) →
          V_X7_haulAcross_99 d S F4 G5 Q a1 a2 a3 a4 a6 a7 a9 z16) ∧
        ((¬ F4 34 2 ≤ Int.tdiv (3000000000000000000 - a7) z16) →
          V_X7_haulAcross_111 d S F4 G5 Q a1 a2 a3 a4 a6 3000000000000000001 a9 z16)))))
theorem R_X7_haulAcross_14 {d : Nat} {S : AS} {F : AF} {G : AG} {Q : AQ} {a1 : Int} {a2 : Int} {a3 : Int} {a4 : Int} {a6 : Nat} {a7 : Int} {a9 : Int} (hsh : ShC S) (hk6 : AtCuts S a6) (h : V_X7_haulAcross_14 d S F G Q a1 a2 a3 a4 a6 a7 a9) : Go d MX7_haulAcross 14 [some (vR 34), some (vI a1), some (vI a2), some (vI a3), some (vJ a4), none, some (vR a6), some (vJ a7), none, some (vI a9), none, none] [] S F G Q := by
  unfold V_X7_haulAcross_14 at h
  refine go_iload (show decode cX7_haulAcross 14 = .ok (.iload 9, 2) by decide +kernel) (by rfl) ?_
  refine go_aload (show decode cX7_haulAcross 16 = .ok (.aload 6, 2) by decide +kernel) (by rfl) ?_
  refine go_getI (show decode cX7_haulAcross 18 = .ok (.getfield 135, 3) by decide +kernel) fl_X7_135 (Or.inl rfl) hk6.1 ?_
  obtain ⟨ht, hf⟩ := h
  refine go_icmpge (tgt := 117) (show decode cX7_haulAcross 21 = .ok (.if_icmp .ge 96, 3) by decide +kernel) (by decide) (fun hc => ?_) (fun hc => ?_)
  · have h := ht hc
    refine go_lload (show decode cX7_haulAcross 117 = .ok (.lload 7, 2) by decide +kernel) (by rfl) ?_
    exact go_lret (show decode cX7_haulAcross 119 = .ok (.lreturn, 1) by decide +kernel) rfl h
  · have h := hf hc
    refine go_lload (show decode cX7_haulAcross 24 = .ok (.lload 7, 2) by decide +kernel) (by rfl) ?_
    refine go_ldc2 (show decode cX7_haulAcross 26 = .ok (.ldc2_w 156, 3) by decide +kernel) lc_X7_156 (by decide) ?_
    obtain ⟨ht, hf⟩ := h
    refine go_jgt (tgt := 117) (show decode cX7_haulAcross 29 = .ok (.lcmp, 1) by decide +kernel) (show decode cX7_haulAcross 30 = .ok (.ifCond .gt 87, 3) by decide +kernel) (by decide) (fun hc => ?_) (fun hc => ?_)
    · have h := ht hc
      refine go_lload (show decode cX7_haulAcross 117 = .ok (.lload 7, 2) by decide +kernel) (by rfl) ?_
      exact go_lret (show decode cX7_haulAcross 119 = .ok (.lreturn, 1) by decide +kernel) rfl h
    · have h := hf hc
      refine go_aload_n (show decode cX7_haulAcross 33 = .ok (.aload_n 0, 1) by decide +kernel) (by rfl) ?_
      refine go_iload_n (show decode cX7_haulAcross 34 = .ok (.iload_n 1, 1) by decide +kernel) (by rfl) ?_
      refine go_iload_n (show decode cX7_haulAcross 35 = .ok (.iload_n 2, 1) by decide +kernel) (by rfl) ?_
      refine go_iload (show decode cX7_haulAcross 36 = .ok (.iload 9, 2) by decide +kernel) (by rfl) ?_
      obtain ⟨q1, h⟩ := h
      refine go_callV (d2 := d - 1) (M2 := MX7_measureWhole) (n := 3) (ci := 7) (av := [vI a1, vI a2, vI a9]) (st := []) (show decode cX7_haulAcross 38 = .ok (.invokevirtual 149, 3) by decide +kernel) ml_X7_149 mt_X7_measureWhole min_X7_measureWhole mse_X7_measureWhole (by decide) (shc_k hsh 34 (by decide) (by decide)) rfl (Nat.le_of_ble_eq_true rfl) (by omega) (ok_mono h (fun w2 S3 F4 G5 h => ?_))
      obtain ⟨e8, h⟩ := h
      replace e8 := e8.symm; subst e8
      obtain ⟨e9, h⟩ := h
      subst e9
      show Go d MX7_haulAcross 41 [some (vR 34), some (vI a1), some (vI a2), some (vI a3), some (vJ a4), none, some (vR a6), some (vJ a7), none, some (vI a9), none, none] [] S F4 G5 Q
      refine go_aload (show decode cX7_haulAcross 41 = .ok (.aload 6, 2) by decide +kernel) (by rfl) ?_
      refine go_getRc (show decode cX7_haulAcross 43 = .ok (.getfield 118, 3) by decide +kernel) fl_X7_118 rfl hk6.1 (v := (a6 + 1)) hk6.2.1 ?_
      refine go_iload (show decode cX7_haulAcross 46 = .ok (.iload 9, 2) by decide +kernel) (by rfl) ?_
      obtain ⟨q6, h⟩ := h
      obtain ⟨q7, h⟩ := h
      refine go_iaload (show decode cX7_haulAcross 48 = .ok (.iaload, 1) by decide +kernel) hk6.2.2.1 q6 (lt_n (m := 105) q7 hk6.2.2.2) ?_
      refine go_aload (show decode cX7_haulAcross 49 = .ok (.aload 6, 2) by decide +kernel) (by rfl) ?_
      refine go_getRc (show decode cX7_haulAcross 51 = .ok (.getfield 118, 3) by decide +kernel) fl_X7_118 rfl hk6.1 (v := (a6 + 1)) hk6.2.1 ?_
      refine go_iload (show decode cX7_haulAcross 54 = .ok (.iload 9, 2) by decide +kernel) (by rfl) ?_
      refine go_iconst (show decode cX7_haulAcross 56 = .ok (.iconst 1, 1) by decide +kernel) (by decide) ?_
      obtain ⟨q8, h⟩ := h
      refine go_iadd (show decode cX7_haulAcross 57 = .ok (.iadd, 1) by decide +kernel) q8 ?_
      obtain ⟨q9, h⟩ := h
      obtain ⟨q10, h⟩ := h
      refine go_iaload (show decode cX7_haulAcross 58 = .ok (.iaload, 1) by decide +kernel) hk6.2.2.1 q9 (lt_n (m := 105) q10 hk6.2.2.2) ?_
      refine go_iconst (show decode cX7_haulAcross 59 = .ok (.iconst 1, 1) by decide +kernel) (by decide) ?_
      obtain ⟨q11, h⟩ := h
      refine go_isub (show decode cX7_haulAcross 60 = .ok (.isub, 1) by decide +kernel) q11 ?_
      refine go_iload_n (show decode cX7_haulAcross 61 = .ok (.iload_n 3, 1) by decide +kernel) (by rfl) ?_
      obtain ⟨z16, p17, h⟩ := h
      refine go_callS (d2 := d - 1) (M2 := MX7_distances) (n := 3) (av := [vI (G5 (a6 + 1) a9), vI ((G5 (a6 + 1) (a9 + 1)) - 1), vI a3]) (st := []) (show decode cX7_haulAcross 62 = .ok (.invokestatic 158, 3) by decide +kernel) ml_X7_158 mt_X7_distances mst_X7_distances rfl (Nat.le_of_ble_eq_true rfl) (by omega) (ok_mono p17 (fun w12 S13 F14 G15 e9 => ?_))
      obtain ⟨e1, e2, e3, e4⟩ := e9
      subst e1
      replace e2 := e2.symm; subst e2
      replace e3 := e3.symm; subst e3
      replace e4 := e4.symm; subst e4
      show Go d MX7_haulAcross 65 [some (vR 34), some (vI a1), some (vI a2), some (vI a3), some (vJ a4), none, some (vR a6), some (vJ a7), none, some (vI a9), none, none] [vJ z16] S F4 G5 Q
      refine go_lstore (show decode cX7_haulAcross 65 = .ok (.lstore 10, 2) by decide +kernel) (by decide) ?_
      show Go d MX7_haulAcross 67 [some (vR 34), some (vI a1), some (vI a2), some (vI a3), some (vJ a4), none, some (vR a6), some (vJ a7), none, some (vI a9), some (vJ z16), none] [] S F4 G5 Q
      refine go_lload (show decode cX7_haulAcross 67 = .ok (.lload 10, 2) by decide +kernel) (by rfl) ?_
      refine go_lconst (n := 0) (show decode cX7_haulAcross 69 = .ok (.lconst 0, 1) by decide +kernel) ?_
      show Go d MX7_haulAcross 70 [some (vR 34), some (vI a1), some (vI a2), some (vI a3), some (vJ a4), none, some (vR a6), some (vJ a7), none, some (vI a9), some (vJ z16), none] [vJ 0, vJ z16] S F4 G5 Q
      obtain ⟨ht, hf⟩ := h
      refine go_jle (tgt := 99) (show decode cX7_haulAcross 70 = .ok (.lcmp, 1) by decide +kernel) (show decode cX7_haulAcross 71 = .ok (.ifCond .le 28, 3) by decide +kernel) (by decide) (fun hc => ?_) (fun hc => ?_)
      · have h := ht hc
        exact R_X7_haulAcross_99 hsh hk6 h
      · have h := hf hc
        refine go_aload_n (show decode cX7_haulAcross 74 = .ok (.aload_n 0, 1) by decide +kernel) (by rfl) ?_
        refine go_getJ (show decode cX7_haulAcross 75 = .ok (.getfield 68, 3) by decide +kernel) fl_X7_68 rfl (shc_k hsh 34 (by decide) (by decide)) ?_
        refine go_ldc2 (show decode cX7_haulAcross 78 = .ok (.ldc2_w 156, 3) by decide +kernel) lc_X7_156 (by decide) ?_
        refine go_lload (show decode cX7_haulAcross 81 = .ok (.lload 7, 2) by decide +kernel) (by rfl) ?_
        obtain ⟨q18, h⟩ := h
        refine go_lsub (show decode cX7_haulAcross 83 = .ok (.lsub, 1) by decide +kernel) q18 ?_
        refine go_lload (show decode cX7_haulAcross 84 = .ok (.lload 10, 2) by decide +kernel) (by rfl) ?_
        obtain ⟨q19, h⟩ := h
        obtain ⟨q20, h⟩ := h
        refine go_ldiv (show decode cX7_haulAcross 86 = .ok (.ldiv, 1) by decide +kernel) q19 q20 ?_
        obtain ⟨ht, hf⟩ := h
        refine go_jle (tgt := 99) (show decode cX7_haulAcross 87 = .ok (.lcmp, 1) by decide +kernel) (show decode cX7_haulAcross 88 = .ok (.ifCond .le 11, 3) by decide +kernel) (by decide) (fun hc => ?_) (fun hc => ?_)
        · have h := ht hc
          exact R_X7_haulAcross_99 hsh hk6 h
        · have h := hf hc
          refine go_ldc2 (show decode cX7_haulAcross 91 = .ok (.ldc2_w 162, 3) by decide +kernel) lc_X7_162 (by decide) ?_
          refine go_lstore (show decode cX7_haulAcross 94 = .ok (.lstore 7, 2) by decide +kernel) (by decide) ?_
          show Go d MX7_haulAcross 96 [some (vR 34), some (vI a1), some (vI a2), some (vI a3), some (vJ a4), none, some (vR a6), some (vJ 3000000000000000001), none, some (vI a9), some (vJ z16), none] [] S F4 G5 Q
          refine go_goto (tgt := 111) (show decode cX7_haulAcross 96 = .ok (.goto 15, 3) by decide +kernel) (by decide) ?_
          exact R_X7_haulAcross_111 hsh hk6 h
def V_X7_haulAcross_0 (d : Nat) (S : AS) (F : AF) (G : AG) (Q : AQ) (a1 : Int) (a2 : Int) (a3 : Int) (a4 : Int) : Prop :=
  (1 ≤ d) ∧
  ∃ z6 : Nat, Pu (d - 1) MX7_outer [vR 34, vI a2] S F G (some (vR z6)) ∧
  Go d MX7_haulAcross 14 [some (vR 34), some (vI a1), some (vI a2), some (vI a3), some (vJ a4), none, some (vR z6), some (vJ a4), none, some (vI 0), none, none] [] S F G Q
theorem R_X7_haulAcross_0 {d : Nat} {S : AS} {F : AF} {G : AG} {Q : AQ} {a1 : Int} {a2 : Int} {a3 : Int} {a4 : Int} (hsh : ShC S) (h : V_X7_haulAcross_0 d S F G Q a1 a2 a3 a4) : Go d MX7_haulAcross 0 [some (vR 34), some (vI a1), some (vI a2), some (vI a3), some (vJ a4), none, none, none, none, none, none, none] [] S F G Q := by
  unfold V_X7_haulAcross_0 at h
  refine go_aload_n (show decode cX7_haulAcross 0 = .ok (.aload_n 0, 1) by decide +kernel) (by rfl) ?_
  refine go_iload_n (show decode cX7_haulAcross 1 = .ok (.iload_n 2, 1) by decide +kernel) (by rfl) ?_
  obtain ⟨q1, h⟩ := h
  obtain ⟨z6, p7, h⟩ := h
  refine go_callV (d2 := d - 1) (M2 := MX7_outer) (n := 1) (ci := 7) (av := [vI a2]) (st := []) (show decode cX7_haulAcross 2 = .ok (.invokevirtual 112, 3) by decide +kernel) ml_X7_112 mt_X7_outer min_X7_outer mse_X7_outer (by decide) (shc_k hsh 34 (by decide) (by decide)) rfl (Nat.le_of_ble_eq_true rfl) (by omega) (ok_mono p7 (fun w2 S3 F4 G5 e9 => ?_))
  obtain ⟨e1, e2, e3, e4⟩ := e9
  subst e1
  replace e2 := e2.symm; subst e2
  replace e3 := e3.symm; subst e3
  replace e4 := e4.symm; subst e4
  show Go d MX7_haulAcross 5 [some (vR 34), some (vI a1), some (vI a2), some (vI a3), some (vJ a4), none, none, none, none, none, none, none] [vR z6] S F G Q
  refine go_astore (show decode cX7_haulAcross 5 = .ok (.astore 6, 2) by decide +kernel) (by decide) ?_
  show Go d MX7_haulAcross 7 [some (vR 34), some (vI a1), some (vI a2), some (vI a3), some (vJ a4), none, some (vR z6), none, none, none, none, none] [] S F G Q
  refine go_lload (show decode cX7_haulAcross 7 = .ok (.lload 4, 2) by decide +kernel) (by rfl) ?_
  refine go_lstore (show decode cX7_haulAcross 9 = .ok (.lstore 7, 2) by decide +kernel) (by decide) ?_
  show Go d MX7_haulAcross 11 [some (vR 34), some (vI a1), some (vI a2), some (vI a3), some (vJ a4), none, some (vR z6), some (vJ a4), none, none, none, none] [] S F G Q
  refine go_iconst (show decode cX7_haulAcross 11 = .ok (.iconst 0, 1) by decide +kernel) (by decide) ?_
  refine go_istore (show decode cX7_haulAcross 12 = .ok (.istore 9, 2) by decide +kernel) (by decide) ?_
  show Go d MX7_haulAcross 14 [some (vR 34), some (vI a1), some (vI a2), some (vI a3), some (vJ a4), none, some (vR z6), some (vJ a4), none, some (vI 0), none, none] [] S F G Q
  exact h
def V_X7_distances_0 (d : Nat) (S : AS) (F : AF) (G : AG) (Q : AQ) (a0 : Int) (a1 : Int) (a2 : Int) : Prop :=
  ((a0 < a2) →
    ((a2 < a1) →
      (r32 (a2 - a0)) ∧
      (1 ≤ d) ∧
      ∃ z7 : Int, Pu (d - 1) MX7_sumUpTo [vJ (a2 - a0)] S F G (some (vJ z7)) ∧
      (r32 (a1 - a2)) ∧
      ∃ z14 : Int, Pu (d - 1) MX7_sumUpTo [vJ (a1 - a2)] S F G (some (vJ z14)) ∧
      (r64 (z7 + z14)) ∧
      Q (some (vJ (z7 + z14))) S F G) ∧
    ((¬ a2 < a1) →
      (r32 (a2 - a0)) ∧
      (1 ≤ d) ∧
      ∃ z23 : Int, Pu (d - 1) MX7_sumUpTo [vJ (a2 - a0)] S F G (some (vJ z23)) ∧
      (r32 (a2 - a1)) ∧
      (r32 ((a2 - a1) - 1)) ∧
      ∃ z31 : Int, Pu (d - 1) MX7_sumUpTo [vJ ((a2 - a1) - 1)] S F G (some (vJ z31)) ∧
      (r64 (z23 - z31)) ∧
      Q (some (vJ (z23 - z31))) S F G)) ∧
  ((¬ a0 < a2) →
    (r32 (a1 - a2)) ∧
    (1 ≤ d) ∧
    ∃ z40 : Int, Pu (d - 1) MX7_sumUpTo [vJ (a1 - a2)] S F G (some (vJ z40)) ∧
    (r32 (a0 - a2)) ∧
    (r32 ((a0 - a2) - 1)) ∧
    ∃ z48 : Int, Pu (d - 1) MX7_sumUpTo [vJ ((a0 - a2) - 1)] S F G (some (vJ z48)) ∧
    (r64 (z40 - z48)) ∧
    Q (some (vJ (z40 - z48))) S F G)
theorem R_X7_distances_0 {d : Nat} {S : AS} {F : AF} {G : AG} {Q : AQ} {a0 : Int} {a1 : Int} {a2 : Int} (hsh : ShC S) (h : V_X7_distances_0 d S F G Q a0 a1 a2) : Go d MX7_distances 0 [some (vI a0), some (vI a1), some (vI a2)] [] S F G Q := by
  unfold V_X7_distances_0 at h
  refine go_iload_n (show decode cX7_distances 0 = .ok (.iload_n 0, 1) by decide +kernel) (by rfl) ?_
  refine go_iload_n (show decode cX7_distances 1 = .ok (.iload_n 2, 1) by decide +kernel) (by rfl) ?_
  obtain ⟨ht, hf⟩ := h
  refine go_icmplt (tgt := 23) (show decode cX7_distances 2 = .ok (.if_icmp .lt 21, 3) by decide +kernel) (by decide) (fun hc => ?_) (fun hc => ?_)
  · have h := ht hc
    refine go_iload_n (show decode cX7_distances 23 = .ok (.iload_n 1, 1) by decide +kernel) (by rfl) ?_
    refine go_iload_n (show decode cX7_distances 24 = .ok (.iload_n 2, 1) by decide +kernel) (by rfl) ?_
    obtain ⟨ht, hf⟩ := h
    refine go_icmpgt (tgt := 46) (show decode cX7_distances 25 = .ok (.if_icmp .gt 21, 3) by decide +kernel) (by decide) (fun hc => ?_) (fun hc => ?_)
    · have h := ht hc
      refine go_iload_n (show decode cX7_distances 46 = .ok (.iload_n 2, 1) by decide +kernel) (by rfl) ?_
      refine go_iload_n (show decode cX7_distances 47 = .ok (.iload_n 0, 1) by decide +kernel) (by rfl) ?_
      obtain ⟨q1, h⟩ := h
      refine go_isub (show decode cX7_distances 48 = .ok (.isub, 1) by decide +kernel) q1 ?_
      refine go_i2l (show decode cX7_distances 49 = .ok (.i2l, 1) by decide +kernel) ?_
      obtain ⟨q2, h⟩ := h
      obtain ⟨z7, p8, h⟩ := h
      refine go_callS (d2 := d - 1) (M2 := MX7_sumUpTo) (n := 1) (av := [vJ (a2 - a0)]) (st := []) (show decode cX7_distances 50 = .ok (.invokestatic 164, 3) by decide +kernel) ml_X7_164 mt_X7_sumUpTo mst_X7_sumUpTo rfl (Nat.le_of_ble_eq_true rfl) (by omega) (ok_mono p8 (fun w3 S4 F5 G6 e9 => ?_))
      obtain ⟨e1, e2, e3, e4⟩ := e9
      subst e1
      replace e2 := e2.symm; subst e2
      replace e3 := e3.symm; subst e3
      replace e4 := e4.symm; subst e4
      show Go d MX7_distances 53 [some (vI a0), some (vI a1), some (vI a2)] [vJ z7] S F G Q
      refine go_iload_n (show decode cX7_distances 53 = .ok (.iload_n 1, 1) by decide +kernel) (by rfl) ?_
      refine go_iload_n (show decode cX7_distances 54 = .ok (.iload_n 2, 1) by decide +kernel) (by rfl) ?_
      obtain ⟨q9, h⟩ := h
      refine go_isub (show decode cX7_distances 55 = .ok (.isub, 1) by decide +kernel) q9 ?_
      refine go_i2l (show decode cX7_distances 56 = .ok (.i2l, 1) by decide +kernel) ?_
      obtain ⟨z14, p15, h⟩ := h
      refine go_callS (d2 := d - 1) (M2 := MX7_sumUpTo) (n := 1) (av := [vJ (a1 - a2)]) (st := [vJ z7]) (show decode cX7_distances 57 = .ok (.invokestatic 164, 3) by decide +kernel) ml_X7_164 mt_X7_sumUpTo mst_X7_sumUpTo rfl (Nat.le_of_ble_eq_true rfl) (by omega) (ok_mono p15 (fun w10 S11 F12 G13 e9 => ?_))
      obtain ⟨e1, e2, e3, e4⟩ := e9
      subst e1
      replace e2 := e2.symm; subst e2
      replace e3 := e3.symm; subst e3
      replace e4 := e4.symm; subst e4
      show Go d MX7_distances 60 [some (vI a0), some (vI a1), some (vI a2)] [vJ z14, vJ z7] S F G Q
      obtain ⟨q16, h⟩ := h
      refine go_ladd (show decode cX7_distances 60 = .ok (.ladd, 1) by decide +kernel) q16 ?_
      exact go_lret (show decode cX7_distances 61 = .ok (.lreturn, 1) by decide +kernel) rfl h
    · have h := hf hc
      refine go_iload_n (show decode cX7_distances 28 = .ok (.iload_n 2, 1) by decide +kernel) (by rfl) ?_
      refine go_iload_n (show decode cX7_distances 29 = .ok (.iload_n 0, 1) by decide +kernel) (by rfl) ?_
      obtain ⟨q17, h⟩ := h
      refine go_isub (show decode cX7_distances 30 = .ok (.isub, 1) by decide +kernel) q17 ?_
      refine go_i2l (show decode cX7_distances 31 = .ok (.i2l, 1) by decide +kernel) ?_
      obtain ⟨q18, h⟩ := h
      obtain ⟨z23, p24, h⟩ := h
      refine go_callS (d2 := d - 1) (M2 := MX7_sumUpTo) (n := 1) (av := [vJ (a2 - a0)]) (st := []) (show decode cX7_distances 32 = .ok (.invokestatic 164, 3) by decide +kernel) ml_X7_164 mt_X7_sumUpTo mst_X7_sumUpTo rfl (Nat.le_of_ble_eq_true rfl) (by omega) (ok_mono p24 (fun w19 S20 F21 G22 e9 => ?_))
      obtain ⟨e1, e2, e3, e4⟩ := e9
      subst e1
      replace e2 := e2.symm; subst e2
      replace e3 := e3.symm; subst e3
      replace e4 := e4.symm; subst e4
      show Go d MX7_distances 35 [some (vI a0), some (vI a1), some (vI a2)] [vJ z23] S F G Q
      refine go_iload_n (show decode cX7_distances 35 = .ok (.iload_n 2, 1) by decide +kernel) (by rfl) ?_
      refine go_iload_n (show decode cX7_distances 36 = .ok (.iload_n 1, 1) by decide +kernel) (by rfl) ?_
      obtain ⟨q25, h⟩ := h
      refine go_isub (show decode cX7_distances 37 = .ok (.isub, 1) by decide +kernel) q25 ?_
      refine go_iconst (show decode cX7_distances 38 = .ok (.iconst 1, 1) by decide +kernel) (by decide) ?_
      obtain ⟨q26, h⟩ := h
      refine go_isub (show decode cX7_distances 39 = .ok (.isub, 1) by decide +kernel) q26 ?_
      refine go_i2l (show decode cX7_distances 40 = .ok (.i2l, 1) by decide +kernel) ?_
      obtain ⟨z31, p32, h⟩ := h
      refine go_callS (d2 := d - 1) (M2 := MX7_sumUpTo) (n := 1) (av := [vJ ((a2 - a1) - 1)]) (st := [vJ z23]) (show decode cX7_distances 41 = .ok (.invokestatic 164, 3) by decide +kernel) ml_X7_164 mt_X7_sumUpTo mst_X7_sumUpTo rfl (Nat.le_of_ble_eq_true rfl) (by omega) (ok_mono p32 (fun w27 S28 F29 G30 e9 => ?_))
      obtain ⟨e1, e2, e3, e4⟩ := e9
      subst e1
      replace e2 := e2.symm; subst e2
      replace e3 := e3.symm; subst e3
      replace e4 := e4.symm; subst e4
      show Go d MX7_distances 44 [some (vI a0), some (vI a1), some (vI a2)] [vJ z31, vJ z23] S F G Q
      obtain ⟨q33, h⟩ := h
      refine go_lsub (show decode cX7_distances 44 = .ok (.lsub, 1) by decide +kernel) q33 ?_
      exact go_lret (show decode cX7_distances 45 = .ok (.lreturn, 1) by decide +kernel) rfl h
  · have h := hf hc
    refine go_iload_n (show decode cX7_distances 5 = .ok (.iload_n 1, 1) by decide +kernel) (by rfl) ?_
    refine go_iload_n (show decode cX7_distances 6 = .ok (.iload_n 2, 1) by decide +kernel) (by rfl) ?_
    obtain ⟨q34, h⟩ := h
    refine go_isub (show decode cX7_distances 7 = .ok (.isub, 1) by decide +kernel) q34 ?_
    refine go_i2l (show decode cX7_distances 8 = .ok (.i2l, 1) by decide +kernel) ?_
    obtain ⟨q35, h⟩ := h
    obtain ⟨z40, p41, h⟩ := h
    refine go_callS (d2 := d - 1) (M2 := MX7_sumUpTo) (n := 1) (av := [vJ (a1 - a2)]) (st := []) (show decode cX7_distances 9 = .ok (.invokestatic 164, 3) by decide +kernel) ml_X7_164 mt_X7_sumUpTo mst_X7_sumUpTo rfl (Nat.le_of_ble_eq_true rfl) (by omega) (ok_mono p41 (fun w36 S37 F38 G39 e9 => ?_))
    obtain ⟨e1, e2, e3, e4⟩ := e9
    subst e1
    replace e2 := e2.symm; subst e2
    replace e3 := e3.symm; subst e3
    replace e4 := e4.symm; subst e4
    show Go d MX7_distances 12 [some (vI a0), some (vI a1), some (vI a2)] [vJ z40] S F G Q
    refine go_iload_n (show decode cX7_distances 12 = .ok (.iload_n 0, 1) by decide +kernel) (by rfl) ?_
    refine go_iload_n (show decode cX7_distances 13 = .ok (.iload_n 2, 1) by decide +kernel) (by rfl) ?_
    obtain ⟨q42, h⟩ := h
    refine go_isub (show decode cX7_distances 14 = .ok (.isub, 1) by decide +kernel) q42 ?_
    refine go_iconst (show decode cX7_distances 15 = .ok (.iconst 1, 1) by decide +kernel) (by decide) ?_
    obtain ⟨q43, h⟩ := h
    refine go_isub (show decode cX7_distances 16 = .ok (.isub, 1) by decide +kernel) q43 ?_
    refine go_i2l (show decode cX7_distances 17 = .ok (.i2l, 1) by decide +kernel) ?_
    obtain ⟨z48, p49, h⟩ := h
    refine go_callS (d2 := d - 1) (M2 := MX7_sumUpTo) (n := 1) (av := [vJ ((a0 - a2) - 1)]) (st := [vJ z40]) (show decode cX7_distances 18 = .ok (.invokestatic 164, 3) by decide +kernel) ml_X7_164 mt_X7_sumUpTo mst_X7_sumUpTo rfl (Nat.le_of_ble_eq_true rfl) (by omega) (ok_mono p49 (fun w44 S45 F46 G47 e9 => ?_))
    obtain ⟨e1, e2, e3, e4⟩ := e9
    subst e1
    replace e2 := e2.symm; subst e2
    replace e3 := e3.symm; subst e3
    replace e4 := e4.symm; subst e4
    show Go d MX7_distances 21 [some (vI a0), some (vI a1), some (vI a2)] [vJ z48, vJ z40] S F G Q
    obtain ⟨q50, h⟩ := h
    refine go_lsub (show decode cX7_distances 21 = .ok (.lsub, 1) by decide +kernel) q50 ?_
    exact go_lret (show decode cX7_distances 22 = .ok (.lreturn, 1) by decide +kernel) rfl h
def V_X7_sumUpTo_0 (d : Nat) (S : AS) (F : AF) (G : AG) (Q : AQ) (a0 : Int) : Prop :=
  (r64 (a0 + 1)) ∧
  (r64 (a0 * (a0 + 1))) ∧
  (r64 (Int.tdiv (a0 * (a0 + 1)) 2)) ∧
  Q (some (vJ (Int.tdiv (a0 * (a0 + 1)) 2))) S F G
theorem R_X7_sumUpTo_0 {d : Nat} {S : AS} {F : AF} {G : AG} {Q : AQ} {a0 : Int} (hsh : ShC S) (h : V_X7_sumUpTo_0 d S F G Q a0) : Go d MX7_sumUpTo 0 [some (vJ a0), none] [] S F G Q := by
  unfold V_X7_sumUpTo_0 at h
  refine go_lload_n (show decode cX7_sumUpTo 0 = .ok (.lload_n 0, 1) by decide +kernel) (by rfl) ?_
  refine go_lload_n (show decode cX7_sumUpTo 1 = .ok (.lload_n 0, 1) by decide +kernel) (by rfl) ?_
  refine go_lconst (n := 1) (show decode cX7_sumUpTo 2 = .ok (.lconst 1, 1) by decide +kernel) ?_
  show Go d MX7_sumUpTo 3 [some (vJ a0), none] [vJ 1, vJ a0, vJ a0] S F G Q
  obtain ⟨q1, h⟩ := h
  refine go_ladd (show decode cX7_sumUpTo 3 = .ok (.ladd, 1) by decide +kernel) q1 ?_
  obtain ⟨q2, h⟩ := h
  refine go_lmul (show decode cX7_sumUpTo 4 = .ok (.lmul, 1) by decide +kernel) q2 ?_
  refine go_ldc2 (show decode cX7_sumUpTo 5 = .ok (.ldc2_w 147, 3) by decide +kernel) lc_X7_147 (by decide) ?_
  obtain ⟨q3, h⟩ := h
  refine go_ldiv (show decode cX7_sumUpTo 8 = .ok (.ldiv, 1) by decide +kernel) (by decide) q3 ?_
  exact go_lret (show decode cX7_sumUpTo 9 = .ok (.lreturn, 1) by decide +kernel) rfl h
def V_X7_findWindow_237 (d : Nat) (S : AS) (F : AF) (G : AG) (Q : AQ) (a1 : Int) (a2 : Int) (a3 : Int) (a4 : Int) (a5 : Int) (a6 : Int) (a7 : Int) : Prop :=
  (r32 (a6 + 1)) ∧
  Go d MX7_findWindow 55 [some (vR 34), some (vI a1), some (vI a2), some (vI a3), some (vI a4), some (vI a5), some (vI (a6 + 1)), none, none, none, none, none] [] S F G Q
theorem R_X7_findWindow_237 {d : Nat} {S : AS} {F : AF} {G : AG} {Q : AQ} {a1 : Int} {a2 : Int} {a3 : Int} {a4 : Int} {a5 : Int} {a6 : Int} {a7 : Int} (hsh : ShC S) (h : V_X7_findWindow_237 d S F G Q a1 a2 a3 a4 a5 a6 a7) : Go d MX7_findWindow 237 [some (vR 34), some (vI a1), some (vI a2), some (vI a3), some (vI a4), some (vI a5), some (vI a6), some (vI a7), none, none, none, none] [] S F G Q := by
  unfold V_X7_findWindow_237 at h
  obtain ⟨q1, h⟩ := h
  refine go_iinc (show decode cX7_findWindow 237 = .ok (.iinc 6 1, 3) by decide +kernel) (by rfl) q1 (by decide) ?_
  show Go d MX7_findWindow 240 [some (vR 34), some (vI a1), some (vI a2), some (vI a3), some (vI a4), some (vI a5), some (vI (a6 + 1)), some (vI a7), none, none, none, none] [] S F G Q
  refine go_goto (tgt := 55) (show decode cX7_findWindow 240 = .ok (.goto (-185), 3) by decide +kernel) (by decide) ?_
  refine go_clr 7 ?_
  exact h
def V_X7_findWindow_231 (d : Nat) (S : AS) (F : AF) (G : AG) (Q : AQ) (a1 : Int) (a2 : Int) (a3 : Int) (a4 : Int) (a5 : Int) (a6 : Int) (a7 : Int) (a8 : Int) (a9 : Int) (a11 : Int) : Prop :=
  (r32 (a7 + 1)) ∧
  Go d MX7_findWindow 96 [some (vR 34), some (vI a1), some (vI a2), some (vI a3), some (vI a4), some (vI a5), some (vI a6), some (vI (a7 + 1)), none, none, none, none] [] S F G Q
theorem R_X7_findWindow_231 {d : Nat} {S : AS} {F : AF} {G : AG} {Q : AQ} {a1 : Int} {a2 : Int} {a3 : Int} {a4 : Int} {a5 : Int} {a6 : Int} {a7 : Int} {a8 : Int} {a9 : Int} {a11 : Int} (hsh : ShC S) (h : V_X7_findWindow_231 d S F G Q a1 a2 a3 a4 a5 a6 a7 a8 a9 a11) : Go d MX7_findWindow 231 [some (vR 34), some (vI a1), some (vI a2), some (vI a3), some (vI a4), some (vI a5), some (vI a6), some (vI a7), some (vI a8), some (vJ a9), none, some (vI a11)] [] S F G Q := by
  unfold V_X7_findWindow_231 at h
  obtain ⟨q1, h⟩ := h
  refine go_iinc (show decode cX7_findWindow 231 = .ok (.iinc 7 1, 3) by decide +kernel) (by rfl) q1 (by decide) ?_
  show Go d MX7_findWindow 234 [some (vR 34), some (vI a1), some (vI a2), some (vI a3), some (vI a4), some (vI a5), some (vI a6), some (vI (a7 + 1)), some (vI a8), some (vJ a9), none, some (vI a11)] [] S F G Q
  refine go_goto (tgt := 96) (show decode cX7_findWindow 234 = .ok (.goto (-138), 3) by decide +kernel) (by decide) ?_
  refine go_clr 8 ?_
  refine go_clr 9 ?_
  refine go_clr 11 ?_
  exact h
def V_X7_findWindow_208 (d : Nat) (S : AS) (F : AF) (G : AG) (Q : AQ) (a1 : Int) (a2 : Int) (a3 : Int) (a4 : Int) (a5 : Int) (a6 : Int) (a7 : Int) (a8 : Int) (a9 : Int) (a11 : Int) : Prop :=
  ∀ F1 : AF, F1 = fu F 34 8 a9 →
  ∀ F2 : AF, F2 = fu F1 34 4 a8 →
  ((0 : Int) ≤ a6) ∧
  ((a6 : Int) < 97) ∧
  ∀ F5 : AF, F5 = fu F2 34 5 (G 43 a6) →
  V_X7_findWindow_231 d S F5 G Q a1 a2 a3 a4 a5 a6 a7 a8 a9 a11
theorem R_X7_findWindow_208 {d : Nat} {S : AS} {F : AF} {G : AG} {Q : AQ} {a1 : Int} {a2 : Int} {a3 : Int} {a4 : Int} {a5 : Int} {a6 : Int} {a7 : Int} {a8 : Int} {a9 : Int} {a11 : Int} (hsh : ShC S) (h : V_X7_findWindow_208 d S F G Q a1 a2 a3 a4 a5 a6 a7 a8 a9 a11) : Go d MX7_findWindow 208 [some (vR 34), some (vI a1), some (vI a2), some (vI a3), some (vI a4), some (vI a5), some (vI a6), some (vI a7), some (vI a8), some (vJ a9), none, some (vI a11)] [] S F G Q := by
  unfold V_X7_findWindow_208 at h
  refine go_aload_n (show decode cX7_findWindow 208 = .ok (.aload_n 0, 1) by decide +kernel) (by rfl) ?_
  refine go_lload (show decode cX7_findWindow 209 = .ok (.lload 9, 2) by decide +kernel) (by rfl) ?_
  refine go_putJ (show decode cX7_findWindow 211 = .ok (.putfield 170, 3) by decide +kernel) fl_X7_170 rfl (Or.inl rfl) (shc_k hsh 34 (by decide) (by decide)) ?_
  obtain ⟨F1, F1e⟩ : ∃ F1 : AF, F1 = fu F 34 8 a9 := ⟨_, rfl⟩
  have h := h F1 F1e
  rw [← F1e]
  refine go_aload_n (show decode cX7_findWindow 214 = .ok (.aload_n 0, 1) by decide +kernel) (by rfl) ?_
  refine go_iload (show decode cX7_findWindow 215 = .ok (.iload 8, 2) by decide +kernel) (by rfl) ?_
  refine go_putI (show decode cX7_findWindow 217 = .ok (.putfield 144, 3) by decide +kernel) fl_X7_144 rfl (Or.inl rfl) (shc_k hsh 34 (by decide) (by decide)) ?_
  obtain ⟨F2, F2e⟩ : ∃ F2 : AF, F2 = fu F1 34 4 a8 := ⟨_, rfl⟩
  have h := h F2 F2e
  rw [← F2e]
  refine go_aload_n (show decode cX7_findWindow 220 = .ok (.aload_n 0, 1) by decide +kernel) (by rfl) ?_
  refine go_aload_n (show decode cX7_findWindow 221 = .ok (.aload_n 0, 1) by decide +kernel) (by rfl) ?_
  refine go_getRc (show decode cX7_findWindow 222 = .ok (.getfield 48, 3) by decide +kernel) fl_X7_48 rfl (shc_k hsh 34 (by decide) (by decide)) (v := 43) (shc_r hsh 34 16 (by decide) (by decide) (by decide)) ?_
  refine go_iload (show decode cX7_findWindow 225 = .ok (.iload 6, 2) by decide +kernel) (by rfl) ?_
  obtain ⟨q3, h⟩ := h
  obtain ⟨q4, h⟩ := h
  refine go_iaload (show decode cX7_findWindow 227 = .ok (.iaload, 1) by decide +kernel) (shc_k hsh 43 (by decide) (by decide)) q3 (lt_n (m := 97) q4 (shc_n hsh 43 (by decide) (by decide))) ?_
  refine go_putI (show decode cX7_findWindow 228 = .ok (.putfield 141, 3) by decide +kernel) fl_X7_141 rfl (Or.inl rfl) (shc_k hsh 34 (by decide) (by decide)) ?_
  obtain ⟨F5, F5e⟩ : ∃ F5 : AF, F5 = fu F2 34 5 (G 43 a6) := ⟨_, rfl⟩
  have h := h F5 F5e
  rw [← F5e]
  exact R_X7_findWindow_231 hsh h
def V_X7_findWindow_181 (d : Nat) (S : AS) (F : AF) (G : AG) (Q : AQ) (a1 : Int) (a2 : Int) (a3 : Int) (a4 : Int) (a5 : Int) (a6 : Int) (a7 : Int) (a8 : Int) (a9 : Int) (s0 : Int) : Prop :=
  ((F 34 8 < a9) →
    V_X7_findWindow_208 d S F G Q a1 a2 a3 a4 a5 a6 a7 a8 a9 s0) ∧
  ((¬ F 34 8 < a9) →
    ((¬ a9 = F 34 8) →
      V_X7_findWindow_231 d S F G Q a1 a2 a3 a4 a5 a6 a7 a8 a9 s0) ∧
    ((a9 = F 34 8) →
      ((s0 = 0) →
        V_X7_findWindow_231 d S F G Q a1 a2 a3 a4 a5 a6 a7 a8 a9 s0) ∧
      ((¬ s0 = 0) →
        V_X7_findWindow_208 d S F G Q a1 a2 a3 a4 a5 a6 a7 a8 a9 s0)))
theorem R_X7_findWindow_181 {d : Nat} {S : AS} {F : AF} {G : AG} {Q : AQ} {a1 : Int} {a2 : Int} {a3 : Int} {a4 : Int} {a5 : Int} {a6 : Int} {a7 : Int} {a8 : Int} {a9 : Int} {s0 : Int} (hsh : ShC S) (h : V_X7_findWindow_181 d S F G Q a1 a2 a3 a4 a5 a6 a7 a8 a9 s0) : Go d MX7_findWindow 181 [some (vR 34), some (vI a1), some (vI a2), some (vI a3), some (vI a4), some (vI a5), some (vI a6), some (vI a7), some (vI a8), some (vJ a9), none, none] [vI s0] S F G Q := by
  unfold V_X7_findWindow_181 at h
  refine go_istore (show decode cX7_findWindow 181 = .ok (.istore 11, 2) by decide +kernel) (by decide) ?_
  show Go d MX7_findWindow 183 [some (vR 34), some (vI a1), some (vI a2), some (vI a3), some (vI a4), some (vI a5), some (vI a6), some (vI a7), some (vI a8), some (vJ a9), none, some (vI s0)] [] S F G Q
  refine go_lload (show decode cX7_findWindow 183 = .ok (.lload 9, 2) by decide +kernel) (by rfl) ?_
  refine go_aload_n (show decode cX7_findWindow 185 = .ok (.aload_n 0, 1) by decide +kernel) (by rfl) ?_
  refine go_getJ (show decode cX7_findWindow 186 = .ok (.getfield 170, 3) by decide +kernel) fl_X7_170 rfl (shc_k hsh 34 (by decide) (by decide)) ?_
  obtain ⟨ht, hf⟩ := h
  refine go_jgt (tgt := 208) (show decode cX7_findWindow 189 = .ok (.lcmp, 1) by decide +kernel) (show decode cX7_findWindow 190 = .ok (.ifCond .gt 18, 3) by decide +kernel) (by decide) (fun hc => ?_) (fun hc => ?_)
  · have h := ht hc
    exact R_X7_findWindow_208 hsh h
  · have h := hf hc
    refine go_lload (show decode cX7_findWindow 193 = .ok (.lload 9, 2) by decide +kernel) (by rfl) ?_
    refine go_aload_n (show decode cX7_findWindow 195 = .ok (.aload_n 0, 1) by decide +kernel) (by rfl) ?_
    refine go_getJ (show decode cX7_findWindow 196 = .ok (.getfield 170, 3) by decide +kernel) fl_X7_170 rfl (shc_k hsh 34 (by decide) (by decide)) ?_
    obtain ⟨ht, hf⟩ := h
    refine go_jne (tgt := 231) (show decode cX7_findWindow 199 = .ok (.lcmp, 1) by decide +kernel) (show decode cX7_findWindow 200 = .ok (.ifCond .ne 31, 3) by decide +kernel) (by decide) (fun hc => ?_) (fun hc => ?_)
    · have h := ht hc
      exact R_X7_findWindow_231 hsh h
    · have h := hf hc
      refine go_iload (show decode cX7_findWindow 203 = .ok (.iload 11, 2) by decide +kernel) (by rfl) ?_
      obtain ⟨ht, hf⟩ := h
      refine go_ifeq (tgt := 231) (show decode cX7_findWindow 205 = .ok (.ifCond .eq 26, 3) by decide +kernel) (by decide) (fun hc => ?_) (fun hc => ?_)
      · have h := ht hc
        exact R_X7_findWindow_231 hsh h
      · have h := hf hc
        exact R_X7_findWindow_208 hsh h
def V_X7_findWindow_180 (d : Nat) (S : AS) (F : AF) (G : AG) (Q : AQ) (a1 : Int) (a2 : Int) (a3 : Int) (a4 : Int) (a5 : Int) (a6 : Int) (a7 : Int) (a8 : Int) (a9 : Int) : Prop :=
  V_X7_findWindow_181 d S F G Q a1 a2 a3 a4 a5 a6 a7 a8 a9 0
theorem R_X7_findWindow_180 {d : Nat} {S : AS} {F : AF} {G : AG} {Q : AQ} {a1 : Int} {a2 : Int} {a3 : Int} {a4 : Int} {a5 : Int} {a6 : Int} {a7 : Int} {a8 : Int} {a9 : Int} (hsh : ShC S) (h : V_X7_findWindow_180 d S F G Q a1 a2 a3 a4 a5 a6 a7 a8 a9) : Go d MX7_findWindow 180 [some (vR 34), some (vI a1), some (vI a2), some (vI a3), some (vI a4), some (vI a5), some (vI a6), some (vI a7), some (vI a8), some (vJ a9), none, none] [] S F G Q := by
  unfold V_X7_findWindow_180 at h
  refine go_iconst (show decode cX7_findWindow 180 = .ok (.iconst 0, 1) by decide +kernel) (by decide) ?_
  exact R_X7_findWindow_181 hsh h
def V_X7_findWindow_176 (d : Nat) (S : AS) (F : AF) (G : AG) (Q : AQ) (a1 : Int) (a2 : Int) (a3 : Int) (a4 : Int) (a5 : Int) (a6 : Int) (a7 : Int) (a8 : Int) (a9 : Int) : Prop :=
  V_X7_findWindow_181 d S F G Q a1 a2 a3 a4 a5 a6 a7 a8 a9 1
theorem R_X7_findWindow_176 {d : Nat} {S : AS} {F : AF} {G : AG} {Q : AQ} {a1 : Int} {a2 : Int} {a3 : Int} {a4 : Int} {a5 : Int} {a6 : Int} {a7 : Int} {a8 : Int} {a9 : Int} (hsh : ShC S) (h : V_X7_findWindow_176 d S F G Q a1 a2 a3 a4 a5 a6 a7 a8 a9) : Go d MX7_findWindow 176 [some (vR 34), some (vI a1), some (vI a2), some (vI a3), some (vI a4), some (vI a5), some (vI a6), some (vI a7), some (vI a8), some (vJ a9), none, none] [] S F G Q := by
  unfold V_X7_findWindow_176 at h
  refine go_iconst (show decode cX7_findWindow 176 = .ok (.iconst 1, 1) by decide +kernel) (by decide) ?_
  refine go_goto (tgt := 181) (show decode cX7_findWindow 177 = .ok (.goto 4, 3) by decide +kernel) (by decide) ?_
  exact R_X7_findWindow_181 hsh h
def V_X7_findWindow_96 (d : Nat) (S : AS) (F : AF) (G : AG) (Q : AQ) (a1 : Int) (a2 : Int) (a3 : Int) (a4 : Int) (a5 : Int) (a6 : Int) (a7 : Int) : Prop :=
  ((a4 ≤ a7) →
    V_X7_findWindow_237 d S F G Q a1 a2 a3 a4 a5 a6 a7) ∧
  ((¬ a4 ≤ a7) →
    ((97 ≤ a7) →
      V_X7_findWindow_237 d S F G Q a1 a2 a3 a4 a5 a6 a7) ∧
    ((¬ 97 ≤ a7) →
      ((0 : Int) ≤ a7) ∧
      ((a7 : Int) < 97) ∧
      ∀ x3 : Int, x3 = G 42 a7 →
      (r32 (x3 + a2)) ∧
      (1 ≤ d) ∧
      ∃ z10 : Int, Pu (d - 1) MX7_unitsAhead [vR 34, vI (x3 + a2)] S F G (some (vJ z10)) ∧
      ∃ z16 : Int, Pu (d - 1) MX7_unitsAhead [vR 34, vI x3] S F G (some (vJ z16)) ∧
      (r64 (z10 - z16)) ∧
      ∀ x19 : Int, x19 = z10 - z16 →
      ((0 : Int) ≤ a6) ∧
      ((a6 : Int) < 97) ∧
      ((G 43 a6 < F 34 5) →
        V_X7_findWindow_176 d S F G Q a1 a2 a3 a4 a5 a6 a7 x3 x19) ∧
      ((¬ G 43 a6 < F 34 5) →
        ((¬ G 43 a6 = F 34 5) →
          V_X7_findWindow_180 d S F G Q a1 a2 a3 a4 a5 a6 a7 x3 x19) ∧
        ((G 43 a6 = F 34 5) →
          ((F 34 4 ≤ x3) →
            V_X7_findWindow_180 d S F G Q a1 a2 a3 a4 a5 a6 a7 x3 x19) ∧
          ((¬ F 34 4 ≤ x3) →
            V_X7_findWindow_176 d S F G Q a1 a2 a3 a4 a5 a6 a7 x3 x19)))))
theorem R_X7_findWindow_96 {d : Nat} {S : AS} {F : AF} {G : AG} {Q : AQ} {a1 : Int} {a2 : Int} {a3 : Int} {a4 : Int} {a5 : Int} {a6 : Int} {a7 : Int} (hsh : ShC S) (h : V_X7_findWindow_96 d S F G Q a1 a2 a3 a4 a5 a6 a7) : Go d MX7_findWindow 96 [some (vR 34), some (vI a1), some (vI a2), some (vI a3), some (vI a4), some (vI a5), some (vI a6), some (vI a7), none, none, none, none] [] S F G Q := by
  unfold V_X7_findWindow_96 at h
  refine go_iload (show decode cX7_findWindow 96 = .ok (.iload 7, 2) by decide +kernel) (by rfl) ?_
  refine go_iload (show decode cX7_findWindow 98 = .ok (.iload 4, 2) by decide +kernel) (by rfl) ?_
  obtain ⟨ht, hf⟩ := h
  refine go_icmpge (tgt := 237) (show decode cX7_findWindow 100 = .ok (.if_icmp .ge 137, 3) by decide +kernel) (by decide) (fun hc => ?_) (fun hc => ?_)
  · have h := ht hc
    exact R_X7_findWindow_237 hsh h
  · have h := hf hc
    refine go_iload (show decode cX7_findWindow 103 = .ok (.iload 7, 2) by decide +kernel) (by rfl) ?_
    refine go_aload_n (show decode cX7_findWindow 105 = .ok (.aload_n 0, 1) by decide +kernel) (by rfl) ?_
    refine go_getRc (show decode cX7_findWindow 106 = .ok (.getfield 45, 3) by decide +kernel) fl_X7_45 rfl (shc_k hsh 34 (by decide) (by decide)) (v := 42) (shc_r hsh 34 15 (by decide) (by decide) (by decide)) ?_
    refine go_alenc (show decode cX7_findWindow 109 = .ok (.arraylength, 1) by decide +kernel) (by have h9 : sK S 42 = 20 := (shc_k hsh 42 (by decide) (by decide)); omega) (z := 97) (by rw [(shc_n hsh 42 (by decide) (by decide))]; rfl) ?_
    obtain ⟨ht, hf⟩ := h
    refine go_icmpge (tgt := 237) (show decode cX7_findWindow 110 = .ok (.if_icmp .ge 127, 3) by decide +kernel) (by decide) (fun hc => ?_) (fun hc => ?_)
    · have h := ht hc
      exact R_X7_findWindow_237 hsh h
    · have h := hf hc
      refine go_aload_n (show decode cX7_findWindow 113 = .ok (.aload_n 0, 1) by decide +kernel) (by rfl) ?_
      refine go_getRc (show decode cX7_findWindow 114 = .ok (.getfield 45, 3) by decide +kernel) fl_X7_45 rfl (shc_k hsh 34 (by decide) (by decide)) (v := 42) (shc_r hsh 34 15 (by decide) (by decide) (by decide)) ?_
      refine go_iload (show decode cX7_findWindow 117 = .ok (.iload 7, 2) by decide +kernel) (by rfl) ?_
      obtain ⟨q1, h⟩ := h
      obtain ⟨q2, h⟩ := h
      refine go_iaload (show decode cX7_findWindow 119 = .ok (.iaload, 1) by decide +kernel) (shc_k hsh 42 (by decide) (by decide)) q1 (lt_n (m := 97) q2 (shc_n hsh 42 (by decide) (by decide))) ?_
      obtain ⟨x3, x3e⟩ : ∃ x3 : Int, x3 = G 42 a7 := ⟨_, rfl⟩
      have h := h x3 x3e
      rw [← x3e]
      refine go_istore (show decode cX7_findWindow 120 = .ok (.istore 8, 2) by decide +kernel) (by decide) ?_
      show Go d MX7_findWindow 122 [some (vR 34), some (vI a1), some (vI a2), some (vI a3), some (vI a4), some (vI a5), some (vI a6), some (vI a7), some (vI x3), none, none, none] [] S F G Q
      refine go_aload_n (show decode cX7_findWindow 122 = .ok (.aload_n 0, 1) by decide +kernel) (by rfl) ?_
      refine go_iload (show decode cX7_findWindow 123 = .ok (.iload 8, 2) by decide +kernel) (by rfl) ?_
      refine go_iload_n (show decode cX7_findWindow 125 = .ok (.iload_n 2, 1) by decide +kernel) (by rfl) ?_
      obtain ⟨q4, h⟩ := h
      refine go_iadd (show decode cX7_findWindow 126 = .ok (.iadd, 1) by decide +kernel) q4 ?_
      obtain ⟨q5, h⟩ := h
      obtain ⟨z10, p11, h⟩ := h
      refine go_callV (d2 := d - 1) (M2 := MX7_unitsAhead) (n := 1) (ci := 7) (av := [vI (x3 + a2)]) (st := []) (show decode cX7_findWindow 127 = .ok (.invokevirtual 184, 3) by decide +kernel) ml_X7_184 mt_X7_unitsAhead min_X7_unitsAhead mse_X7_unitsAhead (by decide) (shc_k hsh 34 (by decide) (by decide)) rfl (Nat.le_of_ble_eq_true rfl) (by omega) (ok_mono p11 (fun w6 S7 F8 G9 e9 => ?_))
      obtain ⟨e1, e2, e3, e4⟩ := e9
      subst e1
      replace e2 := e2.symm; subst e2
      replace e3 := e3.symm; subst e3
      replace e4 := e4.symm; subst e4
      show Go d MX7_findWindow 130 [some (vR 34), some (vI a1), some (vI a2), some (vI a3), some (vI a4), some (vI a5), some (vI a6), some (vI a7), some (vI x3), none, none, none] [vJ z10] S F G Q
      refine go_aload_n (show decode cX7_findWindow 130 = .ok (.aload_n 0, 1) by decide +kernel) (by rfl) ?_
      refine go_iload (show decode cX7_findWindow 131 = .ok (.iload 8, 2) by decide +kernel) (by rfl) ?_
      obtain ⟨z16, p17, h⟩ := h
      refine go_callV (d2 := d - 1) (M2 := MX7_unitsAhead) (n := 1) (ci := 7) (av := [vI x3]) (st := [vJ z10]) (show decode cX7_findWindow 133 = .ok (.invokevirtual 184, 3) by decide +kernel) ml_X7_184 mt_X7_unitsAhead min_X7_unitsAhead mse_X7_unitsAhead (by decide) (shc_k hsh 34 (by decide) (by decide)) rfl (Nat.le_of_ble_eq_true rfl) (by omega) (ok_mono p17 (fun w12 S13 F14 G15 e9 => ?_))
      obtain ⟨e1, e2, e3, e4⟩ := e9
      subst e1
      replace e2 := e2.symm; subst e2
      replace e3 := e3.symm; subst e3
      replace e4 := e4.symm; subst e4
      show Go d MX7_findWindow 136 [some (vR 34), some (vI a1), some (vI a2), some (vI a3), some (vI a4), some (vI a5), some (vI a6), some (vI a7), some (vI x3), none, none, none] [vJ z16, vJ z10] S F G Q
      obtain ⟨q18, h⟩ := h
      refine go_lsub (show decode cX7_findWindow 136 = .ok (.lsub, 1) by decide +kernel) q18 ?_
      obtain ⟨x19, x19e⟩ : ∃ x19 : Int, x19 = z10 - z16 := ⟨_, rfl⟩
      have h := h x19 x19e
      rw [← x19e]
      refine go_lstore (show decode cX7_findWindow 137 = .ok (.lstore 9, 2) by decide +kernel) (by decide) ?_
      show Go d MX7_findWindow 139 [some (vR 34), some (vI a1), some (vI a2), some (vI a3), some (vI a4), some (vI a5), some (vI a6), some (vI a7), some (vI x3), some (vJ x19), none, none] [] S F G Q
      refine go_aload_n (show decode cX7_findWindow 139 = .ok (.aload_n 0, 1) by decide +kernel) (by rfl) ?_
      refine go_getRc (show decode cX7_findWindow 140 = .ok (.getfield 48, 3) by decide +kernel) fl_X7_48 rfl (shc_k hsh 34 (by decide) (by decide)) (v := 43) (shc_r hsh 34 16 (by decide) (by decide) (by decide)) ?_
      refine go_iload (show decode cX7_findWindow 143 = .ok (.iload 6, 2) by decide +kernel) (by rfl) ?_
      obtain ⟨q20, h⟩ := h
      obtain ⟨q21, h⟩ := h
      refine go_iaload (show decode cX7_findWindow 145 = .ok (.iaload, 1) by decide +kernel) (shc_k hsh 43 (by decide) (by decide)) q20 (lt_n (m := 97) q21 (shc_n hsh 43 (by decide) (by decide))) ?_
      refine go_aload_n (show decode cX7_findWindow 146 = .ok (.aload_n 0, 1) by decide +kernel) (by rfl) ?_
      refine go_getI (show decode cX7_findWindow 147 = .ok (.getfield 141, 3) by decide +kernel) fl_X7_141 (Or.inl rfl) (shc_k hsh 34 (by decide) (by decide)) ?_
      obtain ⟨ht, hf⟩ := h
      refine go_icmplt (tgt := 176) (show decode cX7_findWindow 150 = .ok (.if_icmp .lt 26, 3) by decide +kernel) (by decide) (fun hc => ?_) (fun hc => ?_)
      · have h := ht hc
        exact R_X7_findWindow_176 hsh h
      · have h := hf hc
        refine go_aload_n (show decode cX7_findWindow 153 = .ok (.aload_n 0, 1) by decide +kernel) (by rfl) ?_
        refine go_getRc (show decode cX7_findWindow 154 = .ok (.getfield 48, 3) by decide +kernel) fl_X7_48 rfl (shc_k hsh 34 (by decide) (by decide)) (v := 43) (shc_r hsh 34 16 (by decide) (by decide) (by decide)) ?_
        refine go_iload (show decode cX7_findWindow 157 = .ok (.iload 6, 2) by decide +kernel) (by rfl) ?_
        refine go_iaload (show decode cX7_findWindow 159 = .ok (.iaload, 1) by decide +kernel) (shc_k hsh 43 (by decide) (by decide)) q20 (lt_n (m := 97) q21 (shc_n hsh 43 (by decide) (by decide))) ?_
        refine go_aload_n (show decode cX7_findWindow 160 = .ok (.aload_n 0, 1) by decide +kernel) (by rfl) ?_
        refine go_getI (show decode cX7_findWindow 161 = .ok (.getfield 141, 3) by decide +kernel) fl_X7_141 (Or.inl rfl) (shc_k hsh 34 (by decide) (by decide)) ?_
        obtain ⟨ht, hf⟩ := h
        refine go_icmpne (tgt := 180) (show decode cX7_findWindow 164 = .ok (.if_icmp .ne 16, 3) by decide +kernel) (by decide) (fun hc => ?_) (fun hc => ?_)
        · have h := ht hc
          exact R_X7_findWindow_180 hsh h
        · have h := hf hc
          refine go_iload (show decode cX7_findWindow 167 = .ok (.iload 8, 2) by decide +kernel) (by rfl) ?_
          refine go_aload_n (show decode cX7_findWindow 169 = .ok (.aload_n 0, 1) by decide +kernel) (by rfl) ?_
          refine go_getI (show decode cX7_findWindow 170 = .ok (.getfield 144, 3) by decide +kernel) fl_X7_144 (Or.inl rfl) (shc_k hsh 34 (by decide) (by decide)) ?_
          obtain ⟨ht, hf⟩ := h
          refine go_icmpge (tgt := 180) (show decode cX7_findWindow 173 = .ok (.if_icmp .ge 7, 3) by decide +kernel) (by decide) (fun hc => ?_) (fun hc => ?_)
          · have h := ht hc
            exact R_X7_findWindow_180 hsh h
          · have h := hf hc
            exact R_X7_findWindow_176 hsh h
def V_X7_findWindow_55 (d : Nat) (S : AS) (F : AF) (G : AG) (Q : AQ) (a1 : Int) (a2 : Int) (a3 : Int) (a4 : Int) (a5 : Int) (a6 : Int) : Prop :=
  ((a5 ≤ a6) →
    Q none S F G) ∧
  ((¬ a5 ≤ a6) →
    ((97 ≤ a6) →
      Q none S F G) ∧
    ((¬ 97 ≤ a6) →
      ((0 : Int) ≤ a6) ∧
      ((a6 : Int) < 97) ∧
      (r32 ((G 43 a6) + a3)) ∧
      (1 ≤ d) ∧
      Ok (d - 1) MX7_sumColumnsBetween [vR 34, vI a1, vI (G 43 a6), vI ((G 43 a6) + a3)] S F G (fun w5 S6 F7 G8 =>
      S6 = S ∧
      w5 = none ∧
      Go d MX7_findWindow 96 [some (vR 34), some (vI a1), some (vI a2), some (vI a3), some (vI a4), some (vI a5), some (vI a6), some (vI 0), none, none, none, none] [] S F7 G8 Q)))
theorem R_X7_findWindow_55 {d : Nat} {S : AS} {F : AF} {G : AG} {Q : AQ} {a1 : Int} {a2 : Int} {a3 : Int} {a4 : Int} {a5 : Int} {a6 : Int} (hsh : ShC S) (h : V_X7_findWindow_55 d S F G Q a1 a2 a3 a4 a5 a6) : Go d MX7_findWindow 55 [some (vR 34), some (vI a1), some (vI a2), some (vI a3), some (vI a4), some (vI a5), some (vI a6), none, none, none, none, none] [] S F G Q := by
  unfold V_X7_findWindow_55 at h
  refine go_iload (show decode cX7_findWindow 55 = .ok (.iload 6, 2) by decide +kernel) (by rfl) ?_
  refine go_iload (show decode cX7_findWindow 57 = .ok (.iload 5, 2) by decide +kernel) (by rfl) ?_
  obtain ⟨ht, hf⟩ := h
  refine go_icmpge (tgt := 243) (show decode cX7_findWindow 59 = .ok (.if_icmp .ge 184, 3) by decide +kernel) (by decide) (fun hc => ?_) (fun hc => ?_)
  · have h := ht hc
    exact go_vret (show decode cX7_findWindow 243 = .ok (.return_, 1) by decide +kernel) rfl h
  · have h := hf hc
    refine go_iload (show decode cX7_findWindow 62 = .ok (.iload 6, 2) by decide +kernel) (by rfl) ?_
    refine go_aload_n (show decode cX7_findWindow 64 = .ok (.aload_n 0, 1) by decide +kernel) (by rfl) ?_
    refine go_getRc (show decode cX7_findWindow 65 = .ok (.getfield 48, 3) by decide +kernel) fl_X7_48 rfl (shc_k hsh 34 (by decide) (by decide)) (v := 43) (shc_r hsh 34 16 (by decide) (by decide) (by decide)) ?_
    refine go_alenc (show decode cX7_findWindow 68 = .ok (.arraylength, 1) by decide +kernel) (by have h9 : sK S 43 = 20 := (shc_k hsh 43 (by decide) (by decide)); omega) (z := 97) (by rw [(shc_n hsh 43 (by decide) (by decide))]; rfl) ?_
    obtain ⟨ht, hf⟩ := h
    refine go_icmpge (tgt := 243) (show decode cX7_findWindow 69 = .ok (.if_icmp .ge 174, 3) by decide +kernel) (by decide) (fun hc => ?_) (fun hc => ?_)
    · have h := ht hc
      exact go_vret (show decode cX7_findWindow 243 = .ok (.return_, 1) by decide +kernel) rfl h
    · have h := hf hc
      refine go_aload_n (show decode cX7_findWindow 72 = .ok (.aload_n 0, 1) by decide +kernel) (by rfl) ?_
      refine go_iload_n (show decode cX7_findWindow 73 = .ok (.iload_n 1, 1) by decide +kernel) (by rfl) ?_
      refine go_aload_n (show decode cX7_findWindow 74 = .ok (.aload_n 0, 1) by decide +kernel) (by rfl) ?_
      refine go_getRc (show decode cX7_findWindow 75 = .ok (.getfield 48, 3) by decide +kernel) fl_X7_48 rfl (shc_k hsh 34 (by decide) (by decide)) (v := 43) (shc_r hsh 34 16 (by decide) (by decide) (by decide)) ?_
      refine go_iload (show decode cX7_findWindow 78 = .ok (.iload 6, 2) by decide +kernel) (by rfl) ?_
      obtain ⟨q1, h⟩ := h
      obtain ⟨q2, h⟩ := h
      refine go_iaload (show decode cX7_findWindow 80 = .ok (.iaload, 1) by decide +kernel) (shc_k hsh 43 (by decide) (by decide)) q1 (lt_n (m := 97) q2 (shc_n hsh 43 (by decide) (by decide))) ?_
      refine go_aload_n (show decode cX7_findWindow 81 = .ok (.aload_n 0, 1) by decide +kernel) (by rfl) ?_
      refine go_getRc (show decode cX7_findWindow 82 = .ok (.getfield 48, 3) by decide +kernel) fl_X7_48 rfl (shc_k hsh 34 (by decide) (by decide)) (v := 43) (shc_r hsh 34 16 (by decide) (by decide) (by decide)) ?_
      refine go_iload (show decode cX7_findWindow 85 = .ok (.iload 6, 2) by decide +kernel) (by rfl) ?_
      refine go_iaload (show decode cX7_findWindow 87 = .ok (.iaload, 1) by decide +kernel) (shc_k hsh 43 (by decide) (by decide)) q1 (lt_n (m := 97) q2 (shc_n hsh 43 (by decide) (by decide))) ?_
      refine go_iload_n (show decode cX7_findWindow 88 = .ok (.iload_n 3, 1) by decide +kernel) (by rfl) ?_
      obtain ⟨q3, h⟩ := h
      refine go_iadd (show decode cX7_findWindow 89 = .ok (.iadd, 1) by decide +kernel) q3 ?_
      obtain ⟨q4, h⟩ := h
      refine go_callV (d2 := d - 1) (M2 := MX7_sumColumnsBetween) (n := 3) (ci := 7) (av := [vI a1, vI (G 43 a6), vI ((G 43 a6) + a3)]) (st := []) (show decode cX7_findWindow 90 = .ok (.invokevirtual 181, 3) by decide +kernel) ml_X7_181 mt_X7_sumColumnsBetween min_X7_sumColumnsBetween mse_X7_sumColumnsBetween (by decide) (shc_k hsh 34 (by decide) (by decide)) rfl (Nat.le_of_ble_eq_true rfl) (by omega) (ok_mono h (fun w5 S6 F7 G8 h => ?_))
      obtain ⟨e8, h⟩ := h
      replace e8 := e8.symm; subst e8
      obtain ⟨e9, h⟩ := h
      subst e9
      show Go d MX7_findWindow 93 [some (vR 34), some (vI a1), some (vI a2), some (vI a3), some (vI a4), some (vI a5), some (vI a6), none, none, none, none, none] [] S F7 G8 Q
      refine go_iconst (show decode cX7_findWindow 93 = .ok (.iconst 0, 1) by decide +kernel) (by decide) ?_
      refine go_istore (show decode cX7_findWindow 94 = .ok (.istore 7, 2) by decide +kernel) (by decide) ?_
      show Go d MX7_findWindow 96 [some (vR 34), some (vI a1), some (vI a2), some (vI a3), some (vI a4), some (vI a5), some (vI a6), some (vI 0), none, none, none, none] [] S F7 G8 Q
      exact h
def V_X7_findWindow_0 (d : Nat) (S : AS) (F : AF) (G : AG) (Q : AQ) (a1 : Int) (a2 : Int) (a3 : Int) : Prop :=
  (1 ≤ d) ∧
  Ok (d - 1) MX7_gatherStarts [vR 4, vI a2, vR 42] S F G (fun w2 S3 F4 G5 =>
  S3 = S ∧
  ∃ z6 : Int, w2 = some (vI z6) ∧
  Ok (d - 1) MX7_gatherStarts [vR 11, vI a3, vR 43] S F4 G5 (fun w7 S8 F9 G10 =>
  S8 = S ∧
  ∃ z11 : Int, w7 = some (vI z11) ∧
  Ok (d - 1) MX7_sumColumnsAbove [vR 34, vI a1] S F9 G10 (fun w12 S13 F14 G15 =>
  S13 = S ∧
  w12 = none ∧
  ∀ F16 : AF, F16 = fu F14 34 8 (-1) →
  Go d MX7_findWindow 55 [some (vR 34), some (vI a1), some (vI a2), some (vI a3), some (vI z6), some (vI z11), some (vI 0), none, none, none, none, none] [] S F16 G15 Q)))
theorem R_X7_findWindow_0 {d : Nat} {S : AS} {F : AF} {G : AG} {Q : AQ} {a1 : Int} {a2 : Int} {a3 : Int} (hsh : ShC S) (h : V_X7_findWindow_0 d S F G Q a1 a2 a3) : Go d MX7_findWindow 0 [some (vR 34), some (vI a1), some (vI a2), some (vI a3), none, none, none, none, none, none, none, none] [] S F G Q := by
  unfold V_X7_findWindow_0 at h
  refine go_aload_n (show decode cX7_findWindow 0 = .ok (.aload_n 0, 1) by decide +kernel) (by rfl) ?_
  refine go_getRc (show decode cX7_findWindow 1 = .ok (.getfield 12, 3) by decide +kernel) fl_X7_12 rfl (shc_k hsh 34 (by decide) (by decide)) (v := 2) (shc_r hsh 34 0 (by decide) (by decide) (by decide)) ?_
  refine go_getRc (show decode cX7_findWindow 4 = .ok (.getfield 61, 3) by decide +kernel) fl_X7_61 rfl (shc_k hsh 2 (by decide) (by decide)) (v := 3) (shc_r hsh 2 0 (by decide) (by decide) (by decide)) ?_
  refine go_getRc (show decode cX7_findWindow 7 = .ok (.getfield 55, 3) by decide +kernel) fl_X7_55 rfl (shc_k hsh 3 (by decide) (by decide)) (v := 4) (shc_r hsh 3 0 (by decide) (by decide) (by decide)) ?_
  refine go_iload_n (show decode cX7_findWindow 10 = .ok (.iload_n 2, 1) by decide +kernel) (by rfl) ?_
  refine go_aload_n (show decode cX7_findWindow 11 = .ok (.aload_n 0, 1) by decide +kernel) (by rfl) ?_
  refine go_getRc (show decode cX7_findWindow 12 = .ok (.getfield 45, 3) by decide +kernel) fl_X7_45 rfl (shc_k hsh 34 (by decide) (by decide)) (v := 42) (shc_r hsh 34 15 (by decide) (by decide) (by decide)) ?_
  obtain ⟨q1, h⟩ := h
  refine go_callS (d2 := d - 1) (M2 := MX7_gatherStarts) (n := 3) (av := [vR 4, vI a2, vR 42]) (st := []) (show decode cX7_findWindow 15 = .ok (.invokestatic 173, 3) by decide +kernel) ml_X7_173 mt_X7_gatherStarts mst_X7_gatherStarts rfl (Nat.le_of_ble_eq_true rfl) (by omega) (ok_mono h (fun w2 S3 F4 G5 h => ?_))
  obtain ⟨e8, h⟩ := h
  replace e8 := e8.symm; subst e8
  obtain ⟨z6, e9, h⟩ := h
  subst e9
  show Go d MX7_findWindow 18 [some (vR 34), some (vI a1), some (vI a2), some (vI a3), none, none, none, none, none, none, none, none] [vI z6] S F4 G5 Q
  refine go_istore (show decode cX7_findWindow 18 = .ok (.istore 4, 2) by decide +kernel) (by decide) ?_
  show Go d MX7_findWindow 20 [some (vR 34), some (vI a1), some (vI a2), some (vI a3), some (vI z6), none, none, none, none, none, none, none] [] S F4 G5 Q
  refine go_aload_n (show decode cX7_findWindow 20 = .ok (.aload_n 0, 1) by decide +kernel) (by rfl) ?_
  refine go_getRc (show decode cX7_findWindow 21 = .ok (.getfield 12, 3) by decide +kernel) fl_X7_12 rfl (shc_k hsh 34 (by decide) (by decide)) (v := 2) (shc_r hsh 34 0 (by decide) (by decide) (by decide)) ?_
  refine go_getRc (show decode cX7_findWindow 24 = .ok (.getfield 51, 3) by decide +kernel) fl_X7_51 rfl (shc_k hsh 2 (by decide) (by decide)) (v := 10) (shc_r hsh 2 1 (by decide) (by decide) (by decide)) ?_
  refine go_getRc (show decode cX7_findWindow 27 = .ok (.getfield 55, 3) by decide +kernel) fl_X7_55 rfl (shc_k hsh 10 (by decide) (by decide)) (v := 11) (shc_r hsh 10 0 (by decide) (by decide) (by decide)) ?_
  refine go_iload_n (show decode cX7_findWindow 30 = .ok (.iload_n 3, 1) by decide +kernel) (by rfl) ?_
  refine go_aload_n (show decode cX7_findWindow 31 = .ok (.aload_n 0, 1) by decide +kernel) (by rfl) ?_
  refine go_getRc (show decode cX7_findWindow 32 = .ok (.getfield 48, 3) by decide +kernel) fl_X7_48 rfl (shc_k hsh 34 (by decide) (by decide)) (v := 43) (shc_r hsh 34 16 (by decide) (by decide) (by decide)) ?_
  refine go_callS (d2 := d - 1) (M2 := MX7_gatherStarts) (n := 3) (av := [vR 11, vI a3, vR 43]) (st := []) (show decode cX7_findWindow 35 = .ok (.invokestatic 173, 3) by decide +kernel) ml_X7_173 mt_X7_gatherStarts mst_X7_gatherStarts rfl (Nat.le_of_ble_eq_true rfl) (by omega) (ok_mono h (fun w7 S8 F9 G10 h => ?_))
  obtain ⟨e8, h⟩ := h
  replace e8 := e8.symm; subst e8
  obtain ⟨z11, e9, h⟩ := h
  subst e9
  show Go d MX7_findWindow 38 [some (vR 34), some (vI a1), some (vI a2), some (vI a3), some (vI z6), none, none, none, none, none, none, none] [vI z11] S F9 G10 Q
  refine go_istore (show decode cX7_findWindow 38 = .ok (.istore 5, 2) by decide +kernel) (by decide) ?_
  show Go d MX7_findWindow 40 [some (vR 34), some (vI a1), some (vI a2), some (vI a3), some (vI z6), some (vI z11), none, none, none, none, none, none] [] S F9 G10 Q
  refine go_aload_n (show decode cX7_findWindow 40 = .ok (.aload_n 0, 1) by decide +kernel) (by rfl) ?_
  refine go_iload_n (show decode cX7_findWindow 41 = .ok (.iload_n 1, 1) by decide +kernel) (by rfl) ?_
  refine go_callV (d2 := d - 1) (M2 := MX7_sumColumnsAbove) (n := 1) (ci := 7) (av := [vI a1]) (st := []) (show decode cX7_findWindow 42 = .ok (.invokevirtual 177, 3) by decide +kernel) ml_X7_177 mt_X7_sumColumnsAbove min_X7_sumColumnsAbove mse_X7_sumColumnsAbove (by decide) (shc_k hsh 34 (by decide) (by decide)) rfl (Nat.le_of_ble_eq_true rfl) (by omega) (ok_mono h (fun w12 S13 F14 G15 h => ?_))
  obtain ⟨e8, h⟩ := h
  replace e8 := e8.symm; subst e8
  obtain ⟨e9, h⟩ := h
  subst e9
  show Go d MX7_findWindow 45 [some (vR 34), some (vI a1), some (vI a2), some (vI a3), some (vI z6), some (vI z11), none, none, none, none, none, none] [] S F14 G15 Q
  refine go_aload_n (show decode cX7_findWindow 45 = .ok (.aload_n 0, 1) by decide +kernel) (by rfl) ?_
  refine go_ldc2 (show decode cX7_findWindow 46 = .ok (.ldc2_w 168, 3) by decide +kernel) lc_X7_168 (by decide) ?_
  refine go_putJ (show decode cX7_findWindow 49 = .ok (.putfield 170, 3) by decide +kernel) fl_X7_170 rfl (Or.inl rfl) (shc_k hsh 34 (by decide) (by decide)) ?_
  obtain ⟨F16, F16e⟩ : ∃ F16 : AF, F16 = fu F14 34 8 (-1) := ⟨_, rfl⟩
  have h := h F16 F16e
  rw [← F16e]
  refine go_iconst (show decode cX7_findWindow 52 = .ok (.iconst 0, 1) by decide +kernel) (by decide) ?_
  refine go_istore (show decode cX7_findWindow 53 = .ok (.istore 6, 2) by decide +kernel) (by decide) ?_
  show Go d MX7_findWindow 55 [some (vR 34), some (vI a1), some (vI a2), some (vI a3), some (vI z6), some (vI z11), some (vI 0), none, none, none, none, none] [] S F16 G15 Q
  exact h
def V_X7_gatherStarts_87 (d : Nat) (S : AS) (F : AF) (G : AG) (Q : AQ) (a0 : Nat) (a1 : Int) (a2 : Nat) (a3 : Int) (a4 : Int) (a5 : Int) : Prop :=
  (r32 (a5 + 1)) ∧
  Go d MX7_gatherStarts 17 [some (vR a0), some (vI a1), some (vR a2), some (vI a3), some (vI a4), some (vI (a5 + 1))] [] S F G Q
theorem R_X7_gatherStarts_87 {d : Nat} {S : AS} {F : AF} {G : AG} {Q : AQ} {a0 : Nat} {a1 : Int} {a2 : Nat} {a3 : Int} {a4 : Int} {a5 : Int} (hsh : ShC S) (hk0 : AtCuts S a0) (hk2 : AtI S a2) (h : V_X7_gatherStarts_87 d S F G Q a0 a1 a2 a3 a4 a5) : Go d MX7_gatherStarts 87 [some (vR a0), some (vI a1), some (vR a2), some (vI a3), some (vI a4), some (vI a5)] [] S F G Q := by
  unfold V_X7_gatherStarts_87 at h
  obtain ⟨q1, h⟩ := h
  refine go_iinc (show decode cX7_gatherStarts 87 = .ok (.iinc 5 1, 3) by decide +kernel) (by rfl) q1 (by decide) ?_
  show Go d MX7_gatherStarts 90 [some (vR a0), some (vI a1), some (vR a2), some (vI a3), some (vI a4), some (vI (a5 + 1))] [] S F G Q
  refine go_goto (tgt := 17) (show decode cX7_gatherStarts 90 = .ok (.goto (-73), 3) by decide +kernel) (by decide) ?_
  exact h
def V_X7_gatherStarts_60 (d : Nat) (S : AS) (F : AF) (G : AG) (Q : AQ) (a0 : Nat) (a1 : Int) (a2 : Nat) (a3 : Int) (a4 : Int) (a5 : Int) : Prop :=
  ((0 : Int) ≤ a5) ∧
  ((a5 : Int) < 105) ∧
  ((G (a0 + 1) a5 < a1) →
    V_X7_gatherStarts_87 d S F G Q a0 a1 a2 a3 a4 a5) ∧
  ((¬ G (a0 + 1) a5 < a1) →
    (r32 ((G (a0 + 1) a5) - a1)) ∧
    ((0 : Int) ≤ a4) ∧
    ((a4 : Int) < (sN S a2 : Int)) ∧
    ∀ G6 : AG, G6 = gu G a2 a4 ((G (a0 + 1) a5) - a1) →
    (r32 (a4 + 1)) ∧
    V_X7_gatherStarts_87 d S F G6 Q a0 a1 a2 a3 (a4 + 1) a5)
theorem R_X7_gatherStarts_60 {d : Nat} {S : AS} {F : AF} {G : AG} {Q : AQ} {a0 : Nat} {a1 : Int} {a2 : Nat} {a3 : Int} {a4 : Int} {a5 : Int} (hsh : ShC S) (hk0 : AtCuts S a0) (hk2 : AtI S a2) (h : V_X7_gatherStarts_60 d S F G Q a0 a1 a2 a3 a4 a5) : Go d MX7_gatherStarts 60 [some (vR a0), some (vI a1), some (vR a2), some (vI a3), some (vI a4), some (vI a5)] [] S F G Q := by
  unfold V_X7_gatherStarts_60 at h
  refine go_aload_n (show decode cX7_gatherStarts 60 = .ok (.aload_n 0, 1) by decide +kernel) (by rfl) ?_
  refine go_getRc (show decode cX7_gatherStarts 61 = .ok (.getfield 118, 3) by decide +kernel) fl_X7_118 rfl hk0.1 (v := (a0 + 1)) hk0.2.1 ?_
  refine go_iload (show decode cX7_gatherStarts 64 = .ok (.iload 5, 2) by decide +kernel) (by rfl) ?_
  obtain ⟨q1, h⟩ := h
  obtain ⟨q2, h⟩ := h
  refine go_iaload (show decode cX7_gatherStarts 66 = .ok (.iaload, 1) by decide +kernel) hk0.2.2.1 q1 (lt_n (m := 105) q2 hk0.2.2.2) ?_
  refine go_iload_n (show decode cX7_gatherStarts 67 = .ok (.iload_n 1, 1) by decide +kernel) (by rfl) ?_
  obtain ⟨ht, hf⟩ := h
  refine go_icmplt (tgt := 87) (show decode cX7_gatherStarts 68 = .ok (.if_icmp .lt 19, 3) by decide +kernel) (by decide) (fun hc => ?_) (fun hc => ?_)
  · have h := ht hc
    exact R_X7_gatherStarts_87 hsh hk0 hk2 h
  · have h := hf hc
    refine go_aload_n (show decode cX7_gatherStarts 71 = .ok (.aload_n 2, 1) by decide +kernel) (by rfl) ?_
    refine go_iload (show decode cX7_gatherStarts 72 = .ok (.iload 4, 2) by decide +kernel) (by rfl) ?_
    refine go_aload_n (show decode cX7_gatherStarts 74 = .ok (.aload_n 0, 1) by decide +kernel) (by rfl) ?_
    refine go_getRc (show decode cX7_gatherStarts 75 = .ok (.getfield 118, 3) by decide +kernel) fl_X7_118 rfl hk0.1 (v := (a0 + 1)) hk0.2.1 ?_
    refine go_iload (show decode cX7_gatherStarts 78 = .ok (.iload 5, 2) by decide +kernel) (by rfl) ?_
    refine go_iaload (show decode cX7_gatherStarts 80 = .ok (.iaload, 1) by decide +kernel) hk0.2.2.1 q1 (lt_n (m := 105) q2 hk0.2.2.2) ?_
    refine go_iload_n (show decode cX7_gatherStarts 81 = .ok (.iload_n 1, 1) by decide +kernel) (by rfl) ?_
    obtain ⟨q3, h⟩ := h
    refine go_isub (show decode cX7_gatherStarts 82 = .ok (.isub, 1) by decide +kernel) q3 ?_
    obtain ⟨q4, h⟩ := h
    obtain ⟨q5, h⟩ := h
    refine go_iastore (show decode cX7_gatherStarts 83 = .ok (.iastore, 1) by decide +kernel) hk2 q4 q5  ?_
    obtain ⟨G6, G6e⟩ : ∃ G6 : AG, G6 = gu G a2 a4 ((G (a0 + 1) a5) - a1) := ⟨_, rfl⟩
    have h := h G6 G6e
    rw [← G6e]
    obtain ⟨q7, h⟩ := h
    refine go_iinc (show decode cX7_gatherStarts 84 = .ok (.iinc 4 1, 3) by decide +kernel) (by rfl) q7 (by decide) ?_
    show Go d MX7_gatherStarts 87 [some (vR a0), some (vI a1), some (vR a2), some (vI a3), some (vI (a4 + 1)), some (vI a5)] [] S F G6 Q
    exact R_X7_gatherStarts_87 hsh hk0 hk2 h
def V_X7_gatherStarts_17 (d : Nat) (S : AS) (F : AF) (G : AG) (Q : AQ) (a0 : Nat) (a1 : Int) (a2 : Nat) (a3 : Int) (a4 : Int) (a5 : Int) : Prop :=
  ((F a0 1 ≤ a5) →
    Q (some (vI a4)) S F G) ∧
  ((¬ F a0 1 ≤ a5) →
    (r32 (a4 + 1)) ∧
    (((sN S a2 : Int) ≤ a4 + 1) →
      Q (some (vI a4)) S F G) ∧
    ((¬ (sN S a2 : Int) ≤ a4 + 1) →
      ((0 : Int) ≤ a5) ∧
      ((a5 : Int) < 105) ∧
      ((a3 ≤ G (a0 + 1) a5) →
        V_X7_gatherStarts_60 d S F G Q a0 a1 a2 a3 a4 a5) ∧
      ((¬ a3 ≤ G (a0 + 1) a5) →
        ((0 : Int) ≤ a4) ∧
        ((a4 : Int) < (sN S a2 : Int)) ∧
        ∀ G6 : AG, G6 = gu G a2 a4 (G (a0 + 1) a5) →
        V_X7_gatherStarts_60 d S F G6 Q a0 a1 a2 a3 (a4 + 1) a5)))
theorem R_X7_gatherStarts_17 {d : Nat} {S : AS} {F : AF} {G : AG} {Q : AQ} {a0 : Nat} {a1 : Int} {a2 : Nat} {a3 : Int} {a4 : Int} {a5 : Int} (hsh : ShC S) (hk0 : AtCuts S a0) (hk2 : AtI S a2) (h : V_X7_gatherStarts_17 d S F G Q a0 a1 a2 a3 a4 a5) : Go d MX7_gatherStarts 17 [some (vR a0), some (vI a1), some (vR a2), some (vI a3), some (vI a4), some (vI a5)] [] S F G Q := by
  unfold V_X7_gatherStarts_17 at h
  refine go_iload (show decode cX7_gatherStarts 17 = .ok (.iload 5, 2) by decide +kernel) (by rfl) ?_
  refine go_aload_n (show decode cX7_gatherStarts 19 = .ok (.aload_n 0, 1) by decide +kernel) (by rfl) ?_
  refine go_getI (show decode cX7_gatherStarts 20 = .ok (.getfield 135, 3) by decide +kernel) fl_X7_135 (Or.inl rfl) hk0.1 ?_
  obtain ⟨ht, hf⟩ := h
  refine go_icmpge (tgt := 93) (show decode cX7_gatherStarts 23 = .ok (.if_icmp .ge 70, 3) by decide +kernel) (by decide) (fun hc => ?_) (fun hc => ?_)
  · have h := ht hc
    refine go_iload (show decode cX7_gatherStarts 93 = .ok (.iload 4, 2) by decide +kernel) (by rfl) ?_
    exact go_iret (show decode cX7_gatherStarts 95 = .ok (.ireturn, 1) by decide +kernel) rfl h
  · have h := hf hc
    refine go_iload (show decode cX7_gatherStarts 26 = .ok (.iload 4, 2) by decide +kernel) (by rfl) ?_
    refine go_iconst (show decode cX7_gatherStarts 28 = .ok (.iconst 1, 1) by decide +kernel) (by decide) ?_
    obtain ⟨q1, h⟩ := h
    refine go_iadd (show decode cX7_gatherStarts 29 = .ok (.iadd, 1) by decide +kernel) q1 ?_
    refine go_aload_n (show decode cX7_gatherStarts 30 = .ok (.aload_n 2, 1) by decide +kernel) (by rfl) ?_
    refine go_alen (show decode cX7_gatherStarts 31 = .ok (.arraylength, 1) by decide +kernel) (by have h9 : sK S a2 = 20 := hk2; omega) ?_
    obtain ⟨ht, hf⟩ := h
    refine go_icmpge (tgt := 93) (show decode cX7_gatherStarts 32 = .ok (.if_icmp .ge 61, 3) by decide +kernel) (by decide) (fun hc => ?_) (fun hc => ?_)
    · have h := ht hc
      refine go_iload (show decode cX7_gatherStarts 93 = .ok (.iload 4, 2) by decide +kernel) (by rfl) ?_
      exact go_iret (show decode cX7_gatherStarts 95 = .ok (.ireturn, 1) by decide +kernel) rfl h
    · have h := hf hc
      refine go_aload_n (show decode cX7_gatherStarts 35 = .ok (.aload_n 0, 1) by decide +kernel) (by rfl) ?_
      refine go_getRc (show decode cX7_gatherStarts 36 = .ok (.getfield 118, 3) by decide +kernel) fl_X7_118 rfl hk0.1 (v := (a0 + 1)) hk0.2.1 ?_
      refine go_iload (show decode cX7_gatherStarts 39 = .ok (.iload 5, 2) by decide +kernel) (by rfl) ?_
      obtain ⟨q2, h⟩ := h
      obtain ⟨q3, h⟩ := h
      refine go_iaload (show decode cX7_gatherStarts 41 = .ok (.iaload, 1) by decide +kernel) hk0.2.2.1 q2 (lt_n (m := 105) q3 hk0.2.2.2) ?_
      refine go_iload_n (show decode cX7_gatherStarts 42 = .ok (.iload_n 3, 1) by decide +kernel) (by rfl) ?_
      obtain ⟨ht, hf⟩ := h
      refine go_icmpge (tgt := 60) (show decode cX7_gatherStarts 43 = .ok (.if_icmp .ge 17, 3) by decide +kernel) (by decide) (fun hc => ?_) (fun hc => ?_)
      · have h := ht hc
        exact R_X7_gatherStarts_60 hsh hk0 hk2 h
      · have h := hf hc
        refine go_aload_n (show decode cX7_gatherStarts 46 = .ok (.aload_n 2, 1) by decide +kernel) (by rfl) ?_
        refine go_iload (show decode cX7_gatherStarts 47 = .ok (.iload 4, 2) by decide +kernel) (by rfl) ?_
        refine go_aload_n (show decode cX7_gatherStarts 49 = .ok (.aload_n 0, 1) by decide +kernel) (by rfl) ?_
        refine go_getRc (show decode cX7_gatherStarts 50 = .ok (.getfield 118, 3) by decide +kernel) fl_X7_118 rfl hk0.1 (v := (a0 + 1)) hk0.2.1 ?_
        refine go_iload (show decode cX7_gatherStarts 53 = .ok (.iload 5, 2) by decide +kernel) (by rfl) ?_
        refine go_iaload (show decode cX7_gatherStarts 55 = .ok (.iaload, 1) by decide +kernel) hk0.2.2.1 q2 (lt_n (m := 105) q3 hk0.2.2.2) ?_
        obtain ⟨q4, h⟩ := h
        obtain ⟨q5, h⟩ := h
        refine go_iastore (show decode cX7_gatherStarts 56 = .ok (.iastore, 1) by decide +kernel) hk2 q4 q5  ?_
        obtain ⟨G6, G6e⟩ : ∃ G6 : AG, G6 = gu G a2 a4 (G (a0 + 1) a5) := ⟨_, rfl⟩
        have h := h G6 G6e
        rw [← G6e]
        refine go_iinc (show decode cX7_gatherStarts 57 = .ok (.iinc 4 1, 3) by decide +kernel) (by rfl) q1 (by decide) ?_
        show Go d MX7_gatherStarts 60 [some (vR a0), some (vI a1), some (vR a2), some (vI a3), some (vI (a4 + 1)), some (vI a5)] [] S F G6 Q
        exact R_X7_gatherStarts_60 hsh hk0 hk2 h
def V_X7_gatherStarts_0 (d : Nat) (S : AS) (F : AF) (G : AG) (Q : AQ) (a0 : Nat) (a1 : Int) (a2 : Nat) : Prop :=
  (r32 ((F a0 2) - a1)) ∧
  ∀ x2 : Int, x2 = (F a0 2) - a1 →
  ((0 : Int) < (sN S a2 : Int)) ∧
  ∀ G4 : AG, G4 = gu G a2 0 x2 →
  Go d MX7_gatherStarts 17 [some (vR a0), some (vI a1), some (vR a2), some (vI x2), some (vI 1), some (vI 0)] [] S F G4 Q
theorem R_X7_gatherStarts_0 {d : Nat} {S : AS} {F : AF} {G : AG} {Q : AQ} {a0 : Nat} {a1 : Int} {a2 : Nat} (hsh : ShC S) (hk0 : AtCuts S a0) (hk2 : AtI S a2) (h : V_X7_gatherStarts_0 d S F G Q a0 a1 a2) : Go d MX7_gatherStarts 0 [some (vR a0), some (vI a1), some (vR a2), none, none, none] [] S F G Q := by
  unfold V_X7_gatherStarts_0 at h
  refine go_aload_n (show decode cX7_gatherStarts 0 = .ok (.aload_n 0, 1) by decide +kernel) (by rfl) ?_
  refine go_getI (show decode cX7_gatherStarts 1 = .ok (.getfield 92, 3) by decide +kernel) fl_X7_92 (Or.inl rfl) hk0.1 ?_
  refine go_iload_n (show decode cX7_gatherStarts 4 = .ok (.iload_n 1, 1) by decide +kernel) (by rfl) ?_
  obtain ⟨q1, h⟩ := h
  refine go_isub (show decode cX7_gatherStarts 5 = .ok (.isub, 1) by decide +kernel) q1 ?_
  obtain ⟨x2, x2e⟩ : ∃ x2 : Int, x2 = (F a0 2) - a1 := ⟨_, rfl⟩
  have h := h x2 x2e
  rw [← x2e]
  refine go_istore_n (show decode cX7_gatherStarts 6 = .ok (.istore_n 3, 1) by decide +kernel) (by decide) ?_
  show Go d MX7_gatherStarts 7 [some (vR a0), some (vI a1), some (vR a2), some (vI x2), none, none] [] S F G Q
  refine go_aload_n (show decode cX7_gatherStarts 7 = .ok (.aload_n 2, 1) by decide +kernel) (by rfl) ?_
  refine go_iconst (show decode cX7_gatherStarts 8 = .ok (.iconst 0, 1) by decide +kernel) (by decide) ?_
  refine go_iload_n (show decode cX7_gatherStarts 9 = .ok (.iload_n 3, 1) by decide +kernel) (by rfl) ?_
  obtain ⟨q3, h⟩ := h
  refine go_iastore (show decode cX7_gatherStarts 10 = .ok (.iastore, 1) by decide +kernel) hk2 (by decide) q3  ?_
  obtain ⟨G4, G4e⟩ : ∃ G4 : AG, G4 = gu G a2 0 x2 := ⟨_, rfl⟩
  have h := h G4 G4e
  rw [← G4e]
  refine go_iconst (show decode cX7_gatherStarts 11 = .ok (.iconst 1, 1) by decide +kernel) (by decide) ?_
  refine go_istore (show decode cX7_gatherStarts 12 = .ok (.istore 4, 2) by decide +kernel) (by decide) ?_
  show Go d MX7_gatherStarts 14 [some (vR a0), some (vI a1), some (vR a2), some (vI x2), some (vI 1), none] [] S F G4 Q
  refine go_iconst (show decode cX7_gatherStarts 14 = .ok (.iconst 0, 1) by decide +kernel) (by decide) ?_
  refine go_istore (show decode cX7_gatherStarts 15 = .ok (.istore 5, 2) by decide +kernel) (by decide) ?_
  show Go d MX7_gatherStarts 17 [some (vR a0), some (vI a1), some (vR a2), some (vI x2), some (vI 1), some (vI 0)] [] S F G4 Q
  exact h
def V_X7_sumColumnsAbove_40 (d : Nat) (S : AS) (F : AF) (G : AG) (Q : AQ) (a1 : Int) (a2 : Nat) (a3 : Nat) (a4 : Int) (a5 : Int) (a7 : Int) : Prop :=
  ((F a3 1 ≤ a7) →
    (r32 (a4 + 1)) ∧
    Go d MX7_sumColumnsAbove 25 [some (vR 34), some (vI a1), some (vR a2), some (vR a3), some (vI (a4 + 1)), none, none, none, none] [] S F G Q) ∧
  ((¬ F a3 1 ≤ a7) →
    (r32 (48 * a7)) ∧
    (r32 ((48 * a7) + a4)) ∧
    ∀ x4 : Int, x4 = (48 * a7) + a4 →
    ((0 : Int) ≤ x4) ∧
    ((x4 : Int) < 2304) ∧
    ∀ G7 : AG, G7 = gu G 39 x4 a5 →
    (1 ≤ d) ∧
    ∃ z13 : Int, Pu (d - 1) MX2_unitsAt [vR 2, vI a1, vI x4] S F G7 (some (vJ z13)) ∧
    ∃ z19 : Int, Pu (d - 1) MX1_widthOf [vR a3, vI a7] S F G7 (some (vI z19)) ∧
    (r64 (z13 * z19)) ∧
    (r64 (a5 + (z13 * z19))) ∧
    ∀ x23 : Int, x23 = a5 + (z13 * z19) →
    (r32 (a7 + 1)) ∧
    Go d MX7_sumColumnsAbove 40 [some (vR 34), some (vI a1), some (vR a2), some (vR a3), some (vI a4), some (vJ x23), none, some (vI (a7 + 1)), none] [] S F G7 Q)
theorem R_X7_sumColumnsAbove_40 {d : Nat} {S : AS} {F : AF} {G : AG} {Q : AQ} {a1 : Int} {a2 : Nat} {a3 : Nat} {a4 : Int} {a5 : Int} {a7 : Int} (hsh : ShC S) (hk2 : AtCuts S a2) (hk3 : AtCuts S a3) (h : V_X7_sumColumnsAbove_40 d S F G Q a1 a2 a3 a4 a5 a7) : Go d MX7_sumColumnsAbove 40 [some (vR 34), some (vI a1), some (vR a2), some (vR a3), some (vI a4), some (vJ a5), none, some (vI a7), none] [] S F G Q := by
  unfold V_X7_sumColumnsAbove_40 at h
  refine go_iload (show decode cX7_sumColumnsAbove 40 = .ok (.iload 7, 2) by decide +kernel) (by rfl) ?_
  refine go_aload_n (show decode cX7_sumColumnsAbove 42 = .ok (.aload_n 3, 1) by decide +kernel) (by rfl) ?_
  refine go_getI (show decode cX7_sumColumnsAbove 43 = .ok (.getfield 135, 3) by decide +kernel) fl_X7_135 (Or.inl rfl) hk3.1 ?_
  obtain ⟨ht, hf⟩ := h
  refine go_icmpge (tgt := 97) (show decode cX7_sumColumnsAbove 46 = .ok (.if_icmp .ge 51, 3) by decide +kernel) (by decide) (fun hc => ?_) (fun hc => ?_)
  · have h := ht hc
    obtain ⟨q1, h⟩ := h
    refine go_iinc (show decode cX7_sumColumnsAbove 97 = .ok (.iinc 4 1, 3) by decide +kernel) (by rfl) q1 (by decide) ?_
    show Go d MX7_sumColumnsAbove 100 [some (vR 34), some (vI a1), some (vR a2), some (vR a3), some (vI (a4 + 1)), some (vJ a5), none, some (vI a7), none] [] S F G Q
    refine go_goto (tgt := 25) (show decode cX7_sumColumnsAbove 100 = .ok (.goto (-75), 3) by decide +kernel) (by decide) ?_
    refine go_clr 5 ?_
    refine go_clr 7 ?_
    exact h
  · have h := hf hc
    refine go_bipush (show decode cX7_sumColumnsAbove 49 = .ok (.bipush 48, 2) by decide +kernel) (by decide) ?_
    refine go_iload (show decode cX7_sumColumnsAbove 51 = .ok (.iload 7, 2) by decide +kernel) (by rfl) ?_
    obtain ⟨q2, h⟩ := h
    refine go_imul (show decode cX7_sumColumnsAbove 53 = .ok (.imul, 1) by decide +kernel) q2 ?_
    refine go_iload (show decode cX7_sumColumnsAbove 54 = .ok (.iload 4, 2) by decide +kernel) (by rfl) ?_
    obtain ⟨q3, h⟩ := h
    refine go_iadd (show decode cX7_sumColumnsAbove 56 = .ok (.iadd, 1) by decide +kernel) q3 ?_
    obtain ⟨x4, x4e⟩ : ∃ x4 : Int, x4 = (48 * a7) + a4 := ⟨_, rfl⟩
    have h := h x4 x4e
    rw [← x4e]
    refine go_istore (show decode cX7_sumColumnsAbove 57 = .ok (.istore 8, 2) by decide +kernel) (by decide) ?_
    show Go d MX7_sumColumnsAbove 59 [some (vR 34), some (vI a1), some (vR a2), some (vR a3), some (vI a4), some (vJ a5), none, some (vI a7), some (vI x4)] [] S F G Q
    refine go_aload_n (show decode cX7_sumColumnsAbove 59 = .ok (.aload_n 0, 1) by decide +kernel) (by rfl) ?_
    refine go_getRc (show decode cX7_sumColumnsAbove 60 = .ok (.getfield 35, 3) by decide +kernel) fl_X7_35 rfl (shc_k hsh 34 (by decide) (by decide)) (v := 39) (shc_r hsh 34 12 (by decide) (by decide) (by decide)) ?_
    refine go_iload (show decode cX7_sumColumnsAbove 63 = .ok (.iload 8, 2) by decide +kernel) (by rfl) ?_
    refine go_lload (show decode cX7_sumColumnsAbove 65 = .ok (.lload 5, 2) by decide +kernel) (by rfl) ?_
    obtain ⟨q5, h⟩ := h
    obtain ⟨q6, h⟩ := h
    refine go_lastore (show decode cX7_sumColumnsAbove 67 = .ok (.lastore, 1) by decide +kernel) (shc_k hsh 39 (by decide) (by decide)) q5 (lt_n (m := 2304) q6 (shc_n hsh 39 (by decide) (by decide)))  ?_
    obtain ⟨G7, G7e⟩ : ∃ G7 : AG, G7 = gu G 39 x4 a5 := ⟨_, rfl⟩
    have h := h G7 G7e
    rw [← G7e]
    refine go_lload (show decode cX7_sumColumnsAbove 68 = .ok (.lload 5, 2) by decide +kernel) (by rfl) ?_
    refine go_aload_n (show decode cX7_sumColumnsAbove 70 = .ok (.aload_n 0, 1) by decide +kernel) (by rfl) ?_
    refine go_getRc (show decode cX7_sumColumnsAbove 71 = .ok (.getfield 12, 3) by decide +kernel) fl_X7_12 rfl (shc_k hsh 34 (by decide) (by decide)) (v := 2) (shc_r hsh 34 0 (by decide) (by decide) (by decide)) ?_
    refine go_iload_n (show decode cX7_sumColumnsAbove 74 = .ok (.iload_n 1, 1) by decide +kernel) (by rfl) ?_
    refine go_iload (show decode cX7_sumColumnsAbove 75 = .ok (.iload 8, 2) by decide +kernel) (by rfl) ?_
    obtain ⟨q8, h⟩ := h
    obtain ⟨z13, p14, h⟩ := h
    refine go_callV (d2 := d - 1) (M2 := MX2_unitsAt) (n := 2) (ci := 2) (av := [vI a1, vI x4]) (st := [vJ a5]) (show decode cX7_sumColumnsAbove 77 = .ok (.invokevirtual 85, 3) by decide +kernel) ml_X7_85 mt_X2_unitsAt min_X2_unitsAt mse_X2_unitsAt (by decide) (shc_k hsh 2 (by decide) (by decide)) rfl (Nat.le_of_ble_eq_true rfl) (by omega) (ok_mono p14 (fun w9 S10 F11 G12 e9 => ?_))
    obtain ⟨e1, e2, e3, e4⟩ := e9
    subst e1
    replace e2 := e2.symm; subst e2
    replace e3 := e3.symm; subst e3
    replace e4 := e4.symm; subst e4
    show Go d MX7_sumColumnsAbove 80 [some (vR 34), some (vI a1), some (vR a2), some (vR a3), some (vI a4), some (vJ a5), none, some (vI a7), some (vI x4)] [vJ z13, vJ a5] S F G7 Q
    refine go_aload_n (show decode cX7_sumColumnsAbove 80 = .ok (.aload_n 3, 1) by decide +kernel) (by rfl) ?_
    refine go_iload (show decode cX7_sumColumnsAbove 81 = .ok (.iload 7, 2) by decide +kernel) (by rfl) ?_
    obtain ⟨z19, p20, h⟩ := h
    refine go_callV (d2 := d - 1) (M2 := MX1_widthOf) (n := 1) (ci := 1) (av := [vI a7]) (st := [vJ z13, vJ a5]) (show decode cX7_sumColumnsAbove 83 = .ok (.invokevirtual 153, 3) by decide +kernel) ml_X7_153 mt_X1_widthOf min_X1_widthOf mse_X1_widthOf (by decide) hk3.1 rfl (Nat.le_of_ble_eq_true rfl) (by omega) (ok_mono p20 (fun w15 S16 F17 G18 e9 => ?_))
    obtain ⟨e1, e2, e3, e4⟩ := e9
    subst e1
    replace e2 := e2.symm; subst e2
    replace e3 := e3.symm; subst e3
    replace e4 := e4.symm; subst e4
    show Go d MX7_sumColumnsAbove 86 [some (vR 34), some (vI a1), some (vR a2), some (vR a3), some (vI a4), some (vJ a5), none, some (vI a7), some (vI x4)] [vI z19, vJ z13, vJ a5] S F G7 Q
    refine go_i2l (show decode cX7_sumColumnsAbove 86 = .ok (.i2l, 1) by decide +kernel) ?_
    obtain ⟨q21, h⟩ := h
    refine go_lmul (show decode cX7_sumColumnsAbove 87 = .ok (.lmul, 1) by decide +kernel) q21 ?_
    obtain ⟨q22, h⟩ := h
    refine go_ladd (show decode cX7_sumColumnsAbove 88 = .ok (.ladd, 1) by decide +kernel) q22 ?_
    obtain ⟨x23, x23e⟩ : ∃ x23 : Int, x23 = a5 + (z13 * z19) := ⟨_, rfl⟩
    have h := h x23 x23e
    rw [← x23e]
    refine go_lstore (show decode cX7_sumColumnsAbove 89 = .ok (.lstore 5, 2) by decide +kernel) (by decide) ?_
    show Go d MX7_sumColumnsAbove 91 [some (vR 34), some (vI a1), some (vR a2), some (vR a3), some (vI a4), some (vJ x23), none, some (vI a7), some (vI x4)] [] S F G7 Q
    obtain ⟨q24, h⟩ := h
    refine go_iinc (show decode cX7_sumColumnsAbove 91 = .ok (.iinc 7 1, 3) by decide +kernel) (by rfl) q24 (by decide) ?_
    show Go d MX7_sumColumnsAbove 94 [some (vR 34), some (vI a1), some (vR a2), some (vR a3), some (vI a4), some (vJ x23), none, some (vI (a7 + 1)), some (vI x4)] [] S F G7 Q
    refine go_goto (tgt := 40) (show decode cX7_sumColumnsAbove 94 = .ok (.goto (-54), 3) by decide +kernel) (by decide) ?_
    refine go_clr 8 ?_
    exact h
def V_X7_sumColumnsAbove_25 (d : Nat) (S : AS) (F : AF) (G : AG) (Q : AQ) (a1 : Int) (a2 : Nat) (a3 : Nat) (a4 : Int) : Prop :=
  ((F a2 1 ≤ a4) →
    Q none S F G) ∧
  ((¬ F a2 1 ≤ a4) →
    Go d MX7_sumColumnsAbove 40 [some (vR 34), some (vI a1), some (vR a2), some (vR a3), some (vI a4), some (vJ 0), none, some (vI 0), none] [] S F G Q)
theorem R_X7_sumColumnsAbove_25 {d : Nat} {S : AS} {F : AF} {G : AG} {Q : AQ} {a1 : Int} {a2 : Nat} {a3 : Nat} {a4 : Int} (hsh : ShC S) (hk2 : AtCuts S a2) (hk3 : AtCuts S a3) (h : V_X7_sumColumnsAbove_25 d S F G Q a1 a2 a3 a4) : Go d MX7_sumColumnsAbove 25 [some (vR 34), some (vI a1), some (vR a2), some (vR a3), some (vI a4), none, none, none, none] [] S F G Q := by
  unfold V_X7_sumColumnsAbove_25 at h
  refine go_iload (show decode cX7_sumColumnsAbove 25 = .ok (.iload 4, 2) by decide +kernel) (by rfl) ?_
  refine go_aload_n (show decode cX7_sumColumnsAbove 27 = .ok (.aload_n 2, 1) by decide +kernel) (by rfl) ?_
  refine go_getI (show decode cX7_sumColumnsAbove 28 = .ok (.getfield 135, 3) by decide +kernel) fl_X7_135 (Or.inl rfl) hk2.1 ?_
  obtain ⟨ht, hf⟩ := h
  refine go_icmpge (tgt := 103) (show decode cX7_sumColumnsAbove 31 = .ok (.if_icmp .ge 72, 3) by decide +kernel) (by decide) (fun hc => ?_) (fun hc => ?_)
  · have h := ht hc
    exact go_vret (show decode cX7_sumColumnsAbove 103 = .ok (.return_, 1) by decide +kernel) rfl h
  · have h := hf hc
    refine go_lconst (n := 0) (show decode cX7_sumColumnsAbove 34 = .ok (.lconst 0, 1) by decide +kernel) ?_
    show Go d MX7_sumColumnsAbove 35 [some (vR 34), some (vI a1), some (vR a2), some (vR a3), some (vI a4), none, none, none, none] [vJ 0] S F G Q
    refine go_lstore (show decode cX7_sumColumnsAbove 35 = .ok (.lstore 5, 2) by decide +kernel) (by decide) ?_
    show Go d MX7_sumColumnsAbove 37 [some (vR 34), some (vI a1), some (vR a2), some (vR a3), some (vI a4), some (vJ 0), none, none, none] [] S F G Q
    refine go_iconst (show decode cX7_sumColumnsAbove 37 = .ok (.iconst 0, 1) by decide +kernel) (by decide) ?_
    refine go_istore (show decode cX7_sumColumnsAbove 38 = .ok (.istore 7, 2) by decide +kernel) (by decide) ?_
    show Go d MX7_sumColumnsAbove 40 [some (vR 34), some (vI a1), some (vR a2), some (vR a3), some (vI a4), some (vJ 0), none, some (vI 0), none] [] S F G Q
    exact h
def V_X7_sumColumnsAbove_0 (d : Nat) (S : AS) (F : AF) (G : AG) (Q : AQ) (a1 : Int) : Prop :=
  Go d MX7_sumColumnsAbove 25 [some (vR 34), some (vI a1), some (vR 4), some (vR 11), some (vI 0), none, none, none, none] [] S F G Q
theorem R_X7_sumColumnsAbove_0 {d : Nat} {S : AS} {F : AF} {G : AG} {Q : AQ} {a1 : Int} (hsh : ShC S) (h : V_X7_sumColumnsAbove_0 d S F G Q a1) : Go d MX7_sumColumnsAbove 0 [some (vR 34), some (vI a1), none, none, none, none, none, none, none] [] S F G Q := by
  unfold V_X7_sumColumnsAbove_0 at h
  refine go_aload_n (show decode cX7_sumColumnsAbove 0 = .ok (.aload_n 0, 1) by decide +kernel) (by rfl) ?_
  refine go_getRc (show decode cX7_sumColumnsAbove 1 = .ok (.getfield 12, 3) by decide +kernel) fl_X7_12 rfl (shc_k hsh 34 (by decide) (by decide)) (v := 2) (shc_r hsh 34 0 (by decide) (by decide) (by decide)) ?_
  refine go_getRc (show decode cX7_sumColumnsAbove 4 = .ok (.getfield 61, 3) by decide +kernel) fl_X7_61 rfl (shc_k hsh 2 (by decide) (by decide)) (v := 3) (shc_r hsh 2 0 (by decide) (by decide) (by decide)) ?_
  refine go_getRc (show decode cX7_sumColumnsAbove 7 = .ok (.getfield 55, 3) by decide +kernel) fl_X7_55 rfl (shc_k hsh 3 (by decide) (by decide)) (v := 4) (shc_r hsh 3 0 (by decide) (by decide) (by decide)) ?_
  refine go_astore_n (show decode cX7_sumColumnsAbove 10 = .ok (.astore_n 2, 1) by decide +kernel) (by decide) ?_
  show Go d MX7_sumColumnsAbove 11 [some (vR 34), some (vI a1), some (vR 4), none, none, none, none, none, none] [] S F G Q
  refine go_aload_n (show decode cX7_sumColumnsAbove 11 = .ok (.aload_n 0, 1) by decide +kernel) (by rfl) ?_
  refine go_getRc (show decode cX7_sumColumnsAbove 12 = .ok (.getfield 12, 3) by decide +kernel) fl_X7_12 rfl (shc_k hsh 34 (by decide) (by decide)) (v := 2) (shc_r hsh 34 0 (by decide) (by decide) (by decide)) ?_
  refine go_getRc (show decode cX7_sumColumnsAbove 15 = .ok (.getfield 51, 3) by decide +kernel) fl_X7_51 rfl (shc_k hsh 2 (by decide) (by decide)) (v := 10) (shc_r hsh 2 1 (by decide) (by decide) (by decide)) ?_
  refine go_getRc (show decode cX7_sumColumnsAbove 18 = .ok (.getfield 55, 3) by decide +kernel) fl_X7_55 rfl (shc_k hsh 10 (by decide) (by decide)) (v := 11) (shc_r hsh 10 0 (by decide) (by decide) (by decide)) ?_
  refine go_astore_n (show decode cX7_sumColumnsAbove 21 = .ok (.astore_n 3, 1) by decide +kernel) (by decide) ?_
  show Go d MX7_sumColumnsAbove 22 [some (vR 34), some (vI a1), some (vR 4), some (vR 11), none, none, none, none, none] [] S F G Q
  refine go_iconst (show decode cX7_sumColumnsAbove 22 = .ok (.iconst 0, 1) by decide +kernel) (by decide) ?_
  refine go_istore (show decode cX7_sumColumnsAbove 23 = .ok (.istore 4, 2) by decide +kernel) (by decide) ?_
  show Go d MX7_sumColumnsAbove 25 [some (vR 34), some (vI a1), some (vR 4), some (vR 11), some (vI 0), none, none, none, none] [] S F G Q
  exact h
def V_X7_sumColumnsBetween_72 (d : Nat) (S : AS) (F : AF) (G : AG) (Q : AQ) (a1 : Int) (a2 : Int) (a3 : Int) (a4 : Nat) (a5 : Nat) (a6 : Int) (a7 : Int) (a8 : Int) (a10 : Int) (a12 : Int) (a14 : Int) : Prop :=
  ((F a4 1 ≤ a14) →
    Q none S F G) ∧
  ((¬ F a4 1 ≤ a14) →
    (r32 (48 * a6)) ∧
    (r32 ((48 * a6) + a14)) ∧
    ∀ x3 : Int, x3 = (48 * a6) + a14 →
    (r32 (48 * a7)) ∧
    (r32 ((48 * a7) + a14)) ∧
    ∀ x6 : Int, x6 = (48 * a7) + a14 →
    ((0 : Int) ≤ x6) ∧
    ((x6 : Int) < 2304) ∧
    (1 ≤ d) ∧
    ∃ z14 : Int, Pu (d - 1) MX2_unitsAt [vR 2, vI a1, vI x6] S F G (some (vJ z14)) ∧
    (r64 (a10 * z14)) ∧
    (r64 ((G 39 x6) + (a10 * z14))) ∧
    ((0 : Int) ≤ x3) ∧
    ((x3 : Int) < 2304) ∧
    (r64 (((G 39 x6) + (a10 * z14)) - (G 39 x3))) ∧
    ∃ z25 : Int, Pu (d - 1) MX2_unitsAt [vR 2, vI a1, vI x3] S F G (some (vJ z25)) ∧
    (r64 (a8 * z25)) ∧
    (r64 ((((G 39 x6) + (a10 * z14)) - (G 39 x3)) - (a8 * z25))) ∧
    ((0 : Int) ≤ a14) ∧
    ((a14 : Int) < 48) ∧
    ∀ G31 : AG, G31 = gu G 40 a14 ((((G 39 x6) + (a10 * z14)) - (G 39 x3)) - (a8 * z25)) →
    ∀ G32 : AG, G32 = gu G31 41 a14 a12 →
    ∃ z37 : Int, Pu (d - 1) MX1_widthOf [vR a4, vI a14] S F G32 (some (vI z37)) ∧
    (r64 ((G32 40 a14) * z37)) ∧
    (r64 (a12 + ((G32 40 a14) * z37))) ∧
    ∀ x41 : Int, x41 = a12 + ((G32 40 a14) * z37) →
    (r32 (a14 + 1)) ∧
    Go d MX7_sumColumnsBetween 72 [some (vR 34), some (vI a1), some (vI a2), some (vI a3), some (vR a4), some (vR a5), some (vI a6), some (vI a7), some (vJ a8), none, some (vJ a10), none, some (vJ x41), none, some (vI (a14 + 1)), none, none] [] S F G32 Q)
theorem R_X7_sumColumnsBetween_72 {d : Nat} {S : AS} {F : AF} {G : AG} {Q : AQ} {a1 : Int} {a2 : Int} {a3 : Int} {a4 : Nat} {a5 : Nat} {a6 : Int} {a7 : Int} {a8 : Int} {a10 : Int} {a12 : Int} {a14 : Int} (hsh : ShC S) (hk4 : AtCuts S a4) (hk5 : AtCuts S a5) (h : V_X7_sumColumnsBetween_72 d S F G Q a1 a2 a3 a4 a5 a6 a7 a8 a10 a12 a14) : Go d MX7_sumColumnsBetween 72 [some (vR 34), some (vI a1), some (vI a2), some (vI a3), some (vR a4), some (vR a5), some (vI a6), some (vI a7), some (vJ a8), none, some (vJ a10), none, some (vJ a12), none, some (vI a14), none, none] [] S F G Q := by
  unfold V_X7_sumColumnsBetween_72 at h
  refine go_iload (show decode cX7_sumColumnsBetween 72 = .ok (.iload 14, 2) by decide +kernel) (by rfl) ?_
  refine go_aload (show decode cX7_sumColumnsBetween 74 = .ok (.aload 4, 2) by decide +kernel) (by rfl) ?_
  refine go_getI (show decode cX7_sumColumnsBetween 76 = .ok (.getfield 135, 3) by decide +kernel) fl_X7_135 (Or.inl rfl) hk4.1 ?_
  obtain ⟨ht, hf⟩ := h
  refine go_icmpge (tgt := 188) (show decode cX7_sumColumnsBetween 79 = .ok (.if_icmp .ge 109, 3) by decide +kernel) (by decide) (fun hc => ?_) (fun hc => ?_)
  · have h := ht hc
    exact go_vret (show decode cX7_sumColumnsBetween 188 = .ok (.return_, 1) by decide +kernel) rfl h
  · have h := hf hc
    refine go_bipush (show decode cX7_sumColumnsBetween 82 = .ok (.bipush 48, 2) by decide +kernel) (by decide) ?_
    refine go_iload (show decode cX7_sumColumnsBetween 84 = .ok (.iload 6, 2) by decide +kernel) (by rfl) ?_
    obtain ⟨q1, h⟩ := h
    refine go_imul (show decode cX7_sumColumnsBetween 86 = .ok (.imul, 1) by decide +kernel) q1 ?_
    refine go_iload (show decode cX7_sumColumnsBetween 87 = .ok (.iload 14, 2) by decide +kernel) (by rfl) ?_
    obtain ⟨q2, h⟩ := h
    refine go_iadd (show decode cX7_sumColumnsBetween 89 = .ok (.iadd, 1) by decide +kernel) q2 ?_
    obtain ⟨x3, x3e⟩ : ∃ x3 : Int, x3 = (48 * a6) + a14 := ⟨_, rfl⟩
    have h := h x3 x3e
    rw [← x3e]
    refine go_istore (show decode cX7_sumColumnsBetween 90 = .ok (.istore 15, 2) by decide +kernel) (by decide) ?_
    show Go d MX7_sumColumnsBetween 92 [some (vR 34), some (vI a1), some (vI a2), some (vI a3), some (vR a4), some (vR a5), some (vI a6), some (vI a7), some (vJ a8), none, some (vJ a10), none, some (vJ a12), none, some (vI a14), some (vI x3), none] [] S F G Q
    refine go_bipush (show decode cX7_sumColumnsBetween 92 = .ok (.bipush 48, 2) by decide +kernel) (by decide) ?_
    refine go_iload (show decode cX7_sumColumnsBetween 94 = .ok (.iload 7, 2) by decide +kernel) (by rfl) ?_
    obtain ⟨q4, h⟩ := h
    refine go_imul (show decode cX7_sumColumnsBetween 96 = .ok (.imul, 1) by decide +kernel) q4 ?_
    refine go_iload (show decode cX7_sumColumnsBetween 97 = .ok (.iload 14, 2) by decide +kernel) (by rfl) ?_
    obtain ⟨q5, h⟩ := h
    refine go_iadd (show decode cX7_sumColumnsBetween 99 = .ok (.iadd, 1) by decide +kernel) q5 ?_
    obtain ⟨x6, x6e⟩ : ∃ x6 : Int, x6 = (48 * a7) + a14 := ⟨_, rfl⟩
    have h := h x6 x6e
    rw [← x6e]
    refine go_istore (show decode cX7_sumColumnsBetween 100 = .ok (.istore 16, 2) by decide +kernel) (by decide) ?_
    show Go d MX7_sumColumnsBetween 102 [some (vR 34), some (vI a1), some (vI a2), some (vI a3), some (vR a4), some (vR a5), some (vI a6), some (vI a7), some (vJ a8), none, some (vJ a10), none, some (vJ a12), none, some (vI a14), some (vI x3), some (vI x6)] [] S F G Q
    refine go_aload_n (show decode cX7_sumColumnsBetween 102 = .ok (.aload_n 0, 1) by decide +kernel) (by rfl) ?_
    refine go_getRc (show decode cX7_sumColumnsBetween 103 = .ok (.getfield 39, 3) by decide +kernel) fl_X7_39 rfl (shc_k hsh 34 (by decide) (by decide)) (v := 40) (shc_r hsh 34 13 (by decide) (by decide) (by decide)) ?_
    refine go_iload (show decode cX7_sumColumnsBetween 106 = .ok (.iload 14, 2) by decide +kernel) (by rfl) ?_
    refine go_aload_n (show decode cX7_sumColumnsBetween 108 = .ok (.aload_n 0, 1) by decide +kernel) (by rfl) ?_
    refine go_getRc (show decode cX7_sumColumnsBetween 109 = .ok (.getfield 35, 3) by decide +kernel) fl_X7_35 rfl (shc_k hsh 34 (by decide) (by decide)) (v := 39) (shc_r hsh 34 12 (by decide) (by decide) (by decide)) ?_
    refine go_iload (show decode cX7_sumColumnsBetween 112 = .ok (.iload 16, 2) by decide +kernel) (by rfl) ?_
    obtain ⟨q7, h⟩ := h
    obtain ⟨q8, h⟩ := h
    refine go_laload (show decode cX7_sumColumnsBetween 114 = .ok (.laload, 1) by decide +kernel) (shc_k hsh 39 (by decide) (by decide)) q7 (lt_n (m := 2304) q8 (shc_n hsh 39 (by decide) (by decide))) ?_
    refine go_lload (show decode cX7_sumColumnsBetween 115 = .ok (.lload 10, 2) by decide +kernel) (by rfl) ?_
    refine go_aload_n (show decode cX7_sumColumnsBetween 117 = .ok (.aload_n 0, 1) by decide +kernel) (by rfl) ?_
    refine go_getRc (show decode cX7_sumColumnsBetween 118 = .ok (.getfield 12, 3) by decide +kernel) fl_X7_12 rfl (shc_k hsh 34 (by decide) (by decide)) (v := 2) (shc_r hsh 34 0 (by decide) (by decide) (by decide)) ?_
    refine go_iload_n (show decode cX7_sumColumnsBetween 121 = .ok (.iload_n 1, 1) by decide +kernel) (by rfl) ?_
    refine go_iload (show decode cX7_sumColumnsBetween 122 = .ok (.iload 16, 2) by decide +kernel) (by rfl) ?_
    obtain ⟨q9, h⟩ := h
    obtain ⟨z14, p15, h⟩ := h
    refine go_callV (d2 := d - 1) (M2 := MX2_unitsAt) (n := 2) (ci := 2) (av := [vI a1, vI x6]) (st := [vJ a10, vJ (G 39 x6), vI a14, vR 40]) (show decode cX7_sumColumnsBetween 124 = .ok (.invokevirtual 85, 3) by decide +kernel) ml_X7_85 mt_X2_unitsAt min_X2_unitsAt mse_X2_unitsAt (by decide) (shc_k hsh 2 (by decide) (by decide)) rfl (Nat.le_of_ble_eq_true rfl) (by omega) (ok_mono p15 (fun w10 S11 F12 G13 e9 => ?_))
    obtain ⟨e1, e2, e3, e4⟩ := e9
    subst e1
    replace e2 := e2.symm; subst e2
    replace e3 := e3.symm; subst e3
    replace e4 := e4.symm; subst e4
    show Go d MX7_sumColumnsBetween 127 [some (vR 34), some (vI a1), some (vI a2), some (vI a3), some (vR a4), some (vR a5), some (vI a6), some (vI a7), some (vJ a8), none, some (vJ a10), none, some (vJ a12), none, some (vI a14), some (vI x3), some (vI x6)] [vJ z14, vJ a10, vJ (G 39 x6), vI a14, vR 40] S F G Q
    obtain ⟨q16, h⟩ := h
    refine go_lmul (show decode cX7_sumColumnsBetween 127 = .ok (.lmul, 1) by decide +kernel) q16 ?_
    obtain ⟨q17, h⟩ := h
    refine go_ladd (show decode cX7_sumColumnsBetween 128 = .ok (.ladd, 1) by decide +kernel) q17 ?_
    refine go_aload_n (show decode cX7_sumColumnsBetween 129 = .ok (.aload_n 0, 1) by decide +kernel) (by rfl) ?_
    refine go_getRc (show decode cX7_sumColumnsBetween 130 = .ok (.getfield 35, 3) by decide +kernel) fl_X7_35 rfl (shc_k hsh 34 (by decide) (by decide)) (v := 39) (shc_r hsh 34 12 (by decide) (by decide) (by decide)) ?_
    refine go_iload (show decode cX7_sumColumnsBetween 133 = .ok (.iload 15, 2) by decide +kernel) (by rfl) ?_
    obtain ⟨q18, h⟩ := h
    obtain ⟨q19, h⟩ := h
    refine go_laload (show decode cX7_sumColumnsBetween 135 = .ok (.laload, 1) by decide +kernel) (shc_k hsh 39 (by decide) (by decide)) q18 (lt_n (m := 2304) q19 (shc_n hsh 39 (by decide) (by decide))) ?_
    obtain ⟨q20, h⟩ := h
    refine go_lsub (show decode cX7_sumColumnsBetween 136 = .ok (.lsub, 1) by decide +kernel) q20 ?_
    refine go_lload (show decode cX7_sumColumnsBetween 137 = .ok (.lload 8, 2) by decide +kernel) (by rfl) ?_
    refine go_aload_n (show decode cX7_sumColumnsBetween 139 = .ok (.aload_n 0, 1) by decide +kernel) (by rfl) ?_
    refine go_getRc (show decode cX7_sumColumnsBetween 140 = .ok (.getfield 12, 3) by decide +kernel) fl_X7_12 rfl (shc_k hsh 34 (by decide) (by decide)) (v := 2) (shc_r hsh 34 0 (by decide) (by decide) (by decide)) ?_
    refine go_iload_n (show decode cX7_sumColumnsBetween 143 = .ok (.iload_n 1, 1) by decide +kernel) (by rfl) ?_
    refine go_iload (show decode cX7_sumColumnsBetween 144 = .ok (.iload 15, 2) by decide +kernel) (by rfl) ?_
    obtain ⟨z25, p26, h⟩ := h
    refine go_callV (d2 := d - 1) (M2 := MX2_unitsAt) (n := 2) (ci := 2) (av := [vI a1, vI x3]) (st := [vJ a8, vJ (((G 39 x6) + (a10 * z14)) - (G 39 x3)), vI a14, vR 40]) (show decode cX7_sumColumnsBetween 146 = .ok (.invokevirtual 85, 3) by decide +kernel) ml_X7_85 mt_X2_unitsAt min_X2_unitsAt mse_X2_unitsAt (by decide) (shc_k hsh 2 (by decide) (by decide)) rfl (Nat.le_of_ble_eq_true rfl) (by omega) (ok_mono p26 (fun w21 S22 F23 G24 e9 => ?_))
    obtain ⟨e1, e2, e3, e4⟩ := e9
    subst e1
    replace e2 := e2.symm; subst e2
    replace e3 := e3.symm; subst e3
    replace e4 := e4.symm; subst e4
    show Go d MX7_sumColumnsBetween 149 [some (vR 34), some (vI a1), some (vI a2), some (vI a3), some (vR a4), some (vR a5), some (vI a6), some (vI a7), some (vJ a8), none, some (vJ a10), none, some (vJ a12), none, some (vI a14), some (vI x3), some (vI x6)] [vJ z25, vJ a8, vJ (((G 39 x6) + (a10 * z14)) - (G 39 x3)), vI a14, vR 40] S F G Q
    obtain ⟨q27, h⟩ := h
    refine go_lmul (show decode cX7_sumColumnsBetween 149 = .ok (.lmul, 1) by decide +kernel) q27 ?_
    obtain ⟨q28, h⟩ := h
    refine go_lsub (show decode cX7_sumColumnsBetween 150 = .ok (.lsub, 1) by decide +kernel) q28 ?_
    obtain ⟨q29, h⟩ := h
    obtain ⟨q30, h⟩ := h
    refine go_lastore (show decode cX7_sumColumnsBetween 151 = .ok (.lastore, 1) by decide +kernel) (shc_k hsh 40 (by decide) (by decide)) q29 (lt_n (m := 48) q30 (shc_n hsh 40 (by decide) (by decide)))  ?_
    obtain ⟨G31, G31e⟩ : ∃ G31 : AG, G31 = gu G 40 a14 ((((G 39 x6) + (a10 * z14)) - (G 39 x3)) - (a8 * z25)) := ⟨_, rfl⟩
    have h := h G31 G31e
    rw [← G31e]
    refine go_aload_n (show decode cX7_sumColumnsBetween 152 = .ok (.aload_n 0, 1) by decide +kernel) (by rfl) ?_
    refine go_getRc (show decode cX7_sumColumnsBetween 153 = .ok (.getfield 42, 3) by decide +kernel) fl_X7_42 rfl (shc_k hsh 34 (by decide) (by decide)) (v := 41) (shc_r hsh 34 14 (by decide) (by decide) (by decide)) ?_
    refine go_iload (show decode cX7_sumColumnsBetween 156 = .ok (.iload 14, 2) by decide +kernel) (by rfl) ?_
    refine go_lload (show decode cX7_sumColumnsBetween 158 = .ok (.lload 12, 2) by decide +kernel) (by rfl) ?_
    refine go_lastore (show decode cX7_sumColumnsBetween 160 = .ok (.lastore, 1) by decide +kernel) (shc_k hsh 41 (by decide) (by decide)) q29 (lt_n (m := 48) q30 (shc_n hsh 41 (by decide) (by decide)))  ?_
    obtain ⟨G32, G32e⟩ : ∃ G32 : AG, G32 = gu G31 41 a14 a12 := ⟨_, rfl⟩
    have h := h G32 G32e
    rw [← G32e]
    refine go_lload (show decode cX7_sumColumnsBetween 161 = .ok (.lload 12, 2) by decide +kernel) (by rfl) ?_
    refine go_aload_n (show decode cX7_sumColumnsBetween 163 = .ok (.aload_n 0, 1) by decide +kernel) (by rfl) ?_
    refine go_getRc (show decode cX7_sumColumnsBetween 164 = .ok (.getfield 39, 3) by decide +kernel) fl_X7_39 rfl (shc_k hsh 34 (by decide) (by decide)) (v := 40) (shc_r hsh 34 13 (by decide) (by decide) (by decide)) ?_
    refine go_iload (show decode cX7_sumColumnsBetween 167 = .ok (.iload 14, 2) by decide +kernel) (by rfl) ?_
    refine go_laload (show decode cX7_sumColumnsBetween 169 = .ok (.laload, 1) by decide +kernel) (shc_k hsh 40 (by decide) (by decide)) q29 (lt_n (m := 48) q30 (shc_n hsh 40 (by decide) (by decide))) ?_
    refine go_aload (show decode cX7_sumColumnsBetween 170 = .ok (.aload 4, 2) by decide +kernel) (by rfl) ?_
    refine go_iload (show decode cX7_sumColumnsBetween 172 = .ok (.iload 14, 2) by decide +kernel) (by rfl) ?_
    obtain ⟨z37, p38, h⟩ := h
    refine go_callV (d2 := d - 1) (M2 := MX1_widthOf) (n := 1) (ci := 1) (av := [vI a14]) (st := [vJ (G32 40 a14), vJ a12]) (show decode cX7_sumColumnsBetween 174 = .ok (.invokevirtual 153, 3) by decide +kernel) ml_X7_153 mt_X1_widthOf min_X1_widthOf mse_X1_widthOf (by decide) hk4.1 rfl (Nat.le_of_ble_eq_true rfl) (by omega) (ok_mono p38 (fun w33 S34 F35 G36 e9 => ?_))
    obtain ⟨e1, e2, e3, e4⟩ := e9
    subst e1
    replace e2 := e2.symm; subst e2
    replace e3 := e3.symm; subst e3
    replace e4 := e4.symm; subst e4
    show Go d MX7_sumColumnsBetween 177 [some (vR 34), some (vI a1), some (vI a2), some (vI a3), some (vR a4), some (vR a5), some (vI a6), some (vI a7), some (vJ a8), none, some (vJ a10), none, some (vJ a12), none, some (vI a14), some (vI x3), some (vI x6)] [vI z37, vJ (G32 40 a14), vJ a12] S F G32 Q
    refine go_i2l (show decode cX7_sumColumnsBetween 177 = .ok (.i2l, 1) by decide +kernel) ?_
    obtain ⟨q39, h⟩ := h
    refine go_lmul (show decode cX7_sumColumnsBetween 178 = .ok (.lmul, 1) by decide +kernel) q39 ?_
    obtain ⟨q40, h⟩ := h
    refine go_ladd (show decode cX7_sumColumnsBetween 179 = .ok (.ladd, 1) by decide +kernel) q40 ?_
    obtain ⟨x41, x41e⟩ : ∃ x41 : Int, x41 = a12 + ((G32 40 a14) * z37) := ⟨_, rfl⟩
    have h := h x41 x41e
    rw [← x41e]
    refine go_lstore (show decode cX7_sumColumnsBetween 180 = .ok (.lstore 12, 2) by decide +kernel) (by decide) ?_
    show Go d MX7_sumColumnsBetween 182 [some (vR 34), some (vI a1), some (vI a2), some (vI a3), some (vR a4), some (vR a5), some (vI a6), some (vI a7), some (vJ a8), none, some (vJ a10), none, some (vJ x41), none, some (vI a14), some (vI x3), some (vI x6)] [] S F G32 Q
    obtain ⟨q42, h⟩ := h
    refine go_iinc (show decode cX7_sumColumnsBetween 182 = .ok (.iinc 14 1, 3) by decide +kernel) (by rfl) q42 (by decide) ?_
    show Go d MX7_sumColumnsBetween 185 [some (vR 34), some (vI a1), some (vI a2), some (vI a3), some (vR a4), some (vR a5), some (vI a6), some (vI a7), some (vJ a8), none, some (vJ a10), none, some (vJ x41), none, some (vI (a14 + 1)), some (vI x3), some (vI x6)] [] S F G32 Q
    refine go_goto (tgt := 72) (show decode cX7_sumColumnsBetween 185 = .ok (.goto (-113), 3) by decide +kernel) (by decide) ?_
    refine go_clr 15 ?_
    refine go_clr 16 ?_
    exact h
def V_X7_sumColumnsBetween_0 (d : Nat) (S : AS) (F : AF) (G : AG) (Q : AQ) (a1 : Int) (a2 : Int) (a3 : Int) : Prop :=
  (1 ≤ d) ∧
  ∃ z6 : Int, Pu (d - 1) MX1_bandOf [vR 11, vI a2] S F G (some (vI z6)) ∧
  ∃ z12 : Int, Pu (d - 1) MX1_bandOf [vR 11, vI a3] S F G (some (vI z12)) ∧
  ((0 : Int) ≤ z6) ∧
  ((z6 : Int) < 105) ∧
  (r32 (a2 - (G 12 z6))) ∧
  ∀ x17 : Int, x17 = a2 - (G 12 z6) →
  ((0 : Int) ≤ z12) ∧
  ((z12 : Int) < 105) ∧
  (r32 (a3 - (G 12 z12))) ∧
  ∀ x21 : Int, x21 = a3 - (G 12 z12) →
  Go d MX7_sumColumnsBetween 72 [some (vR 34), some (vI a1), some (vI a2), some (vI a3), some (vR 4), some (vR 11), some (vI z6), some (vI z12), some (vJ x17), none, some (vJ x21), none, some (vJ 0), none, some (vI 0), none, none] [] S F G Q
theorem R_X7_sumColumnsBetween_0 {d : Nat} {S : AS} {F : AF} {G : AG} {Q : AQ} {a1 : Int} {a2 : Int} {a3 : Int} (hsh : ShC S) (h : V_X7_sumColumnsBetween_0 d S F G Q a1 a2 a3) : Go d MX7_sumColumnsBetween 0 [some (vR 34), some (vI a1), some (vI a2), some (vI a3), none, none, none, none, none, none, none, none, none, none, none, none, none] [] S F G Q := by
  unfold V_X7_sumColumnsBetween_0 at h
  refine go_aload_n (show decode cX7_sumColumnsBetween 0 = .ok (.aload_n 0, 1) by decide +kernel) (by rfl) ?_
  refine go_getRc (show decode cX7_sumColumnsBetween 1 = .ok (.getfield 12, 3) by decide +kernel) fl_X7_12 rfl (shc_k hsh 34 (by decide) (by decide)) (v := 2) (shc_r hsh 34 0 (by decide) (by decide) (by decide)) ?_
  refine go_getRc (show decode cX7_sumColumnsBetween 4 = .ok (.getfield 61, 3) by decide +kernel) fl_X7_61 rfl (shc_k hsh 2 (by decide) (by decide)) (v := 3) (shc_r hsh 2 0 (by decide) (by decide) (by decide)) ?_
  refine go_getRc (show decode cX7_sumColumnsBetween 7 = .ok (.getfield 55, 3) by decide +kernel) fl_X7_55 rfl (shc_k hsh 3 (by decide) (by decide)) (v := 4) (shc_r hsh 3 0 (by decide) (by decide) (by decide)) ?_
  refine go_astore (show decode cX7_sumColumnsBetween 10 = .ok (.astore 4, 2) by decide +kernel) (by decide) ?_
  show Go d MX7_sumColumnsBetween 12 [some (vR 34), some (vI a1), some (vI a2), some (vI a3), some (vR 4), none, none, none, none, none, none, none, none, none, none, none, none] [] S F G Q
  refine go_aload_n (show decode cX7_sumColumnsBetween 12 = .ok (.aload_n 0, 1) by decide +kernel) (by rfl) ?_
  refine go_getRc (show decode cX7_sumColumnsBetween 13 = .ok (.getfield 12, 3) by decide +kernel) fl_X7_12 rfl (shc_k hsh 34 (by decide) (by decide)) (v := 2) (shc_r hsh 34 0 (by decide) (by decide) (by decide)) ?_
  refine go_getRc (show decode cX7_sumColumnsBetween 16 = .ok (.getfield 51, 3) by decide +kernel) fl_X7_51 rfl (shc_k hsh 2 (by decide) (by decide)) (v := 10) (shc_r hsh 2 1 (by decide) (by decide) (by decide)) ?_
  refine go_getRc (show decode cX7_sumColumnsBetween 19 = .ok (.getfield 55, 3) by decide +kernel) fl_X7_55 rfl (shc_k hsh 10 (by decide) (by decide)) (v := 11) (shc_r hsh 10 0 (by decide) (by decide) (by decide)) ?_
  refine go_astore (show decode cX7_sumColumnsBetween 22 = .ok (.astore 5, 2) by decide +kernel) (by decide) ?_
  show Go d MX7_sumColumnsBetween 24 [some (vR 34), some (vI a1), some (vI a2), some (vI a3), some (vR 4), some (vR 11), none, none, none, none, none, none, none, none, none, none, none] [] S F G Q
  refine go_aload (show decode cX7_sumColumnsBetween 24 = .ok (.aload 5, 2) by decide +kernel) (by rfl) ?_
  refine go_iload_n (show decode cX7_sumColumnsBetween 26 = .ok (.iload_n 2, 1) by decide +kernel) (by rfl) ?_
  obtain ⟨q1, h⟩ := h
  obtain ⟨z6, p7, h⟩ := h
  refine go_callV (d2 := d - 1) (M2 := MX1_bandOf) (n := 1) (ci := 1) (av := [vI a2]) (st := []) (show decode cX7_sumColumnsBetween 27 = .ok (.invokevirtual 75, 3) by decide +kernel) ml_X7_75 mt_X1_bandOf min_X1_bandOf mse_X1_bandOf (by decide) (shc_k hsh 11 (by decide) (by decide)) rfl (Nat.le_of_ble_eq_true rfl) (by omega) (ok_mono p7 (fun w2 S3 F4 G5 e9 => ?_))
  obtain ⟨e1, e2, e3, e4⟩ := e9
  subst e1
  replace e2 := e2.symm; subst e2
  replace e3 := e3.symm; subst e3
  replace e4 := e4.symm; subst e4
  show Go d MX7_sumColumnsBetween 30 [some (vR 34), some (vI a1), some (vI a2), some (vI a3), some (vR 4), some (vR 11), none, none, none, none, none, none, none, none, none, none, none] [vI z6] S F G Q
  refine go_istore (show decode cX7_sumColumnsBetween 30 = .ok (.istore 6, 2) by decide +kernel) (by decide) ?_
  show Go d MX7_sumColumnsBetween 32 [some (vR 34), some (vI a1), some (vI a2), some (vI a3), some (vR 4), some (vR 11), some (vI z6), none, none, none, none, none, none, none, none, none, none] [] S F G Q
  refine go_aload (show decode cX7_sumColumnsBetween 32 = .ok (.aload 5, 2) by decide +kernel) (by rfl) ?_
  refine go_iload_n (show decode cX7_sumColumnsBetween 34 = .ok (.iload_n 3, 1) by decide +kernel) (by rfl) ?_
  obtain ⟨z12, p13, h⟩ := h
  refine go_callV (d2 := d - 1) (M2 := MX1_bandOf) (n := 1) (ci := 1) (av := [vI a3]) (st := []) (show decode cX7_sumColumnsBetween 35 = .ok (.invokevirtual 75, 3) by decide +kernel) ml_X7_75 mt_X1_bandOf min_X1_bandOf mse_X1_bandOf (by decide) (shc_k hsh 11 (by decide) (by decide)) rfl (Nat.le_of_ble_eq_true rfl) (by omega) (ok_mono p13 (fun w8 S9 F10 G11 e9 => ?_))
  obtain ⟨e1, e2, e3, e4⟩ := e9
  subst e1
  replace e2 := e2.symm; subst e2
  replace e3 := e3.symm; subst e3
  replace e4 := e4.symm; subst e4
  show Go d MX7_sumColumnsBetween 38 [some (vR 34), some (vI a1), some (vI a2), some (vI a3), some (vR 4), some (vR 11), some (vI z6), none, none, none, none, none, none, none, none, none, none] [vI z12] S F G Q
  refine go_istore (show decode cX7_sumColumnsBetween 38 = .ok (.istore 7, 2) by decide +kernel) (by decide) ?_
  show Go d MX7_sumColumnsBetween 40 [some (vR 34), some (vI a1), some (vI a2), some (vI a3), some (vR 4), some (vR 11), some (vI z6), some (vI z12), none, none, none, none, none, none, none, none, none] [] S F G Q
  refine go_iload_n (show decode cX7_sumColumnsBetween 40 = .ok (.iload_n 2, 1) by decide +kernel) (by rfl) ?_
  refine go_aload (show decode cX7_sumColumnsBetween 41 = .ok (.aload 5, 2) by decide +kernel) (by rfl) ?_
  refine go_getRc (show decode cX7_sumColumnsBetween 43 = .ok (.getfield 118, 3) by decide +kernel) fl_X7_118 rfl (shc_k hsh 11 (by decide) (by decide)) (v := 12) (shc_r hsh 11 0 (by decide) (by decide) (by decide)) ?_
  refine go_iload (show decode cX7_sumColumnsBetween 46 = .ok (.iload 6, 2) by decide +kernel) (by rfl) ?_
  obtain ⟨q14, h⟩ := h
  obtain ⟨q15, h⟩ := h
  refine go_iaload (show decode cX7_sumColumnsBetween 48 = .ok (.iaload, 1) by decide +kernel) (shc_k hsh 12 (by decide) (by decide)) q14 (lt_n (m := 105) q15 (shc_n hsh 12 (by decide) (by decide))) ?_
  obtain ⟨q16, h⟩ := h
  refine go_isub (show decode cX7_sumColumnsBetween 49 = .ok (.isub, 1) by decide +kernel) q16 ?_
  refine go_i2l (show decode cX7_sumColumnsBetween 50 = .ok (.i2l, 1) by decide +kernel) ?_
  obtain ⟨x17, x17e⟩ : ∃ x17 : Int, x17 = a2 - (G 12 z6) := ⟨_, rfl⟩
  have h := h x17 x17e
  rw [← x17e]
  refine go_lstore (show decode cX7_sumColumnsBetween 51 = .ok (.lstore 8, 2) by decide +kernel) (by decide) ?_
  show Go d MX7_sumColumnsBetween 53 [some (vR 34), some (vI a1), some (vI a2), some (vI a3), some (vR 4), some (vR 11), some (vI z6), some (vI z12), some (vJ x17), none, none, none, none, none, none, none, none] [] S F G Q
  refine go_iload_n (show decode cX7_sumColumnsBetween 53 = .ok (.iload_n 3, 1) by decide +kernel) (by rfl) ?_
  refine go_aload (show decode cX7_sumColumnsBetween 54 = .ok (.aload 5, 2) by decide +kernel) (by rfl) ?_
  refine go_getRc (show decode cX7_sumColumnsBetween 56 = .ok (.getfield 118, 3) by decide +kernel) fl_X7_118 rfl (shc_k hsh 11 (by decide) (by decide)) (v := 12) (shc_r hsh 11 0 (by decide) (by decide) (by decide)) ?_
  refine go_iload (show decode cX7_sumColumnsBetween 59 = .ok (.iload 7, 2) by decide +kernel) (by rfl) ?_
  obtain ⟨q18, h⟩ := h
  obtain ⟨q19, h⟩ := h
  refine go_iaload (show decode cX7_sumColumnsBetween 61 = .ok (.iaload, 1) by decide +kernel) (shc_k hsh 12 (by decide) (by decide)) q18 (lt_n (m := 105) q19 (shc_n hsh 12 (by decide) (by decide))) ?_
  obtain ⟨q20, h⟩ := h
  refine go_isub (show decode cX7_sumColumnsBetween 62 = .ok (.isub, 1) by decide +kernel) q20 ?_
  refine go_i2l (show decode cX7_sumColumnsBetween 63 = .ok (.i2l, 1) by decide +kernel) ?_
  obtain ⟨x21, x21e⟩ : ∃ x21 : Int, x21 = a3 - (G 12 z12) := ⟨_, rfl⟩
  have h := h x21 x21e
  rw [← x21e]
  refine go_lstore (show decode cX7_sumColumnsBetween 64 = .ok (.lstore 10, 2) by decide +kernel) (by decide) ?_
  show Go d MX7_sumColumnsBetween 66 [some (vR 34), some (vI a1), some (vI a2), some (vI a3), some (vR 4), some (vR 11), some (vI z6), some (vI z12), some (vJ x17), none, some (vJ x21), none, none, none, none, none, none] [] S F G Q
  refine go_lconst (n := 0) (show decode cX7_sumColumnsBetween 66 = .ok (.lconst 0, 1) by decide +kernel) ?_
  show Go d MX7_sumColumnsBetween 67 [some (vR 34), some (vI a1), some (vI a2), some (vI a3), some (vR 4), some (vR 11), some (vI z6), some (vI z12), some (vJ x17), none, some (vJ x21), none, none, none, none, none, none] [vJ 0] S F G Q
  refine go_lstore (show decode cX7_sumColumnsBetween 67 = .ok (.lstore 12, 2) by decide +kernel) (by decide) ?_
  show Go d MX7_sumColumnsBetween 69 [some (vR 34), some (vI a1), some (vI a2), some (vI a3), some (vR 4), some (vR 11), some (vI z6), some (vI z12), some (vJ x17), none, some (vJ x21), none, some (vJ 0), none, none, none, none] [] S F G Q
  refine go_iconst (show decode cX7_sumColumnsBetween 69 = .ok (.iconst 0, 1) by decide +kernel) (by decide) ?_
  refine go_istore (show decode cX7_sumColumnsBetween 70 = .ok (.istore 14, 2) by decide +kernel) (by decide) ?_
  show Go d MX7_sumColumnsBetween 72 [some (vR 34), some (vI a1), some (vI a2), some (vI a3), some (vR 4), some (vR 11), some (vI z6), some (vI z12), some (vJ x17), none, some (vJ x21), none, some (vJ 0), none, some (vI 0), none, none] [] S F G Q
  exact h
def V_X7_unitsAhead_0 (d : Nat) (S : AS) (F : AF) (G : AG) (Q : AQ) (a1 : Int) : Prop :=
  (1 ≤ d) ∧
  ∃ z6 : Int, Pu (d - 1) MX1_bandOf [vR 4, vI a1] S F G (some (vI z6)) ∧
  ((0 : Int) ≤ z6) ∧
  ((z6 : Int) < 48) ∧
  ((z6 : Int) < 105) ∧
  (r32 (a1 - (G 5 z6))) ∧
  (r64 ((G 40 z6) * (a1 - (G 5 z6)))) ∧
  (r64 ((G 41 z6) + ((G 40 z6) * (a1 - (G 5 z6))))) ∧
  Q (some (vJ ((G 41 z6) + ((G 40 z6) * (a1 - (G 5 z6)))))) S F G
theorem R_X7_unitsAhead_0 {d : Nat} {S : AS} {F : AF} {G : AG} {Q : AQ} {a1 : Int} (hsh : ShC S) (h : V_X7_unitsAhead_0 d S F G Q a1) : Go d MX7_unitsAhead 0 [some (vR 34), some (vI a1), none] [] S F G Q := by
  unfold V_X7_unitsAhead_0 at h
  refine go_aload_n (show decode cX7_unitsAhead 0 = .ok (.aload_n 0, 1) by decide +kernel) (by rfl) ?_
  refine go_getRc (show decode cX7_unitsAhead 1 = .ok (.getfield 12, 3) by decide +kernel) fl_X7_12 rfl (shc_k hsh 34 (by decide) (by decide)) (v := 2) (shc_r hsh 34 0 (by decide) (by decide) (by decide)) ?_
  refine go_getRc (show decode cX7_unitsAhead 4 = .ok (.getfield 61, 3) by decide +kernel) fl_X7_61 rfl (shc_k hsh 2 (by decide) (by decide)) (v := 3) (shc_r hsh 2 0 (by decide) (by decide) (by decide)) ?_
  refine go_getRc (show decode cX7_unitsAhead 7 = .ok (.getfield 55, 3) by decide +kernel) fl_X7_55 rfl (shc_k hsh 3 (by decide) (by decide)) (v := 4) (shc_r hsh 3 0 (by decide) (by decide) (by decide)) ?_
  refine go_iload_n (show decode cX7_unitsAhead 10 = .ok (.iload_n 1, 1) by decide +kernel) (by rfl) ?_
  obtain ⟨q1, h⟩ := h
  obtain ⟨z6, p7, h⟩ := h
  refine go_callV (d2 := d - 1) (M2 := MX1_bandOf) (n := 1) (ci := 1) (av := [vI a1]) (st := []) (show decode cX7_unitsAhead 11 = .ok (.invokevirtual 75, 3) by decide +kernel) ml_X7_75 mt_X1_bandOf min_X1_bandOf mse_X1_bandOf (by decide) (shc_k hsh 4 (by decide) (by decide)) rfl (Nat.le_of_ble_eq_true rfl) (by omega) (ok_mono p7 (fun w2 S3 F4 G5 e9 => ?_))
  obtain ⟨e1, e2, e3, e4⟩ := e9
  subst e1
  replace e2 := e2.symm; subst e2
  replace e3 := e3.symm; subst e3
  replace e4 := e4.symm; subst e4
  show Go d MX7_unitsAhead 14 [some (vR 34), some (vI a1), none] [vI z6] S F G Q
  refine go_istore_n (show decode cX7_unitsAhead 14 = .ok (.istore_n 2, 1) by decide +kernel) (by decide) ?_
  show Go d MX7_unitsAhead 15 [some (vR 34), some (vI a1), some (vI z6)] [] S F G Q
  refine go_aload_n (show decode cX7_unitsAhead 15 = .ok (.aload_n 0, 1) by decide +kernel) (by rfl) ?_
  refine go_getRc (show decode cX7_unitsAhead 16 = .ok (.getfield 42, 3) by decide +kernel) fl_X7_42 rfl (shc_k hsh 34 (by decide) (by decide)) (v := 41) (shc_r hsh 34 14 (by decide) (by decide) (by decide)) ?_
  refine go_iload_n (show decode cX7_unitsAhead 19 = .ok (.iload_n 2, 1) by decide +kernel) (by rfl) ?_
  obtain ⟨q8, h⟩ := h
  obtain ⟨q9, h⟩ := h
  refine go_laload (show decode cX7_unitsAhead 20 = .ok (.laload, 1) by decide +kernel) (shc_k hsh 41 (by decide) (by decide)) q8 (lt_n (m := 48) q9 (shc_n hsh 41 (by decide) (by decide))) ?_
  refine go_aload_n (show decode cX7_unitsAhead 21 = .ok (.aload_n 0, 1) by decide +kernel) (by rfl) ?_
  refine go_getRc (show decode cX7_unitsAhead 22 = .ok (.getfield 39, 3) by decide +kernel) fl_X7_39 rfl (shc_k hsh 34 (by decide) (by decide)) (v := 40) (shc_r hsh 34 13 (by decide) (by decide) (by decide)) ?_
  refine go_iload_n (show decode cX7_unitsAhead 25 = .ok (.iload_n 2, 1) by decide +kernel) (by rfl) ?_
  refine go_laload (show decode cX7_unitsAhead 26 = .ok (.laload, 1) by decide +kernel) (shc_k hsh 40 (by decide) (by decide)) q8 (lt_n (m := 48) q9 (shc_n hsh 40 (by decide) (by decide))) ?_
  refine go_iload_n (show decode cX7_unitsAhead 27 = .ok (.iload_n 1, 1) by decide +kernel) (by rfl) ?_
  refine go_aload_n (show decode cX7_unitsAhead 28 = .ok (.aload_n 0, 1) by decide +kernel) (by rfl) ?_
  refine go_getRc (show decode cX7_unitsAhead 29 = .ok (.getfield 12, 3) by decide +kernel) fl_X7_12 rfl (shc_k hsh 34 (by decide) (by decide)) (v := 2) (shc_r hsh 34 0 (by decide) (by decide) (by decide)) ?_
  refine go_getRc (show decode cX7_unitsAhead 32 = .ok (.getfield 61, 3) by decide +kernel) fl_X7_61 rfl (shc_k hsh 2 (by decide) (by decide)) (v := 3) (shc_r hsh 2 0 (by decide) (by decide) (by decide)) ?_
  refine go_getRc (show decode cX7_unitsAhead 35 = .ok (.getfield 55, 3) by decide +kernel) fl_X7_55 rfl (shc_k hsh 3 (by decide) (by decide)) (v := 4) (shc_r hsh 3 0 (by decide) (by decide) (by decide)) ?_
  refine go_getRc (show decode cX7_unitsAhead 38 = .ok (.getfield 118, 3) by decide +kernel) fl_X7_118 rfl (shc_k hsh 4 (by decide) (by decide)) (v := 5) (shc_r hsh 4 0 (by decide) (by decide) (by decide)) ?_
  refine go_iload_n (show decode cX7_unitsAhead 41 = .ok (.iload_n 2, 1) by decide +kernel) (by rfl) ?_
  obtain ⟨q10, h⟩ := h
  refine go_iaload (show decode cX7_unitsAhead 42 = .ok (.iaload, 1) by decide +kernel) (shc_k hsh 5 (by decide) (by decide)) q8 (lt_n (m := 105) q10 (shc_n hsh 5 (by decide) (by decide))) ?_
  obtain ⟨q11, h⟩ := h
  refine go_isub (show decode cX7_unitsAhead 43 = .ok (.isub, 1) by decide +kernel) q11 ?_
  refine go_i2l (show decode cX7_unitsAhead 44 = .ok (.i2l, 1) by decide +kernel) ?_
  obtain ⟨q12, h⟩ := h
  refine go_lmul (show decode cX7_unitsAhead 45 = .ok (.lmul, 1) by decide +kernel) q12 ?_
  obtain ⟨q13, h⟩ := h
  refine go_ladd (show decode cX7_unitsAhead 46 = .ok (.ladd, 1) by decide +kernel) q13 ?_
  exact go_lret (show decode cX7_unitsAhead 47 = .ok (.lreturn, 1) by decide +kernel) rfl h
def V_X7_findLine_65 (d : Nat) (S : AS) (F : AF) (G : AG) (Q : AQ) (a1 : Int) (a2 : Int) (a3 : Nat) (a4 : Int) (a5 : Int) : Prop :=
  (r32 (a5 + 1)) ∧
  Go d MX7_findLine 19 [some (vR 34), some (vI a1), some (vI a2), some (vR a3), some (vI a4), some (vI (a5 + 1))] [] S F G Q
theorem R_X7_findLine_65 {d : Nat} {S : AS} {F : AF} {G : AG} {Q : AQ} {a1 : Int} {a2 : Int} {a3 : Nat} {a4 : Int} {a5 : Int} (hsh : ShC S) (hk3 : AtCuts S a3) (h : V_X7_findLine_65 d S F G Q a1 a2 a3 a4 a5) : Go d MX7_findLine 65 [some (vR 34), some (vI a1), some (vI a2), some (vR a3), some (vI a4), some (vI a5)] [] S F G Q := by
  unfold V_X7_findLine_65 at h
  obtain ⟨q1, h⟩ := h
  refine go_iinc (show decode cX7_findLine 65 = .ok (.iinc 5 1, 3) by decide +kernel) (by rfl) q1 (by decide) ?_
  show Go d MX7_findLine 68 [some (vR 34), some (vI a1), some (vI a2), some (vR a3), some (vI a4), some (vI (a5 + 1))] [] S F G Q
  refine go_goto (tgt := 19) (show decode cX7_findLine 68 = .ok (.goto (-49), 3) by decide +kernel) (by decide) ?_
  exact h
def V_X7_findLine_19 (d : Nat) (S : AS) (F : AF) (G : AG) (Q : AQ) (a1 : Int) (a2 : Int) (a3 : Nat) (a4 : Int) (a5 : Int) : Prop :=
  ((F a3 1 ≤ a5) →
    Q (some (vI a4)) S F G) ∧
  ((¬ F a3 1 ≤ a5) →
    (1 ≤ d) ∧
    Ok (d - 1) MX7_measureWhole [vR 34, vI a1, vI a2, vI a5] S F G (fun w2 S3 F4 G5 =>
    S3 = S ∧
    w2 = none ∧
    ((F4 34 2 ≤ F4 34 8) →
      V_X7_findLine_65 d S F4 G5 Q a1 a2 a3 a4 a5) ∧
    ((¬ F4 34 2 ≤ F4 34 8) →
      ∀ F6 : AF, F6 = fu F4 34 8 (F4 34 2) →
      ((0 : Int) ≤ a5) ∧
      ((a5 : Int) < 105) ∧
      ∀ x9 : Int, x9 = G5 (a3 + 1) a5 →
      V_X7_findLine_65 d S F6 G5 Q a1 a2 a3 x9 a5)))
theorem R_X7_findLine_19 {d : Nat} {S : AS} {F : AF} {G : AG} {Q : AQ} {a1 : Int} {a2 : Int} {a3 : Nat} {a4 : Int} {a5 : Int} (hsh : ShC S) (hk3 : AtCuts S a3) (h : V_X7_findLine_19 d S F G Q a1 a2 a3 a4 a5) : Go d MX7_findLine 19 [some (vR 34), some (vI a1), some (vI a2), some (vR a3), some (vI a4), some (vI a5)] [] S F G Q := by
  unfold V_X7_findLine_19 at h
  refine go_iload (show decode cX7_findLine 19 = .ok (.iload 5, 2) by decide +kernel) (by rfl) ?_
  refine go_aload_n (show decode cX7_findLine 21 = .ok (.aload_n 3, 1) by decide +kernel) (by rfl) ?_
  refine go_getI (show decode cX7_findLine 22 = .ok (.getfield 135, 3) by decide +kernel) fl_X7_135 (Or.inl rfl) hk3.1 ?_
  obtain ⟨ht, hf⟩ := h
  refine go_icmpge (tgt := 71) (show decode cX7_findLine 25 = .ok (.if_icmp .ge 46, 3) by decide +kernel) (by decide) (fun hc => ?_) (fun hc => ?_)
  · have h := ht hc
    refine go_iload (show decode cX7_findLine 71 = .ok (.iload 4, 2) by decide +kernel) (by rfl) ?_
    exact go_iret (show decode cX7_findLine 73 = .ok (.ireturn, 1) by decide +kernel) rfl h
  · have h := hf hc
    refine go_aload_n (show decode cX7_findLine 28 = .ok (.aload_n 0, 1) by decide +kernel) (by rfl) ?_
    refine go_iload_n (show decode cX7_findLine 29 = .ok (.iload_n 1, 1) by decide +kernel) (by rfl) ?_
    refine go_iload_n (show decode cX7_findLine 30 = .ok (.iload_n 2, 1) by decide +kernel) (by rfl) ?_
    refine go_iload (show decode cX7_findLine 31 = .ok (.iload 5, 2) by decide +kernel) (by rfl) ?_
    obtain ⟨q1, h⟩ := h
    refine go_callV (d2 := d - 1) (M2 := MX7_measureWhole) (n := 3) (ci := 7) (av := [vI a1, vI a2, vI a5]) (st := []) (show decode cX7_findLine 33 = .ok (.invokevirtual 149, 3) by decide +kernel) ml_X7_149 mt_X7_measureWhole min_X7_measureWhole mse_X7_measureWhole (by decide) (shc_k hsh 34 (by decide) (by decide)) rfl (Nat.le_of_ble_eq_true rfl) (by omega) (ok_mono h (fun w2 S3 F4 G5 h => ?_))
    obtain ⟨e8, h⟩ := h
    replace e8 := e8.symm; subst e8
    obtain ⟨e9, h⟩ := h
    subst e9
    show Go d MX7_findLine 36 [some (vR 34), some (vI a1), some (vI a2), some (vR a3), some (vI a4), some (vI a5)] [] S F4 G5 Q
    refine go_aload_n (show decode cX7_findLine 36 = .ok (.aload_n 0, 1) by decide +kernel) (by rfl) ?_
    refine go_getJ (show decode cX7_findLine 37 = .ok (.getfield 68, 3) by decide +kernel) fl_X7_68 rfl (shc_k hsh 34 (by decide) (by decide)) ?_
    refine go_aload_n (show decode cX7_findLine 40 = .ok (.aload_n 0, 1) by decide +kernel) (by rfl) ?_
    refine go_getJ (show decode cX7_findLine 41 = .ok (.getfield 170, 3) by decide +kernel) fl_X7_170 rfl (shc_k hsh 34 (by decide) (by decide)) ?_
    obtain ⟨ht, hf⟩ := h
    refine go_jle (tgt := 65) (show decode cX7_findLine 44 = .ok (.lcmp, 1) by decide +kernel) (show decode cX7_findLine 45 = .ok (.ifCond .le 20, 3) by decide +kernel) (by decide) (fun hc => ?_) (fun hc => ?_)
    · have h := ht hc
      exact R_X7_findLine_65 hsh hk3 h
    · have h := hf hc
      refine go_aload_n (show decode cX7_findLine 48 = .ok (.aload_n 0, 1) by decide +kernel) (by rfl) ?_
      refine go_aload_n (show decode cX7_findLine 49 = .ok (.aload_n 0, 1) by decide +kernel) (by rfl) ?_
      refine go_getJ (show decode cX7_findLine 50 = .ok (.getfield 68, 3) by decide +kernel) fl_X7_68 rfl (shc_k hsh 34 (by decide) (by decide)) ?_
      refine go_putJ (show decode cX7_findLine 53 = .ok (.putfield 170, 3) by decide +kernel) fl_X7_170 rfl (Or.inl rfl) (shc_k hsh 34 (by decide) (by decide)) ?_
      obtain ⟨F6, F6e⟩ : ∃ F6 : AF, F6 = fu F4 34 8 (F4 34 2) := ⟨_, rfl⟩
      have h := h F6 F6e
      rw [← F6e]
      refine go_aload_n (show decode cX7_findLine 56 = .ok (.aload_n 3, 1) by decide +kernel) (by rfl) ?_
      refine go_getRc (show decode cX7_findLine 57 = .ok (.getfield 118, 3) by decide +kernel) fl_X7_118 rfl hk3.1 (v := (a3 + 1)) hk3.2.1 ?_
      refine go_iload (show decode cX7_findLine 60 = .ok (.iload 5, 2) by decide +kernel) (by rfl) ?_
      obtain ⟨q7, h⟩ := h
      obtain ⟨q8, h⟩ := h
      refine go_iaload (show decode cX7_findLine 62 = .ok (.iaload, 1) by decide +kernel) hk3.2.2.1 q7 (lt_n (m := 105) q8 hk3.2.2.2) ?_
      obtain ⟨x9, x9e⟩ : ∃ x9 : Int, x9 = G5 (a3 + 1) a5 := ⟨_, rfl⟩
      have h := h x9 x9e
      rw [← x9e]
      refine go_istore (show decode cX7_findLine 63 = .ok (.istore 4, 2) by decide +kernel) (by decide) ?_
      show Go d MX7_findLine 65 [some (vR 34), some (vI a1), some (vI a2), some (vR a3), some (vI x9), some (vI a5)] [] S F6 G5 Q
      exact R_X7_findLine_65 hsh hk3 h
def V_X7_findLine_0 (d : Nat) (S : AS) (F : AF) (G : AG) (Q : AQ) (a1 : Int) (a2 : Int) : Prop :=
  (1 ≤ d) ∧
  ∃ z6 : Nat, Pu (d - 1) MX7_outer [vR 34, vI a2] S F G (some (vR z6)) ∧
  ∀ F8 : AF, F8 = fu F 34 8 (-1) →
  Go d MX7_findLine 19 [some (vR 34), some (vI a1), some (vI a2), some (vR z6), some (vI 0), some (vI 0)] [] S F8 G Q
theorem R_X7_findLine_0 {d : Nat} {S : AS} {F : AF} {G : AG} {Q : AQ} {a1 : Int} {a2 : Int} (hsh : ShC S) (h : V_X7_findLine_0 d S F G Q a1 a2) : Go d MX7_findLine 0 [some (vR 34), some (vI a1), some (vI a2), none, none, none] [] S F G Q := by
  unfold V_X7_findLine_0 at h
  refine go_aload_n (show decode cX7_findLine 0 = .ok (.aload_n 0, 1) by decide +kernel) (by rfl) ?_
  refine go_iload_n (show decode cX7_findLine 1 = .ok (.iload_n 2, 1) by decide +kernel) (by rfl) ?_
  obtain ⟨q1, h⟩ := h
  obtain ⟨z6, p7, h⟩ := h
  refine go_callV (d2 := d - 1) (M2 := MX7_outer) (n := 1) (ci := 7) (av := [vI a2]) (st := []) (show decode cX7_findLine 2 = .ok (.invokevirtual 112, 3) by decide +kernel) ml_X7_112 mt_X7_outer min_X7_outer mse_X7_outer (by decide) (shc_k hsh 34 (by decide) (by decide)) rfl (Nat.le_of_ble_eq_true rfl) (by omega) (ok_mono p7 (fun w2 S3 F4 G5 e9 => ?_))
  obtain ⟨e1, e2, e3, e4⟩ := e9
  subst e1
  replace e2 := e2.symm; subst e2
  replace e3 := e3.symm; subst e3
  replace e4 := e4.symm; subst e4
  show Go d MX7_findLine 5 [some (vR 34), some (vI a1), some (vI a2), none, none, none] [vR z6] S F G Q
  refine go_astore_n (show decode cX7_findLine 5 = .ok (.astore_n 3, 1) by decide +kernel) (by decide) ?_
  show Go d MX7_findLine 6 [some (vR 34), some (vI a1), some (vI a2), some (vR z6), none, none] [] S F G Q
  refine go_iconst (show decode cX7_findLine 6 = .ok (.iconst 0, 1) by decide +kernel) (by decide) ?_
  refine go_istore (show decode cX7_findLine 7 = .ok (.istore 4, 2) by decide +kernel) (by decide) ?_
  show Go d MX7_findLine 9 [some (vR 34), some (vI a1), some (vI a2), some (vR z6), some (vI 0), none] [] S F G Q
  refine go_aload_n (show decode cX7_findLine 9 = .ok (.aload_n 0, 1) by decide +kernel) (by rfl) ?_
  refine go_ldc2 (show decode cX7_findLine 10 = .ok (.ldc2_w 168, 3) by decide +kernel) lc_X7_168 (by decide) ?_
  refine go_putJ (show decode cX7_findLine 13 = .ok (.putfield 170, 3) by decide +kernel) fl_X7_170 rfl (Or.inl rfl) (shc_k hsh 34 (by decide) (by decide)) ?_
  obtain ⟨F8, F8e⟩ : ∃ F8 : AF, F8 = fu F 34 8 (-1) := ⟨_, rfl⟩
  have h := h F8 F8e
  rw [← F8e]
  refine go_iconst (show decode cX7_findLine 16 = .ok (.iconst 0, 1) by decide +kernel) (by decide) ?_
  refine go_istore (show decode cX7_findLine 17 = .ok (.istore 5, 2) by decide +kernel) (by decide) ?_
  show Go d MX7_findLine 19 [some (vR 34), some (vI a1), some (vI a2), some (vR z6), some (vI 0), some (vI 0)] [] S F8 G Q
  exact h
set_option maxRecDepth 50000 in
def V_X9_init_70 (d : Nat) (S : AS) (F : AF) (G : AG) (Q : AQ) (a0 : Nat) : Prop :=
  (sK S a0 = 9) ∧
  (1 ≤ d) ∧
  (sK S (sR S a0 1) = 2) ∧
  Ok (d - 1) MX2_clear [vR (sR S a0 1), vI 1, vI 1, vJ 1000000000000] S F G (fun w3 S4 F5 G6 =>
  w3 = none ∧
  Q none S4 F5 G6)
set_option maxRecDepth 50000 in
theorem R_X9_init_70 {d : Nat} {S : AS} {F : AF} {G : AG} {Q : AQ} {a0 : Nat} (h : V_X9_init_70 d S F G Q a0) : Go d MX9_init 70 [some (vR a0)] [] S F G Q := by
  unfold V_X9_init_70 at h
  refine go_aload_n (show decode cX9_init 70 = .ok (.aload_n 0, 1) by decide +kernel) (by rfl) ?_
  obtain ⟨q1, h⟩ := h
  refine go_getR (show decode cX9_init 71 = .ok (.getfield 20, 3) by decide +kernel) fl_X9_20 rfl q1 ?_
  refine go_iconst (show decode cX9_init 74 = .ok (.iconst 1, 1) by decide +kernel) (by decide) ?_
  refine go_iconst (show decode cX9_init 75 = .ok (.iconst 1, 1) by decide +kernel) (by decide) ?_
  refine go_ldc2 (show decode cX9_init 76 = .ok (.ldc2_w 45, 3) by decide +kernel) lc_X9_45 (by decide) ?_
  obtain ⟨q2, h⟩ := h
  obtain ⟨q7, h⟩ := h
  refine go_callV (d2 := d - 1) (M2 := MX2_clear) (n := 3) (ci := 2) (av := [vI 1, vI 1, vJ 1000000000000]) (st := []) (show decode cX9_init 79 = .ok (.invokevirtual 47, 3) by decide +kernel) ml_X9_47 mt_X2_clear min_X2_clear mse_X2_clear (by decide) q7 rfl (Nat.le_of_ble_eq_true rfl) (by omega) (ok_mono h (fun w3 S4 F5 G6 h => ?_))
  obtain ⟨e9, h⟩ := h
  subst e9
  show Go d MX9_init 82 [some (vR a0)] [] S4 F5 G6 Q
  exact go_vret (show decode cX9_init 82 = .ok (.return_, 1) by decide +kernel) rfl h
set_option maxRecDepth 50000 in
def V_X9_init_37 (d : Nat) (S : AS) (F : AF) (G : AG) (Q : AQ) (a0 : Nat) : Prop :=
  (sn S < 999998) ∧
  ∀ x2 : Nat, x2 = sn S + 1 →
  ∀ S3 : AS, S3 = na S 5 0 12 →
  ∀ F4 : AF, F4 = nF S F →
  ∀ G5 : AG, G5 = nG S G →
  (1 ≤ d) ∧
  (1 ≤ x2) ∧
  Ok (d - 1) MX5_init [vR x2] S3 F4 G5 (fun w7 S8 F9 G10 =>
  w7 = none ∧
  (sK S8 a0 = 9) ∧
  (x2 ≤ sn S8) ∧
  ∀ S14 : AS, S14 = ru S8 a0 3 x2 →
  (sn S14 < 999998) ∧
  ∀ x16 : Nat, x16 = sn S14 + 1 →
  ∀ S17 : AS, S17 = na S14 3 0 4 →
  ∀ F18 : AF, F18 = nF S14 F9 →
  ∀ G19 : AG, G19 = nG S14 G10 →
  (1 ≤ d) ∧
  (1 ≤ x16) ∧
  Ok (d - 1) MX3_init [vR x16] S17 F18 G19 (fun w21 S22 F23 G24 =>
  w21 = none ∧
  (sK S22 a0 = 9) ∧
  (x16 ≤ sn S22) ∧
  ∀ S28 : AS, S28 = ru S22 a0 4 x16 →
  (sn S28 < 999998) ∧
  ∀ x30 : Nat, x30 = sn S28 + 1 →
  ∀ S31 : AS, S31 = na S28 3 0 4 →
  ∀ F32 : AF, F32 = nF S28 F23 →
  ∀ G33 : AG, G33 = nG S28 G24 →
  (1 ≤ d) ∧
  (1 ≤ x30) ∧
  Ok (d - 1) MX3_init [vR x30] S31 F32 G33 (fun w35 S36 F37 G38 =>
  w35 = none ∧
  (sK S36 a0 = 9) ∧
  (x30 ≤ sn S36) ∧
  ∀ S42 : AS, S42 = ru S36 a0 5 x30 →
  V_X9_init_70 d S42 F37 G38 Q a0)))
set_option maxRecDepth 50000 in
theorem R_X9_init_37 {d : Nat} {S : AS} {F : AF} {G : AG} {Q : AQ} {a0 : Nat} (h : V_X9_init_37 d S F G Q a0) : Go d MX9_init 37 [some (vR a0)] [] S F G Q := by
  unfold V_X9_init_37 at h
  refine go_aload_n (show decode cX9_init 37 = .ok (.aload_n 0, 1) by decide +kernel) (by rfl) ?_
  obtain ⟨q1, h⟩ := h
  refine go_new (show decode cX9_init 38 = .ok (.new 28, 3) by decide +kernel) (by decide) cl_X9_28 ci_5 cz_5 q1 ?_
  show Go d MX9_init 41 [some (vR a0)] [vR (sn S + 1), vR a0] (na S 5 0 12) (nF S F) (nG S G) Q
  obtain ⟨x2, x2e⟩ : ∃ x2 : Nat, x2 = sn S + 1 := ⟨_, rfl⟩
  have h := h x2 x2e
  rw [← x2e]
  obtain ⟨S3, S3e⟩ : ∃ S3 : AS, S3 = na S 5 0 12 := ⟨_, rfl⟩
  have h := h S3 S3e
  rw [← S3e]
  obtain ⟨F4, F4e⟩ : ∃ F4 : AF, F4 = nF S F := ⟨_, rfl⟩
  have h := h F4 F4e
  rw [← F4e]
  obtain ⟨G5, G5e⟩ : ∃ G5 : AG, G5 = nG S G := ⟨_, rfl⟩
  have h := h G5 G5e
  rw [← G5e]
  refine go_dup (show decode cX9_init 41 = .ok (.dup, 1) by decide +kernel) ?_
  obtain ⟨q6, h⟩ := h
  obtain ⟨q11, h⟩ := h
  refine go_callIN (d2 := d - 1) (M2 := MX5_init) (n := 0) (av := []) (st := [vR x2, vR a0]) (show decode cX9_init 42 = .ok (.invokespecial 30, 3) by decide +kernel) ml_X9_30 mt_X5_init rfl rfl min_X5_init q11 rfl (Nat.le_of_ble_eq_true rfl) (by omega) (ok_mono h (fun w7 S8 F9 G10 h => ?_))
  obtain ⟨e9, h⟩ := h
  subst e9
  show Go d MX9_init 45 [some (vR a0)] [vR x2, vR a0] S8 F9 G10 Q
  obtain ⟨q12, h⟩ := h
  obtain ⟨q13, h⟩ := h
  refine go_putR (show decode cX9_init 45 = .ok (.putfield 31, 3) by decide +kernel) fl_X9_31 rfl (Or.inr ⟨rfl, rfl⟩) q12 q13 ?_
  obtain ⟨S14, S14e⟩ : ∃ S14 : AS, S14 = ru S8 a0 3 x2 := ⟨_, rfl⟩
  have h := h S14 S14e
  rw [← S14e]
  refine go_aload_n (show decode cX9_init 48 = .ok (.aload_n 0, 1) by decide +kernel) (by rfl) ?_
  obtain ⟨q15, h⟩ := h
  refine go_new (show decode cX9_init 49 = .ok (.new 35, 3) by decide +kernel) (by decide) cl_X9_35 ci_3 cz_3 q15 ?_
  show Go d MX9_init 52 [some (vR a0)] [vR (sn S14 + 1), vR a0] (na S14 3 0 4) (nF S14 F9) (nG S14 G10) Q
  obtain ⟨x16, x16e⟩ : ∃ x16 : Nat, x16 = sn S14 + 1 := ⟨_, rfl⟩
  have h := h x16 x16e
  rw [← x16e]
  obtain ⟨S17, S17e⟩ : ∃ S17 : AS, S17 = na S14 3 0 4 := ⟨_, rfl⟩
  have h := h S17 S17e
  rw [← S17e]
  obtain ⟨F18, F18e⟩ : ∃ F18 : AF, F18 = nF S14 F9 := ⟨_, rfl⟩
  have h := h F18 F18e
  rw [← F18e]
  obtain ⟨G19, G19e⟩ : ∃ G19 : AG, G19 = nG S14 G10 := ⟨_, rfl⟩
  have h := h G19 G19e
  rw [← G19e]
  refine go_dup (show decode cX9_init 52 = .ok (.dup, 1) by decide +kernel) ?_
  obtain ⟨q20, h⟩ := h
  obtain ⟨q25, h⟩ := h
  refine go_callIN (d2 := d - 1) (M2 := MX3_init) (n := 0) (av := []) (st := [vR x16, vR a0]) (show decode cX9_init 53 = .ok (.invokespecial 37, 3) by decide +kernel) ml_X9_37 mt_X3_init rfl rfl min_X3_init q25 rfl (Nat.le_of_ble_eq_true rfl) (by omega) (ok_mono h (fun w21 S22 F23 G24 h => ?_))
  obtain ⟨e9, h⟩ := h
  subst e9
  show Go d MX9_init 56 [some (vR a0)] [vR x16, vR a0] S22 F23 G24 Q
  obtain ⟨q26, h⟩ := h
  obtain ⟨q27, h⟩ := h
  refine go_putR (show decode cX9_init 56 = .ok (.putfield 38, 3) by decide +kernel) fl_X9_38 rfl (Or.inr ⟨rfl, rfl⟩) q26 q27 ?_
  obtain ⟨S28, S28e⟩ : ∃ S28 : AS, S28 = ru S22 a0 4 x16 := ⟨_, rfl⟩
  have h := h S28 S28e
  rw [← S28e]
  refine go_aload_n (show decode cX9_init 59 = .ok (.aload_n 0, 1) by decide +kernel) (by rfl) ?_
  obtain ⟨q29, h⟩ := h
  refine go_new (show decode cX9_init 60 = .ok (.new 35, 3) by decide +kernel) (by decide) cl_X9_35 ci_3 cz_3 q29 ?_
  show Go d MX9_init 63 [some (vR a0)] [vR (sn S28 + 1), vR a0] (na S28 3 0 4) (nF S28 F23) (nG S28 G24) Q
  obtain ⟨x30, x30e⟩ : ∃ x30 : Nat, x30 = sn S28 + 1 := ⟨_, rfl⟩
  have h := h x30 x30e
  rw [← x30e]
  obtain ⟨S31, S31e⟩ : ∃ S31 : AS, S31 = na S28 3 0 4 := ⟨_, rfl⟩
  have h := h S31 S31e
  rw [← S31e]
  obtain ⟨F32, F32e⟩ : ∃ F32 : AF, F32 = nF S28 F23 := ⟨_, rfl⟩
  have h := h F32 F32e
  rw [← F32e]
  obtain ⟨G33, G33e⟩ : ∃ G33 : AG, G33 = nG S28 G24 := ⟨_, rfl⟩
  have h := h G33 G33e
  rw [← G33e]
  refine go_dup (show decode cX9_init 63 = .ok (.dup, 1) by decide +kernel) ?_
  obtain ⟨q34, h⟩ := h
  obtain ⟨q39, h⟩ := h
  refine go_callIN (d2 := d - 1) (M2 := MX3_init) (n := 0) (av := []) (st := [vR x30, vR a0]) (show decode cX9_init 64 = .ok (.invokespecial 37, 3) by decide +kernel) ml_X9_37 mt_X3_init rfl rfl min_X3_init q39 rfl (Nat.le_of_ble_eq_true rfl) (by omega) (ok_mono h (fun w35 S36 F37 G38 h => ?_))
  obtain ⟨e9, h⟩ := h
  subst e9
  show Go d MX9_init 67 [some (vR a0)] [vR x30, vR a0] S36 F37 G38 Q
  obtain ⟨q40, h⟩ := h
  obtain ⟨q41, h⟩ := h
  refine go_putR (show decode cX9_init 67 = .ok (.putfield 42, 3) by decide +kernel) fl_X9_42 rfl (Or.inr ⟨rfl, rfl⟩) q40 q41 ?_
  obtain ⟨S42, S42e⟩ : ∃ S42 : AS, S42 = ru S36 a0 5 x30 := ⟨_, rfl⟩
  have h := h S42 S42e
  rw [← S42e]
  exact R_X9_init_70 h
set_option maxRecDepth 50000 in
def V_X9_init_0 (d : Nat) (S : AS) (F : AF) (G : AG) (Q : AQ) (a0 : Nat) : Prop :=
  (1 ≤ d) ∧
  (1 ≤ a0) ∧
  (sn S < 999998) ∧
  ∀ x4 : Nat, x4 = sn S + 1 →
  ∀ S5 : AS, S5 = na S 7 0 17 →
  ∀ F6 : AF, F6 = nF S F →
  ∀ G7 : AG, G7 = nG S G →
  (1 ≤ d) ∧
  (1 ≤ x4) ∧
  Ok (d - 1) MX7_init [vR x4] S5 F6 G7 (fun w9 S10 F11 G12 =>
  w9 = none ∧
  (sK S10 a0 = 9) ∧
  (x4 ≤ sn S10) ∧
  ∀ S16 : AS, S16 = ru S10 a0 0 x4 →
  (sK S16 a0 = 9) ∧
  (sK S16 (sR S16 a0 0) = 7) ∧
  (sR S16 (sR S16 a0 0) 0 ≤ sn S16) ∧
  ∀ S20 : AS, S20 = ru S16 a0 1 (sR S16 (sR S16 a0 0) 0) →
  (sn S20 < 999998) ∧
  ∀ x22 : Nat, x22 = sn S20 + 1 →
  ∀ S23 : AS, S23 = na S20 6 0 3 →
  ∀ F24 : AF, F24 = nF S20 F11 →
  ∀ G25 : AG, G25 = nG S20 G12 →
  (1 ≤ d) ∧
  (1 ≤ x22) ∧
  Ok (d - 1) MX6_init [vR x22] S23 F24 G25 (fun w27 S28 F29 G30 =>
  w27 = none ∧
  (sK S28 a0 = 9) ∧
  (x22 ≤ sn S28) ∧
  ∀ S34 : AS, S34 = ru S28 a0 2 x22 →
  V_X9_init_37 d S34 F29 G30 Q a0))
set_option maxRecDepth 50000 in
theorem R_X9_init_0 {d : Nat} {S : AS} {F : AF} {G : AG} {Q : AQ} {a0 : Nat} (h : V_X9_init_0 d S F G Q a0) : Go d MX9_init 0 [some (vR a0)] [] S F G Q := by
  unfold V_X9_init_0 at h
  refine go_aload_n (show decode cX9_init 0 = .ok (.aload_n 0, 1) by decide +kernel) (by rfl) ?_
  obtain ⟨q1, h⟩ := h
  obtain ⟨q2, h⟩ := h
  refine go_objInit (show decode cX9_init 1 = .ok (.invokespecial 3, 3) by decide +kernel) ml_X9_3 oi_1 oi_2 q2 (Nat.le_of_ble_eq_true rfl) q1 ?_
  refine go_aload_n (show decode cX9_init 4 = .ok (.aload_n 0, 1) by decide +kernel) (by rfl) ?_
  obtain ⟨q3, h⟩ := h
  refine go_new (show decode cX9_init 5 = .ok (.new 9, 3) by decide +kernel) (by decide) cl_X9_9 ci_7 cz_7 q3 ?_
  show Go d MX9_init 8 [some (vR a0)] [vR (sn S + 1), vR a0] (na S 7 0 17) (nF S F) (nG S G) Q
  obtain ⟨x4, x4e⟩ : ∃ x4 : Nat, x4 = sn S + 1 := ⟨_, rfl⟩
  have h := h x4 x4e
  rw [← x4e]
  obtain ⟨S5, S5e⟩ : ∃ S5 : AS, S5 = na S 7 0 17 := ⟨_, rfl⟩
  have h := h S5 S5e
  rw [← S5e]
  obtain ⟨F6, F6e⟩ : ∃ F6 : AF, F6 = nF S F := ⟨_, rfl⟩
  have h := h F6 F6e
  rw [← F6e]
  obtain ⟨G7, G7e⟩ : ∃ G7 : AG, G7 = nG S G := ⟨_, rfl⟩
  have h := h G7 G7e
  rw [← G7e]
  refine go_dup (show decode cX9_init 8 = .ok (.dup, 1) by decide +kernel) ?_
  obtain ⟨q8, h⟩ := h
  obtain ⟨q13, h⟩ := h
  refine go_callIN (d2 := d - 1) (M2 := MX7_init) (n := 0) (av := []) (st := [vR x4, vR a0]) (show decode cX9_init 9 = .ok (.invokespecial 11, 3) by decide +kernel) ml_X9_11 mt_X7_init rfl rfl min_X7_init q13 rfl (Nat.le_of_ble_eq_true rfl) (by omega) (ok_mono h (fun w9 S10 F11 G12 h => ?_))
  obtain ⟨e9, h⟩ := h
  subst e9
  show Go d MX9_init 12 [some (vR a0)] [vR x4, vR a0] S10 F11 G12 Q
  obtain ⟨q14, h⟩ := h
  obtain ⟨q15, h⟩ := h
  refine go_putR (show decode cX9_init 12 = .ok (.putfield 12, 3) by decide +kernel) fl_X9_12 rfl (Or.inr ⟨rfl, rfl⟩) q14 q15 ?_
  obtain ⟨S16, S16e⟩ : ∃ S16 : AS, S16 = ru S10 a0 0 x4 := ⟨_, rfl⟩
  have h := h S16 S16e
  rw [← S16e]
  refine go_aload_n (show decode cX9_init 15 = .ok (.aload_n 0, 1) by decide +kernel) (by rfl) ?_
  refine go_aload_n (show decode cX9_init 16 = .ok (.aload_n 0, 1) by decide +kernel) (by rfl) ?_
  obtain ⟨q17, h⟩ := h
  refine go_getR (show decode cX9_init 17 = .ok (.getfield 12, 3) by decide +kernel) fl_X9_12 rfl q17 ?_
  obtain ⟨q18, h⟩ := h
  refine go_getR (show decode cX9_init 20 = .ok (.getfield 16, 3) by decide +kernel) fl_X9_16 rfl q18 ?_
  obtain ⟨q19, h⟩ := h
  refine go_putR (show decode cX9_init 23 = .ok (.putfield 20, 3) by decide +kernel) fl_X9_20 rfl (Or.inr ⟨rfl, rfl⟩) q17 q19 ?_
  obtain ⟨S20, S20e⟩ : ∃ S20 : AS, S20 = ru S16 a0 1 (sR S16 (sR S16 a0 0) 0) := ⟨_, rfl⟩
  have h := h S20 S20e
  rw [← S20e]
  refine go_aload_n (show decode cX9_init 26 = .ok (.aload_n 0, 1) by decide +kernel) (by rfl) ?_
  obtain ⟨q21, h⟩ := h
  refine go_new (show decode cX9_init 27 = .ok (.new 21, 3) by decide +kernel) (by decide) cl_X9_21 ci_6 cz_6 q21 ?_
  show Go d MX9_init 30 [some (vR a0)] [vR (sn S20 + 1), vR a0] (na S20 6 0 3) (nF S20 F11) (nG S20 G12) Q
  obtain ⟨x22, x22e⟩ : ∃ x22 : Nat, x22 = sn S20 + 1 := ⟨_, rfl⟩
  have h := h x22 x22e
  rw [← x22e]
  obtain ⟨S23, S23e⟩ : ∃ S23 : AS, S23 = na S20 6 0 3 := ⟨_, rfl⟩
  have h := h S23 S23e
  rw [← S23e]
  obtain ⟨F24, F24e⟩ : ∃ F24 : AF, F24 = nF S20 F11 := ⟨_, rfl⟩
  have h := h F24 F24e
  rw [← F24e]
  obtain ⟨G25, G25e⟩ : ∃ G25 : AG, G25 = nG S20 G12 := ⟨_, rfl⟩
  have h := h G25 G25e
  rw [← G25e]
  refine go_dup (show decode cX9_init 30 = .ok (.dup, 1) by decide +kernel) ?_
  obtain ⟨q26, h⟩ := h
  obtain ⟨q31, h⟩ := h
  refine go_callIN (d2 := d - 1) (M2 := MX6_init) (n := 0) (av := []) (st := [vR x22, vR a0]) (show decode cX9_init 31 = .ok (.invokespecial 23, 3) by decide +kernel) ml_X9_23 mt_X6_init rfl rfl min_X6_init q31 rfl (Nat.le_of_ble_eq_true rfl) (by omega) (ok_mono h (fun w27 S28 F29 G30 h => ?_))
  obtain ⟨e9, h⟩ := h
  subst e9
  show Go d MX9_init 34 [some (vR a0)] [vR x22, vR a0] S28 F29 G30 Q
  obtain ⟨q32, h⟩ := h
  obtain ⟨q33, h⟩ := h
  refine go_putR (show decode cX9_init 34 = .ok (.putfield 24, 3) by decide +kernel) fl_X9_24 rfl (Or.inr ⟨rfl, rfl⟩) q32 q33 ?_
  obtain ⟨S34, S34e⟩ : ∃ S34 : AS, S34 = ru S28 a0 2 x22 := ⟨_, rfl⟩
  have h := h S34 S34e
  rw [← S34e]
  exact R_X9_init_37 h
def V_X9_world_0 (d : Nat) (S : AS) (F : AF) (G : AG) (Q : AQ) (a1 : Int) (a2 : Int) (a3 : Int) : Prop :=
  ((a1 < 1) →
    Q (some (vJ (-3))) S F G) ∧
  ((¬ a1 < 1) →
    ((10000 < a1) →
      Q (some (vJ (-3))) S F G) ∧
    ((¬ 10000 < a1) →
      ((a2 < 1) →
        Q (some (vJ (-3))) S F G) ∧
      ((¬ a2 < 1) →
        ((10000 < a2) →
          Q (some (vJ (-3))) S F G) ∧
        ((¬ 10000 < a2) →
          ((a3 < 1) →
            Q (some (vJ (-3))) S F G) ∧
          ((¬ a3 < 1) →
            ((a3 ≤ 1000000000000) →
              (1 ≤ d) ∧
              Ok (d - 1) MX2_clear [vR 2, vI a1, vI a2, vJ a3] S F G (fun w2 S3 F4 G5 =>
              S3 = S ∧
              w2 = none ∧
              Ok (d - 1) MX6_clear [vR 44] S F4 G5 (fun w6 S7 F8 G9 =>
              S7 = S ∧
              w6 = none ∧
              ∃ z14 : Int, Pu (d - 1) MX3_cells [vR 17] S F8 G9 (some (vJ z14)) ∧
              Q (some (vJ z14)) S F8 G9))) ∧
            ((¬ a3 ≤ 1000000000000) →
              Q (some (vJ (-3))) S F G))))))
theorem R_X9_world_0 {d : Nat} {S : AS} {F : AF} {G : AG} {Q : AQ} {a1 : Int} {a2 : Int} {a3 : Int} (hsh : ShC S) (h : V_X9_world_0 d S F G Q a1 a2 a3) : Go d MX9_world 0 [some (vR 1), some (vI a1), some (vI a2), some (vJ a3), none] [] S F G Q := by
  unfold V_X9_world_0 at h
  refine go_iload_n (show decode cX9_world 0 = .ok (.iload_n 1, 1) by decide +kernel) (by rfl) ?_
  refine go_iconst (show decode cX9_world 1 = .ok (.iconst 1, 1) by decide +kernel) (by decide) ?_
  obtain ⟨ht, hf⟩ := h
  refine go_icmplt (tgt := 38) (show decode cX9_world 2 = .ok (.if_icmp .lt 36, 3) by decide +kernel) (by decide) (fun hc => ?_) (fun hc => ?_)
  · have h := ht hc
    refine go_ldc2 (show decode cX9_world 38 = .ok (.ldc2_w 53, 3) by decide +kernel) lc_X9_53 (by decide) ?_
    exact go_lret (show decode cX9_world 41 = .ok (.lreturn, 1) by decide +kernel) rfl h
  · have h := hf hc
    refine go_iload_n (show decode cX9_world 5 = .ok (.iload_n 1, 1) by decide +kernel) (by rfl) ?_
    refine go_sipush (show decode cX9_world 6 = .ok (.sipush 10000, 3) by decide +kernel) (by decide) ?_
    obtain ⟨ht, hf⟩ := h
    refine go_icmpgt (tgt := 38) (show decode cX9_world 9 = .ok (.if_icmp .gt 29, 3) by decide +kernel) (by decide) (fun hc => ?_) (fun hc => ?_)
    · have h := ht hc
      refine go_ldc2 (show decode cX9_world 38 = .ok (.ldc2_w 53, 3) by decide +kernel) lc_X9_53 (by decide) ?_
      exact go_lret (show decode cX9_world 41 = .ok (.lreturn, 1) by decide +kernel) rfl h
    · have h := hf hc
      refine go_iload_n (show decode cX9_world 12 = .ok (.iload_n 2, 1) by decide +kernel) (by rfl) ?_
      refine go_iconst (show decode cX9_world 13 = .ok (.iconst 1, 1) by decide +kernel) (by decide) ?_
      obtain ⟨ht, hf⟩ := h
      refine go_icmplt (tgt := 38) (show decode cX9_world 14 = .ok (.if_icmp .lt 24, 3) by decide +kernel) (by decide) (fun hc => ?_) (fun hc => ?_)
      · have h := ht hc
        refine go_ldc2 (show decode cX9_world 38 = .ok (.ldc2_w 53, 3) by decide +kernel) lc_X9_53 (by decide) ?_
        exact go_lret (show decode cX9_world 41 = .ok (.lreturn, 1) by decide +kernel) rfl h
      · have h := hf hc
        refine go_iload_n (show decode cX9_world 17 = .ok (.iload_n 2, 1) by decide +kernel) (by rfl) ?_
        refine go_sipush (show decode cX9_world 18 = .ok (.sipush 10000, 3) by decide +kernel) (by decide) ?_
        obtain ⟨ht, hf⟩ := h
        refine go_icmpgt (tgt := 38) (show decode cX9_world 21 = .ok (.if_icmp .gt 17, 3) by decide +kernel) (by decide) (fun hc => ?_) (fun hc => ?_)
        · have h := ht hc
          refine go_ldc2 (show decode cX9_world 38 = .ok (.ldc2_w 53, 3) by decide +kernel) lc_X9_53 (by decide) ?_
          exact go_lret (show decode cX9_world 41 = .ok (.lreturn, 1) by decide +kernel) rfl h
        · have h := hf hc
          refine go_lload_n (show decode cX9_world 24 = .ok (.lload_n 3, 1) by decide +kernel) (by rfl) ?_
          refine go_lconst (n := 1) (show decode cX9_world 25 = .ok (.lconst 1, 1) by decide +kernel) ?_
          show Go d MX9_world 26 [some (vR 1), some (vI a1), some (vI a2), some (vJ a3), none] [vJ 1, vJ a3] S F G Q
          obtain ⟨ht, hf⟩ := h
          refine go_jlt (tgt := 38) (show decode cX9_world 26 = .ok (.lcmp, 1) by decide +kernel) (show decode cX9_world 27 = .ok (.ifCond .lt 11, 3) by decide +kernel) (by decide) (fun hc => ?_) (fun hc => ?_)
          · have h := ht hc
            refine go_ldc2 (show decode cX9_world 38 = .ok (.ldc2_w 53, 3) by decide +kernel) lc_X9_53 (by decide) ?_
            exact go_lret (show decode cX9_world 41 = .ok (.lreturn, 1) by decide +kernel) rfl h
          · have h := hf hc
            refine go_lload_n (show decode cX9_world 30 = .ok (.lload_n 3, 1) by decide +kernel) (by rfl) ?_
            refine go_ldc2 (show decode cX9_world 31 = .ok (.ldc2_w 45, 3) by decide +kernel) lc_X9_45 (by decide) ?_
            obtain ⟨ht, hf⟩ := h
            refine go_jle (tgt := 42) (show decode cX9_world 34 = .ok (.lcmp, 1) by decide +kernel) (show decode cX9_world 35 = .ok (.ifCond .le 7, 3) by decide +kernel) (by decide) (fun hc => ?_) (fun hc => ?_)
            · have h := ht hc
              refine go_aload_n (show decode cX9_world 42 = .ok (.aload_n 0, 1) by decide +kernel) (by rfl) ?_
              refine go_getRc (show decode cX9_world 43 = .ok (.getfield 20, 3) by decide +kernel) fl_X9_20 rfl (shc_k hsh 1 (by decide) (by decide)) (v := 2) (shc_r hsh 1 1 (by decide) (by decide) (by decide)) ?_
              refine go_iload_n (show decode cX9_world 46 = .ok (.iload_n 1, 1) by decide +kernel) (by rfl) ?_
              refine go_iload_n (show decode cX9_world 47 = .ok (.iload_n 2, 1) by decide +kernel) (by rfl) ?_
              refine go_lload_n (show decode cX9_world 48 = .ok (.lload_n 3, 1) by decide +kernel) (by rfl) ?_
              obtain ⟨q1, h⟩ := h
              refine go_callV (d2 := d - 1) (M2 := MX2_clear) (n := 3) (ci := 2) (av := [vI a1, vI a2, vJ a3]) (st := []) (show decode cX9_world 49 = .ok (.invokevirtual 47, 3) by decide +kernel) ml_X9_47 mt_X2_clear min_X2_clear mse_X2_clear (by decide) (shc_k hsh 2 (by decide) (by decide)) rfl (Nat.le_of_ble_eq_true rfl) (by omega) (ok_mono h (fun w2 S3 F4 G5 h => ?_))
              obtain ⟨e8, h⟩ := h
              replace e8 := e8.symm; subst e8
              obtain ⟨e9, h⟩ := h
              subst e9
              show Go d MX9_world 52 [some (vR 1), some (vI a1), some (vI a2), some (vJ a3), none] [] S F4 G5 Q
              refine go_aload_n (show decode cX9_world 52 = .ok (.aload_n 0, 1) by decide +kernel) (by rfl) ?_
              refine go_getRc (show decode cX9_world 53 = .ok (.getfield 24, 3) by decide +kernel) fl_X9_24 rfl (shc_k hsh 1 (by decide) (by decide)) (v := 44) (shc_r hsh 1 2 (by decide) (by decide) (by decide)) ?_
              refine go_callV (d2 := d - 1) (M2 := MX6_clear) (n := 0) (ci := 6) (av := []) (st := []) (show decode cX9_world 56 = .ok (.invokevirtual 55, 3) by decide +kernel) ml_X9_55 mt_X6_clear min_X6_clear mse_X6_clear (by decide) (shc_k hsh 44 (by decide) (by decide)) rfl (Nat.le_of_ble_eq_true rfl) (by omega) (ok_mono h (fun w6 S7 F8 G9 h => ?_))
              obtain ⟨e8, h⟩ := h
              replace e8 := e8.symm; subst e8
              obtain ⟨e9, h⟩ := h
              subst e9
              show Go d MX9_world 59 [some (vR 1), some (vI a1), some (vI a2), some (vJ a3), none] [] S F8 G9 Q
              refine go_aload_n (show decode cX9_world 59 = .ok (.aload_n 0, 1) by decide +kernel) (by rfl) ?_
              refine go_getRc (show decode cX9_world 60 = .ok (.getfield 20, 3) by decide +kernel) fl_X9_20 rfl (shc_k hsh 1 (by decide) (by decide)) (v := 2) (shc_r hsh 1 1 (by decide) (by decide) (by decide)) ?_
              refine go_getRc (show decode cX9_world 63 = .ok (.getfield 57, 3) by decide +kernel) fl_X9_57 rfl (shc_k hsh 2 (by decide) (by decide)) (v := 17) (shc_r hsh 2 2 (by decide) (by decide) (by decide)) ?_
              obtain ⟨z14, p15, h⟩ := h
              refine go_callV (d2 := d - 1) (M2 := MX3_cells) (n := 0) (ci := 3) (av := []) (st := []) (show decode cX9_world 66 = .ok (.invokevirtual 60, 3) by decide +kernel) ml_X9_60 mt_X3_cells min_X3_cells mse_X3_cells (by decide) (shc_k hsh 17 (by decide) (by decide)) rfl (Nat.le_of_ble_eq_true rfl) (by omega) (ok_mono p15 (fun w10 S11 F12 G13 e9 => ?_))
              obtain ⟨e1, e2, e3, e4⟩ := e9
              subst e1
              replace e2 := e2.symm; subst e2
              replace e3 := e3.symm; subst e3
              replace e4 := e4.symm; subst e4
              show Go d MX9_world 69 [some (vR 1), some (vI a1), some (vI a2), some (vJ a3), none] [vJ z14] S F8 G9 Q
              exact go_lret (show decode cX9_world 69 = .ok (.lreturn, 1) by decide +kernel) rfl h
            · have h := hf hc
              refine go_ldc2 (show decode cX9_world 38 = .ok (.ldc2_w 53, 3) by decide +kernel) lc_X9_53 (by decide) ?_
              exact go_lret (show decode cX9_world 41 = .ok (.lreturn, 1) by decide +kernel) rfl h
def V_X9_add_0 (d : Nat) (S : AS) (F : AF) (G : AG) (Q : AQ) (a1 : Int) (a2 : Int) (a3 : Int) (a4 : Int) (a5 : Int) (a6 : Int) : Prop :=
  (1 ≤ d) ∧
  ∃ z6 : Int, Pu (d - 1) MX9_isGood [vI a1] S F G (some (vI z6)) ∧
  ((z6 = 0) →
    Q (some (vJ (-2))) S F G) ∧
  ((¬ z6 = 0) →
    Ok (d - 1) MX9_ask [vR 1, vI a2, vI a3, vI a4, vI a5] S F G (fun w8 S9 F10 G11 =>
    S9 = S ∧
    ∃ z12 : Int, w8 = some (vI z12) ∧
    ((¬ z12 = 0) →
      ((a6 = 0) →
        Q (some (vJ (-3))) S F10 G11) ∧
      ((¬ a6 = 0) →
        ((a6 < -1000000000) →
          Q (some (vJ (-3))) S F10 G11) ∧
        ((¬ a6 < -1000000000) →
          ((a6 ≤ 1000000000) →
            ∃ z17 : Int, Pu (d - 1) MX2_addRefusal [vR 2, vI a1, vR 51, vI a6] S F10 G11 (some (vI z17)) ∧
            ((z17 = 0) →
              Ok (d - 1) MX2_plan [vR 2, vR 51] S F10 G11 (fun w19 S20 F21 G22 =>
              S20 = S ∧
              w19 = none ∧
              ∃ z27 : Int, Pu (d - 1) MX2_plansTooMany [vR 2] S F21 G22 (some (vI z27)) ∧
              ((z27 = 0) →
                Ok (d - 1) MX2_startTrial [vR 2, vI a1] S F21 G22 (fun w29 S30 F31 G32 =>
                S30 = S ∧
                w29 = none ∧
                Ok (d - 1) MX2_raise [vR 2, vR 51, vJ a6] S F31 G32 (fun w33 S34 F35 G36 =>
                S34 = S ∧
                w33 = none ∧
                Ok (d - 1) MX9_keep [vR 1, vI 0, vI a1, vJ a6] S F35 G36 (fun w37 S38 F39 G40 =>
                S38 = S ∧
                w37 = none ∧
                ∃ z45 : Int, Pu (d - 1) MX2_sumOf [vR 2, vI a1, vR 17] S F39 G40 (some (vJ z45)) ∧
                Q (some (vJ z45)) S F39 G40)))) ∧
              ((¬ z27 = 0) →
                Q (some (vJ (-4))) S F21 G22))) ∧
            ((¬ z17 = 0) →
              Q (some (vJ z17)) S F10 G11)) ∧
          ((¬ a6 ≤ 1000000000) →
            Q (some (vJ (-3))) S F10 G11)))) ∧
    ((z12 = 0) →
      Q (some (vJ (-2))) S F10 G11)))
theorem R_X9_add_0 {d : Nat} {S : AS} {F : AF} {G : AG} {Q : AQ} {a1 : Int} {a2 : Int} {a3 : Int} {a4 : Int} {a5 : Int} {a6 : Int} (hsh : ShC S) (h : V_X9_add_0 d S F G Q a1 a2 a3 a4 a5 a6) : Go d MX9_add 0 [some (vR 1), some (vI a1), some (vI a2), some (vI a3), some (vI a4), some (vI a5), some (vI a6), none] [] S F G Q := by
  unfold V_X9_add_0 at h
  refine go_iload_n (show decode cX9_add 0 = .ok (.iload_n 1, 1) by decide +kernel) (by rfl) ?_
  obtain ⟨q1, h⟩ := h
  obtain ⟨z6, p7, h⟩ := h
  refine go_callS (d2 := d - 1) (M2 := MX9_isGood) (n := 1) (av := [vI a1]) (st := []) (show decode cX9_add 1 = .ok (.invokestatic 64, 3) by decide +kernel) ml_X9_64 mt_X9_isGood mst_X9_isGood rfl (Nat.le_of_ble_eq_true rfl) (by omega) (ok_mono p7 (fun w2 S3 F4 G5 e9 => ?_))
  obtain ⟨e1, e2, e3, e4⟩ := e9
  subst e1
  replace e2 := e2.symm; subst e2
  replace e3 := e3.symm; subst e3
  replace e4 := e4.symm; subst e4
  show Go d MX9_add 4 [some (vR 1), some (vI a1), some (vI a2), some (vI a3), some (vI a4), some (vI a5), some (vI a6), none] [vI z6] S F G Q
  obtain ⟨ht, hf⟩ := h
  refine go_ifeq (tgt := 20) (show decode cX9_add 4 = .ok (.ifCond .eq 16, 3) by decide +kernel) (by decide) (fun hc => ?_) (fun hc => ?_)
  · have h := ht hc
    refine go_ldc2 (show decode cX9_add 20 = .ok (.ldc2_w 72, 3) by decide +kernel) lc_X9_72 (by decide) ?_
    exact go_lret (show decode cX9_add 23 = .ok (.lreturn, 1) by decide +kernel) rfl h
  · have h := hf hc
    refine go_aload_n (show decode cX9_add 7 = .ok (.aload_n 0, 1) by decide +kernel) (by rfl) ?_
    refine go_iload_n (show decode cX9_add 8 = .ok (.iload_n 2, 1) by decide +kernel) (by rfl) ?_
    refine go_iload_n (show decode cX9_add 9 = .ok (.iload_n 3, 1) by decide +kernel) (by rfl) ?_
    refine go_iload (show decode cX9_add 10 = .ok (.iload 4, 2) by decide +kernel) (by rfl) ?_
    refine go_iload (show decode cX9_add 12 = .ok (.iload 5, 2) by decide +kernel) (by rfl) ?_
    refine go_callV (d2 := d - 1) (M2 := MX9_ask) (n := 4) (ci := 9) (av := [vI a2, vI a3, vI a4, vI a5]) (st := []) (show decode cX9_add 14 = .ok (.invokevirtual 68, 3) by decide +kernel) ml_X9_68 mt_X9_ask min_X9_ask mse_X9_ask (by decide) (shc_k hsh 1 (by decide) (by decide)) rfl (Nat.le_of_ble_eq_true rfl) (by omega) (ok_mono h (fun w8 S9 F10 G11 h => ?_))
    obtain ⟨e8, h⟩ := h
    replace e8 := e8.symm; subst e8
    obtain ⟨z12, e9, h⟩ := h
    subst e9
    show Go d MX9_add 17 [some (vR 1), some (vI a1), some (vI a2), some (vI a3), some (vI a4), some (vI a5), some (vI a6), none] [vI z12] S F10 G11 Q
    obtain ⟨ht, hf⟩ := h
    refine go_ifne (tgt := 24) (show decode cX9_add 17 = .ok (.ifCond .ne 7, 3) by decide +kernel) (by decide) (fun hc => ?_) (fun hc => ?_)
    · have h := ht hc
      refine go_iload (show decode cX9_add 24 = .ok (.iload 6, 2) by decide +kernel) (by rfl) ?_
      obtain ⟨ht, hf⟩ := h
      refine go_ifeq (tgt := 43) (show decode cX9_add 26 = .ok (.ifCond .eq 17, 3) by decide +kernel) (by decide) (fun hc => ?_) (fun hc => ?_)
      · have h := ht hc
        refine go_ldc2 (show decode cX9_add 43 = .ok (.ldc2_w 53, 3) by decide +kernel) lc_X9_53 (by decide) ?_
        exact go_lret (show decode cX9_add 46 = .ok (.lreturn, 1) by decide +kernel) rfl h
      · have h := hf hc
        refine go_iload (show decode cX9_add 29 = .ok (.iload 6, 2) by decide +kernel) (by rfl) ?_
        refine go_ldc (show decode cX9_add 31 = .ok (.ldc 74, 2) by decide +kernel) ic_X9_74 (by decide) ?_
        obtain ⟨ht, hf⟩ := h
        refine go_icmplt (tgt := 43) (show decode cX9_add 33 = .ok (.if_icmp .lt 10, 3) by decide +kernel) (by decide) (fun hc => ?_) (fun hc => ?_)
        · have h := ht hc
          refine go_ldc2 (show decode cX9_add 43 = .ok (.ldc2_w 53, 3) by decide +kernel) lc_X9_53 (by decide) ?_
          exact go_lret (show decode cX9_add 46 = .ok (.lreturn, 1) by decide +kernel) rfl h
        · have h := hf hc
          refine go_iload (show decode cX9_add 36 = .ok (.iload 6, 2) by decide +kernel) (by rfl) ?_
          refine go_ldc (show decode cX9_add 38 = .ok (.ldc 75, 2) by decide +kernel) ic_X9_75 (by decide) ?_
          obtain ⟨ht, hf⟩ := h
          refine go_icmple (tgt := 47) (show decode cX9_add 40 = .ok (.if_icmp .le 7, 3) by decide +kernel) (by decide) (fun hc => ?_) (fun hc => ?_)
          · have h := ht hc
            refine go_aload_n (show decode cX9_add 47 = .ok (.aload_n 0, 1) by decide +kernel) (by rfl) ?_
            refine go_getRc (show decode cX9_add 48 = .ok (.getfield 20, 3) by decide +kernel) fl_X9_20 rfl (shc_k hsh 1 (by decide) (by decide)) (v := 2) (shc_r hsh 1 1 (by decide) (by decide) (by decide)) ?_
            refine go_iload_n (show decode cX9_add 51 = .ok (.iload_n 1, 1) by decide +kernel) (by rfl) ?_
            refine go_aload_n (show decode cX9_add 52 = .ok (.aload_n 0, 1) by decide +kernel) (by rfl) ?_
            refine go_getRc (show decode cX9_add 53 = .ok (.getfield 38, 3) by decide +kernel) fl_X9_38 rfl (shc_k hsh 1 (by decide) (by decide)) (v := 51) (shc_r hsh 1 4 (by decide) (by decide) (by decide)) ?_
            refine go_iload (show decode cX9_add 56 = .ok (.iload 6, 2) by decide +kernel) (by rfl) ?_
            obtain ⟨z17, p18, h⟩ := h
            refine go_callV (d2 := d - 1) (M2 := MX2_addRefusal) (n := 3) (ci := 2) (av := [vI a1, vR 51, vI a6]) (st := []) (show decode cX9_add 58 = .ok (.invokevirtual 76, 3) by decide +kernel) ml_X9_76 mt_X2_addRefusal min_X2_addRefusal mse_X2_addRefusal (by decide) (shc_k hsh 2 (by decide) (by decide)) rfl (Nat.le_of_ble_eq_true rfl) (by omega) (ok_mono p18 (fun w13 S14 F15 G16 e9 => ?_))
            obtain ⟨e1, e2, e3, e4⟩ := e9
            subst e1
            replace e2 := e2.symm; subst e2
            replace e3 := e3.symm; subst e3
            replace e4 := e4.symm; subst e4
            show Go d MX9_add 61 [some (vR 1), some (vI a1), some (vI a2), some (vI a3), some (vI a4), some (vI a5), some (vI a6), none] [vI z17] S F10 G11 Q
            refine go_istore (show decode cX9_add 61 = .ok (.istore 7, 2) by decide +kernel) (by decide) ?_
            show Go d MX9_add 63 [some (vR 1), some (vI a1), some (vI a2), some (vI a3), some (vI a4), some (vI a5), some (vI a6), some (vI z17)] [] S F10 G11 Q
            refine go_iload (show decode cX9_add 63 = .ok (.iload 7, 2) by decide +kernel) (by rfl) ?_
            obtain ⟨ht, hf⟩ := h
            refine go_ifeq (tgt := 72) (show decode cX9_add 65 = .ok (.ifCond .eq 7, 3) by decide +kernel) (by decide) (fun hc => ?_) (fun hc => ?_)
            · have h := ht hc
              refine go_aload_n (show decode cX9_add 72 = .ok (.aload_n 0, 1) by decide +kernel) (by rfl) ?_
              refine go_getRc (show decode cX9_add 73 = .ok (.getfield 20, 3) by decide +kernel) fl_X9_20 rfl (shc_k hsh 1 (by decide) (by decide)) (v := 2) (shc_r hsh 1 1 (by decide) (by decide) (by decide)) ?_
              refine go_aload_n (show decode cX9_add 76 = .ok (.aload_n 0, 1) by decide +kernel) (by rfl) ?_
              refine go_getRc (show decode cX9_add 77 = .ok (.getfield 38, 3) by decide +kernel) fl_X9_38 rfl (shc_k hsh 1 (by decide) (by decide)) (v := 51) (shc_r hsh 1 4 (by decide) (by decide) (by decide)) ?_
              refine go_callV (d2 := d - 1) (M2 := MX2_plan) (n := 1) (ci := 2) (av := [vR 51]) (st := []) (show decode cX9_add 80 = .ok (.invokevirtual 80, 3) by decide +kernel) ml_X9_80 mt_X2_plan min_X2_plan mse_X2_plan (by decide) (shc_k hsh 2 (by decide) (by decide)) rfl (Nat.le_of_ble_eq_true rfl) (by omega) (ok_mono h (fun w19 S20 F21 G22 h => ?_))
              obtain ⟨e8, h⟩ := h
              replace e8 := e8.symm; subst e8
              obtain ⟨e9, h⟩ := h
              subst e9
              show Go d MX9_add 83 [some (vR 1), some (vI a1), some (vI a2), some (vI a3), some (vI a4), some (vI a5), some (vI a6), some (vI z17)] [] S F21 G22 Q
              refine go_aload_n (show decode cX9_add 83 = .ok (.aload_n 0, 1) by decide +kernel) (by rfl) ?_
              refine go_getRc (show decode cX9_add 84 = .ok (.getfield 20, 3) by decide +kernel) fl_X9_20 rfl (shc_k hsh 1 (by decide) (by decide)) (v := 2) (shc_r hsh 1 1 (by decide) (by decide) (by decide)) ?_
              obtain ⟨z27, p28, h⟩ := h
              refine go_callV (d2 := d - 1) (M2 := MX2_plansTooMany) (n := 0) (ci := 2) (av := []) (st := []) (show decode cX9_add 87 = .ok (.invokevirtual 84, 3) by decide +kernel) ml_X9_84 mt_X2_plansTooMany min_X2_plansTooMany mse_X2_plansTooMany (by decide) (shc_k hsh 2 (by decide) (by decide)) rfl (Nat.le_of_ble_eq_true rfl) (by omega) (ok_mono p28 (fun w23 S24 F25 G26 e9 => ?_))
              obtain ⟨e1, e2, e3, e4⟩ := e9
              subst e1
              replace e2 := e2.symm; subst e2
              replace e3 := e3.symm; subst e3
              replace e4 := e4.symm; subst e4
              show Go d MX9_add 90 [some (vR 1), some (vI a1), some (vI a2), some (vI a3), some (vI a4), some (vI a5), some (vI a6), some (vI z17)] [vI z27] S F21 G22 Q
              obtain ⟨ht, hf⟩ := h
              refine go_ifeq (tgt := 97) (show decode cX9_add 90 = .ok (.ifCond .eq 7, 3) by decide +kernel) (by decide) (fun hc => ?_) (fun hc => ?_)
              · have h := ht hc
                refine go_aload_n (show decode cX9_add 97 = .ok (.aload_n 0, 1) by decide +kernel) (by rfl) ?_
                refine go_getRc (show decode cX9_add 98 = .ok (.getfield 20, 3) by decide +kernel) fl_X9_20 rfl (shc_k hsh 1 (by decide) (by decide)) (v := 2) (shc_r hsh 1 1 (by decide) (by decide) (by decide)) ?_
                refine go_iload_n (show decode cX9_add 101 = .ok (.iload_n 1, 1) by decide +kernel) (by rfl) ?_
                refine go_callV (d2 := d - 1) (M2 := MX2_startTrial) (n := 1) (ci := 2) (av := [vI a1]) (st := []) (show decode cX9_add 102 = .ok (.invokevirtual 90, 3) by decide +kernel) ml_X9_90 mt_X2_startTrial min_X2_startTrial mse_X2_startTrial (by decide) (shc_k hsh 2 (by decide) (by decide)) rfl (Nat.le_of_ble_eq_true rfl) (by omega) (ok_mono h (fun w29 S30 F31 G32 h => ?_))
                obtain ⟨e8, h⟩ := h
                replace e8 := e8.symm; subst e8
                obtain ⟨e9, h⟩ := h
                subst e9
                show Go d MX9_add 105 [some (vR 1), some (vI a1), some (vI a2), some (vI a3), some (vI a4), some (vI a5), some (vI a6), some (vI z17)] [] S F31 G32 Q
                refine go_aload_n (show decode cX9_add 105 = .ok (.aload_n 0, 1) by decide +kernel) (by rfl) ?_
                refine go_getRc (show decode cX9_add 106 = .ok (.getfield 20, 3) by decide +kernel) fl_X9_20 rfl (shc_k hsh 1 (by decide) (by decide)) (v := 2) (shc_r hsh 1 1 (by decide) (by decide) (by decide)) ?_
                refine go_aload_n (show decode cX9_add 109 = .ok (.aload_n 0, 1) by decide +kernel) (by rfl) ?_
                refine go_getRc (show decode cX9_add 110 = .ok (.getfield 38, 3) by decide +kernel) fl_X9_38 rfl (shc_k hsh 1 (by decide) (by decide)) (v := 51) (shc_r hsh 1 4 (by decide) (by decide) (by decide)) ?_
                refine go_iload (show decode cX9_add 113 = .ok (.iload 6, 2) by decide +kernel) (by rfl) ?_
                refine go_i2l (show decode cX9_add 115 = .ok (.i2l, 1) by decide +kernel) ?_
                refine go_callV (d2 := d - 1) (M2 := MX2_raise) (n := 2) (ci := 2) (av := [vR 51, vJ a6]) (st := []) (show decode cX9_add 116 = .ok (.invokevirtual 94, 3) by decide +kernel) ml_X9_94 mt_X2_raise min_X2_raise mse_X2_raise (by decide) (shc_k hsh 2 (by decide) (by decide)) rfl (Nat.le_of_ble_eq_true rfl) (by omega) (ok_mono h (fun w33 S34 F35 G36 h => ?_))
                obtain ⟨e8, h⟩ := h
                replace e8 := e8.symm; subst e8
                obtain ⟨e9, h⟩ := h
                subst e9
                show Go d MX9_add 119 [some (vR 1), some (vI a1), some (vI a2), some (vI a3), some (vI a4), some (vI a5), some (vI a6), some (vI z17)] [] S F35 G36 Q
                refine go_aload_n (show decode cX9_add 119 = .ok (.aload_n 0, 1) by decide +kernel) (by rfl) ?_
                refine go_iconst (show decode cX9_add 120 = .ok (.iconst 0, 1) by decide +kernel) (by decide) ?_
                refine go_iload_n (show decode cX9_add 121 = .ok (.iload_n 1, 1) by decide +kernel) (by rfl) ?_
                refine go_iload (show decode cX9_add 122 = .ok (.iload 6, 2) by decide +kernel) (by rfl) ?_
                refine go_i2l (show decode cX9_add 124 = .ok (.i2l, 1) by decide +kernel) ?_
                refine go_callV (d2 := d - 1) (M2 := MX9_keep) (n := 3) (ci := 9) (av := [vI 0, vI a1, vJ a6]) (st := []) (show decode cX9_add 125 = .ok (.invokevirtual 98, 3) by decide +kernel) ml_X9_98 mt_X9_keep min_X9_keep mse_X9_keep (by decide) (shc_k hsh 1 (by decide) (by decide)) rfl (Nat.le_of_ble_eq_true rfl) (by omega) (ok_mono h (fun w37 S38 F39 G40 h => ?_))
                obtain ⟨e8, h⟩ := h
                replace e8 := e8.symm; subst e8
                obtain ⟨e9, h⟩ := h
                subst e9
                show Go d MX9_add 128 [some (vR 1), some (vI a1), some (vI a2), some (vI a3), some (vI a4), some (vI a5), some (vI a6), some (vI z17)] [] S F39 G40 Q
                refine go_aload_n (show decode cX9_add 128 = .ok (.aload_n 0, 1) by decide +kernel) (by rfl) ?_
                refine go_getRc (show decode cX9_add 129 = .ok (.getfield 20, 3) by decide +kernel) fl_X9_20 rfl (shc_k hsh 1 (by decide) (by decide)) (v := 2) (shc_r hsh 1 1 (by decide) (by decide) (by decide)) ?_
                refine go_iload_n (show decode cX9_add 132 = .ok (.iload_n 1, 1) by decide +kernel) (by rfl) ?_
                refine go_aload_n (show decode cX9_add 133 = .ok (.aload_n 0, 1) by decide +kernel) (by rfl) ?_
                refine go_getRc (show decode cX9_add 134 = .ok (.getfield 20, 3) by decide +kernel) fl_X9_20 rfl (shc_k hsh 1 (by decide) (by decide)) (v := 2) (shc_r hsh 1 1 (by decide) (by decide) (by decide)) ?_
                refine go_getRc (show decode cX9_add 137 = .ok (.getfield 57, 3) by decide +kernel) fl_X9_57 rfl (shc_k hsh 2 (by decide) (by decide)) (v := 17) (shc_r hsh 2 2 (by decide) (by decide) (by decide)) ?_
                obtain ⟨z45, p46, h⟩ := h
                refine go_callV (d2 := d - 1) (M2 := MX2_sumOf) (n := 2) (ci := 2) (av := [vI a1, vR 17]) (st := []) (show decode cX9_add 140 = .ok (.invokevirtual 101, 3) by decide +kernel) ml_X9_101 mt_X2_sumOf min_X2_sumOf mse_X2_sumOf (by decide) (shc_k hsh 2 (by decide) (by decide)) rfl (Nat.le_of_ble_eq_true rfl) (by omega) (ok_mono p46 (fun w41 S42 F43 G44 e9 => ?_))
                obtain ⟨e1, e2, e3, e4⟩ := e9
                subst e1
                replace e2 := e2.symm; subst e2
                replace e3 := e3.symm; subst e3
                replace e4 := e4.symm; subst e4
                show Go d MX9_add 143 [some (vR 1), some (vI a1), some (vI a2), some (vI a3), some (vI a4), some (vI a5), some (vI a6), some (vI z17)] [vJ z45] S F39 G40 Q
                exact go_lret (show decode cX9_add 143 = .ok (.lreturn, 1) by decide +kernel) rfl h
              · have h := hf hc
                refine go_ldc2 (show decode cX9_add 93 = .ok (.ldc2_w 88, 3) by decide +kernel) lc_X9_88 (by decide) ?_
                exact go_lret (show decode cX9_add 96 = .ok (.lreturn, 1) by decide +kernel) rfl h
            · have h := hf hc
              refine go_iload (show decode cX9_add 68 = .ok (.iload 7, 2) by decide +kernel) (by rfl) ?_
              refine go_i2l (show decode cX9_add 70 = .ok (.i2l, 1) by decide +kernel) ?_
              exact go_lret (show decode cX9_add 71 = .ok (.lreturn, 1) by decide +kernel) rfl h
          · have h := hf hc
            refine go_ldc2 (show decode cX9_add 43 = .ok (.ldc2_w 53, 3) by decide +kernel) lc_X9_53 (by decide) ?_
            exact go_lret (show decode cX9_add 46 = .ok (.lreturn, 1) by decide +kernel) rfl h
    · have h := hf hc
      refine go_ldc2 (show decode cX9_add 20 = .ok (.ldc2_w 72, 3) by decide +kernel) lc_X9_72 (by decide) ?_
      exact go_lret (show decode cX9_add 23 = .ok (.lreturn, 1) by decide +kernel) rfl h
def V_X9_isGood_0 (d : Nat) (S : AS) (F : AF) (G : AG) (Q : AQ) (a0 : Int) : Prop :=
  ((a0 < 0) →
    Q (some (vI 0)) S F G) ∧
  ((¬ a0 < 0) →
    ((3 ≤ a0) →
      Q (some (vI 0)) S F G) ∧
    ((¬ 3 ≤ a0) →
      Q (some (vI 1)) S F G))
theorem R_X9_isGood_0 {d : Nat} {S : AS} {F : AF} {G : AG} {Q : AQ} {a0 : Int} (hsh : ShC S) (h : V_X9_isGood_0 d S F G Q a0) : Go d MX9_isGood 0 [some (vI a0)] [] S F G Q := by
  unfold V_X9_isGood_0 at h
  refine go_iload_n (show decode cX9_isGood 0 = .ok (.iload_n 0, 1) by decide +kernel) (by rfl) ?_
  obtain ⟨ht, hf⟩ := h
  refine go_iflt (tgt := 13) (show decode cX9_isGood 1 = .ok (.ifCond .lt 12, 3) by decide +kernel) (by decide) (fun hc => ?_) (fun hc => ?_)
  · have h := ht hc
    refine go_iconst (show decode cX9_isGood 13 = .ok (.iconst 0, 1) by decide +kernel) (by decide) ?_
    exact go_zret (show decode cX9_isGood 14 = .ok (.ireturn, 1) by decide +kernel) rfl (by decide) h
  · have h := hf hc
    refine go_iload_n (show decode cX9_isGood 4 = .ok (.iload_n 0, 1) by decide +kernel) (by rfl) ?_
    refine go_iconst (show decode cX9_isGood 5 = .ok (.iconst 3, 1) by decide +kernel) (by decide) ?_
    obtain ⟨ht, hf⟩ := h
    refine go_icmpge (tgt := 13) (show decode cX9_isGood 6 = .ok (.if_icmp .ge 7, 3) by decide +kernel) (by decide) (fun hc => ?_) (fun hc => ?_)
    · have h := ht hc
      refine go_iconst (show decode cX9_isGood 13 = .ok (.iconst 0, 1) by decide +kernel) (by decide) ?_
      exact go_zret (show decode cX9_isGood 14 = .ok (.ireturn, 1) by decide +kernel) rfl (by decide) h
    · have h := hf hc
      refine go_iconst (show decode cX9_isGood 9 = .ok (.iconst 1, 1) by decide +kernel) (by decide) ?_
      refine go_goto (tgt := 14) (show decode cX9_isGood 10 = .ok (.goto 4, 3) by decide +kernel) (by decide) ?_
      exact go_zret (show decode cX9_isGood 14 = .ok (.ireturn, 1) by decide +kernel) rfl (by decide) h
def V_X9_ask_0 (d : Nat) (S : AS) (F : AF) (G : AG) (Q : AQ) (a1 : Int) (a2 : Int) (a3 : Int) (a4 : Int) : Prop :=
  (1 ≤ d) ∧
  Ok (d - 1) MX3_set [vR 51, vI a1, vI a2, vI a3, vI a4] S F G (fun w2 S3 F4 G5 =>
  S3 = S ∧
  w2 = none ∧
  ∃ z10 : Int, Pu (d - 1) MX2_holds [vR 2, vR 51] S F4 G5 (some (vI z10)) ∧
  (z10 = 0 ∨ z10 = 1) ∧
  Q (some (vI z10)) S F4 G5)
theorem R_X9_ask_0 {d : Nat} {S : AS} {F : AF} {G : AG} {Q : AQ} {a1 : Int} {a2 : Int} {a3 : Int} {a4 : Int} (hsh : ShC S) (h : V_X9_ask_0 d S F G Q a1 a2 a3 a4) : Go d MX9_ask 0 [some (vR 1), some (vI a1), some (vI a2), some (vI a3), some (vI a4)] [] S F G Q := by
  unfold V_X9_ask_0 at h
  refine go_aload_n (show decode cX9_ask 0 = .ok (.aload_n 0, 1) by decide +kernel) (by rfl) ?_
  refine go_getRc (show decode cX9_ask 1 = .ok (.getfield 38, 3) by decide +kernel) fl_X9_38 rfl (shc_k hsh 1 (by decide) (by decide)) (v := 51) (shc_r hsh 1 4 (by decide) (by decide) (by decide)) ?_
  refine go_iload_n (show decode cX9_ask 4 = .ok (.iload_n 1, 1) by decide +kernel) (by rfl) ?_
  refine go_iload_n (show decode cX9_ask 5 = .ok (.iload_n 2, 1) by decide +kernel) (by rfl) ?_
  refine go_iload_n (show decode cX9_ask 6 = .ok (.iload_n 3, 1) by decide +kernel) (by rfl) ?_
  refine go_iload (show decode cX9_ask 7 = .ok (.iload 4, 2) by decide +kernel) (by rfl) ?_
  obtain ⟨q1, h⟩ := h
  refine go_callV (d2 := d - 1) (M2 := MX3_set) (n := 4) (ci := 3) (av := [vI a1, vI a2, vI a3, vI a4]) (st := []) (show decode cX9_ask 9 = .ok (.invokevirtual 148, 3) by decide +kernel) ml_X9_148 mt_X3_set min_X3_set mse_X3_set (by decide) (shc_k hsh 51 (by decide) (by decide)) rfl (Nat.le_of_ble_eq_true rfl) (by omega) (ok_mono h (fun w2 S3 F4 G5 h => ?_))
  obtain ⟨e8, h⟩ := h
  replace e8 := e8.symm; subst e8
  obtain ⟨e9, h⟩ := h
  subst e9
  show Go d MX9_ask 12 [some (vR 1), some (vI a1), some (vI a2), some (vI a3), some (vI a4)] [] S F4 G5 Q
  refine go_aload_n (show decode cX9_ask 12 = .ok (.aload_n 0, 1) by decide +kernel) (by rfl) ?_
  refine go_getRc (show decode cX9_ask 13 = .ok (.getfield 20, 3) by decide +kernel) fl_X9_20 rfl (shc_k hsh 1 (by decide) (by decide)) (v := 2) (shc_r hsh 1 1 (by decide) (by decide) (by decide)) ?_
  refine go_aload_n (show decode cX9_ask 16 = .ok (.aload_n 0, 1) by decide +kernel) (by rfl) ?_
  refine go_getRc (show decode cX9_ask 17 = .ok (.getfield 38, 3) by decide +kernel) fl_X9_38 rfl (shc_k hsh 1 (by decide) (by decide)) (v := 51) (shc_r hsh 1 4 (by decide) (by decide) (by decide)) ?_
  obtain ⟨z10, p11, h⟩ := h
  refine go_callV (d2 := d - 1) (M2 := MX2_holds) (n := 1) (ci := 2) (av := [vR 51]) (st := []) (show decode cX9_ask 20 = .ok (.invokevirtual 152, 3) by decide +kernel) ml_X9_152 mt_X2_holds min_X2_holds mse_X2_holds (by decide) (shc_k hsh 2 (by decide) (by decide)) rfl (Nat.le_of_ble_eq_true rfl) (by omega) (ok_mono p11 (fun w6 S7 F8 G9 e9 => ?_))
  obtain ⟨e1, e2, e3, e4⟩ := e9
  subst e1
  replace e2 := e2.symm; subst e2
  replace e3 := e3.symm; subst e3
  replace e4 := e4.symm; subst e4
  show Go d MX9_ask 23 [some (vR 1), some (vI a1), some (vI a2), some (vI a3), some (vI a4)] [vI z10] S F4 G5 Q
  obtain ⟨q12, h⟩ := h
  exact go_zret (show decode cX9_ask 23 = .ok (.ireturn, 1) by decide +kernel) rfl q12 h
def V_X9_keep_0 (d : Nat) (S : AS) (F : AF) (G : AG) (Q : AQ) (a1 : Int) (a2 : Int) (a3 : Int) : Prop :=
  (1 ≤ d) ∧
  Ok (d - 1) MX2_adopt [vR 2, vI a2] S F G (fun w2 S3 F4 G5 =>
  S3 = S ∧
  w2 = none ∧
  Ok (d - 1) MX6_put [vR 44, vI a1, vI a2, vR 51, vJ a3] S F4 G5 (fun w6 S7 F8 G9 =>
  S7 = S ∧
  w6 = none ∧
  Q none S F8 G9))
theorem R_X9_keep_0 {d : Nat} {S : AS} {F : AF} {G : AG} {Q : AQ} {a1 : Int} {a2 : Int} {a3 : Int} (hsh : ShC S) (h : V_X9_keep_0 d S F G Q a1 a2 a3) : Go d MX9_keep 0 [some (vR 1), some (vI a1), some (vI a2), some (vJ a3), none] [] S F G Q := by
  unfold V_X9_keep_0 at h
  refine go_aload_n (show decode cX9_keep 0 = .ok (.aload_n 0, 1) by decide +kernel) (by rfl) ?_
  refine go_getRc (show decode cX9_keep 1 = .ok (.getfield 20, 3) by decide +kernel) fl_X9_20 rfl (shc_k hsh 1 (by decide) (by decide)) (v := 2) (shc_r hsh 1 1 (by decide) (by decide) (by decide)) ?_
  refine go_iload_n (show decode cX9_keep 4 = .ok (.iload_n 2, 1) by decide +kernel) (by rfl) ?_
  obtain ⟨q1, h⟩ := h
  refine go_callV (d2 := d - 1) (M2 := MX2_adopt) (n := 1) (ci := 2) (av := [vI a2]) (st := []) (show decode cX9_keep 5 = .ok (.invokevirtual 357, 3) by decide +kernel) ml_X9_357 mt_X2_adopt min_X2_adopt mse_X2_adopt (by decide) (shc_k hsh 2 (by decide) (by decide)) rfl (Nat.le_of_ble_eq_true rfl) (by omega) (ok_mono h (fun w2 S3 F4 G5 h => ?_))
  obtain ⟨e8, h⟩ := h
  replace e8 := e8.symm; subst e8
  obtain ⟨e9, h⟩ := h
  subst e9
  show Go d MX9_keep 8 [some (vR 1), some (vI a1), some (vI a2), some (vJ a3), none] [] S F4 G5 Q
  refine go_aload_n (show decode cX9_keep 8 = .ok (.aload_n 0, 1) by decide +kernel) (by rfl) ?_
  refine go_getRc (show decode cX9_keep 9 = .ok (.getfield 24, 3) by decide +kernel) fl_X9_24 rfl (shc_k hsh 1 (by decide) (by decide)) (v := 44) (shc_r hsh 1 2 (by decide) (by decide) (by decide)) ?_
  refine go_iload_n (show decode cX9_keep 12 = .ok (.iload_n 1, 1) by decide +kernel) (by rfl) ?_
  refine go_iload_n (show decode cX9_keep 13 = .ok (.iload_n 2, 1) by decide +kernel) (by rfl) ?_
  refine go_aload_n (show decode cX9_keep 14 = .ok (.aload_n 0, 1) by decide +kernel) (by rfl) ?_
  refine go_getRc (show decode cX9_keep 15 = .ok (.getfield 38, 3) by decide +kernel) fl_X9_38 rfl (shc_k hsh 1 (by decide) (by decide)) (v := 51) (shc_r hsh 1 4 (by decide) (by decide) (by decide)) ?_
  refine go_lload_n (show decode cX9_keep 18 = .ok (.lload_n 3, 1) by decide +kernel) (by rfl) ?_
  refine go_callV (d2 := d - 1) (M2 := MX6_put) (n := 4) (ci := 6) (av := [vI a1, vI a2, vR 51, vJ a3]) (st := []) (show decode cX9_keep 19 = .ok (.invokevirtual 360, 3) by decide +kernel) ml_X9_360 mt_X6_put min_X6_put mse_X6_put (by decide) (shc_k hsh 44 (by decide) (by decide)) rfl (Nat.le_of_ble_eq_true rfl) (by omega) (ok_mono h (fun w6 S7 F8 G9 h => ?_))
  obtain ⟨e8, h⟩ := h
  replace e8 := e8.symm; subst e8
  obtain ⟨e9, h⟩ := h
  subst e9
  show Go d MX9_keep 22 [some (vR 1), some (vI a1), some (vI a2), some (vJ a3), none] [] S F8 G9 Q
  exact go_vret (show decode cX9_keep 22 = .ok (.return_, 1) by decide +kernel) rfl h
def V_X9_pick_0 (d : Nat) (S : AS) (F : AF) (G : AG) (Q : AQ) (a1 : Int) (a2 : Int) (a3 : Int) (a4 : Int) (a5 : Int) (a6 : Int) : Prop :=
  (1 ≤ d) ∧
  ∃ z6 : Int, Pu (d - 1) MX9_isGood [vI a1] S F G (some (vI z6)) ∧
  ((z6 = 0) →
    Q (some (vJ (-2))) S F G) ∧
  ((¬ z6 = 0) →
    Ok (d - 1) MX9_ask [vR 1, vI a2, vI a3, vI a4, vI a5] S F G (fun w8 S9 F10 G11 =>
    S9 = S ∧
    ∃ z12 : Int, w8 = some (vI z12) ∧
    ((¬ z12 = 0) →
      ((a6 < 1) →
        Q (some (vJ (-3))) S F10 G11) ∧
      ((¬ a6 < 1) →
        ((a6 ≤ 3000000000000000000) →
          Ok (d - 1) MX7_locate [vR 34, vI a1, vI 0, vR 51, vJ a6] S F10 G11 (fun w13 S14 F15 G16 =>
          S14 = S ∧
          ∃ z17 : Int, w13 = some (vI z17) ∧
          ((¬ z17 = 0) →
            ∀ x18 : Int, x18 = F15 34 4 →
            ∀ x19 : Int, x19 = F15 34 5 →
            Ok (d - 1) MX2_plan [vR 2, vR 51] S F15 G16 (fun w20 S21 F22 G23 =>
            S21 = S ∧
            w20 = none ∧
            Ok (d - 1) MX0_planSpan [vR 3, vI x18, vI x18] S F22 G23 (fun w24 S25 F26 G27 =>
            S25 = S ∧
            w24 = none ∧
            Ok (d - 1) MX0_planSpan [vR 10, vI x19, vI x19] S F26 G27 (fun w28 S29 F30 G31 =>
            S29 = S ∧
            w28 = none ∧
            ∃ z36 : Int, Pu (d - 1) MX2_plansTooMany [vR 2] S F30 G31 (some (vI z36)) ∧
            ((z36 = 0) →
              Ok (d - 1) MX2_startTrial [vR 2, vI a1] S F30 G31 (fun w38 S39 F40 G41 =>
              S39 = S ∧
              w38 = none ∧
              (r32 (x19 - 1)) ∧
              Ok (d - 1) MX2_fill [vR 2, vI a2, vI a3, vI a4, vI (x19 - 1), vJ 0] S F40 G41 (fun w43 S44 F45 G46 =>
              S44 = S ∧
              w43 = none ∧
              (r32 (x18 - 1)) ∧
              Ok (d - 1) MX2_fill [vR 2, vI a2, vI x19, vI (x18 - 1), vI x19, vJ 0] S F45 G46 (fun w48 S49 F50 G51 =>
              S49 = S ∧
              w48 = none ∧
              Ok (d - 1) MX2_fill [vR 2, vI x18, vI x19, vI x18, vI x19, vJ (F50 34 6)] S F50 G51 (fun w52 S53 F54 G55 =>
              S53 = S ∧
              w52 = none ∧
              Ok (d - 1) MX9_keep [vR 1, vI 1, vI a1, vJ a6] S F54 G55 (fun w56 S57 F58 G59 =>
              S57 = S ∧
              w56 = none ∧
              ∃ z64 : Int, Pu (d - 1) MX2_number [vR 2, vI x18, vI x19] S F58 G59 (some (vJ z64)) ∧
              Q (some (vJ z64)) S F58 G59)))))) ∧
            ((¬ z36 = 0) →
              Q (some (vJ (-4))) S F30 G31))))) ∧
          ((z17 = 0) →
            Q (some (vJ (-5))) S F15 G16))) ∧
        ((¬ a6 ≤ 3000000000000000000) →
          Q (some (vJ (-3))) S F10 G11))) ∧
    ((z12 = 0) →
      Q (some (vJ (-2))) S F10 G11)))
theorem R_X9_pick_0 {d : Nat} {S : AS} {F : AF} {G : AG} {Q : AQ} {a1 : Int} {a2 : Int} {a3 : Int} {a4 : Int} {a5 : Int} {a6 : Int} (hsh : ShC S) (h : V_X9_pick_0 d S F G Q a1 a2 a3 a4 a5 a6) : Go d MX9_pick 0 [some (vR 1), some (vI a1), some (vI a2), some (vI a3), some (vI a4), some (vI a5), some (vJ a6), none, none, none] [] S F G Q := by
  unfold V_X9_pick_0 at h
  refine go_iload_n (show decode cX9_pick 0 = .ok (.iload_n 1, 1) by decide +kernel) (by rfl) ?_
  obtain ⟨q1, h⟩ := h
  obtain ⟨z6, p7, h⟩ := h
  refine go_callS (d2 := d - 1) (M2 := MX9_isGood) (n := 1) (av := [vI a1]) (st := []) (show decode cX9_pick 1 = .ok (.invokestatic 64, 3) by decide +kernel) ml_X9_64 mt_X9_isGood mst_X9_isGood rfl (Nat.le_of_ble_eq_true rfl) (by omega) (ok_mono p7 (fun w2 S3 F4 G5 e9 => ?_))
  obtain ⟨e1, e2, e3, e4⟩ := e9
  subst e1
  replace e2 := e2.symm; subst e2
  replace e3 := e3.symm; subst e3
  replace e4 := e4.symm; subst e4
  show Go d MX9_pick 4 [some (vR 1), some (vI a1), some (vI a2), some (vI a3), some (vI a4), some (vI a5), some (vJ a6), none, none, none] [vI z6] S F G Q
  obtain ⟨ht, hf⟩ := h
  refine go_ifeq (tgt := 20) (show decode cX9_pick 4 = .ok (.ifCond .eq 16, 3) by decide +kernel) (by decide) (fun hc => ?_) (fun hc => ?_)
  · have h := ht hc
    refine go_ldc2 (show decode cX9_pick 20 = .ok (.ldc2_w 72, 3) by decide +kernel) lc_X9_72 (by decide) ?_
    exact go_lret (show decode cX9_pick 23 = .ok (.lreturn, 1) by decide +kernel) rfl h
  · have h := hf hc
    refine go_aload_n (show decode cX9_pick 7 = .ok (.aload_n 0, 1) by decide +kernel) (by rfl) ?_
    refine go_iload_n (show decode cX9_pick 8 = .ok (.iload_n 2, 1) by decide +kernel) (by rfl) ?_
    refine go_iload_n (show decode cX9_pick 9 = .ok (.iload_n 3, 1) by decide +kernel) (by rfl) ?_
    refine go_iload (show decode cX9_pick 10 = .ok (.iload 4, 2) by decide +kernel) (by rfl) ?_
    refine go_iload (show decode cX9_pick 12 = .ok (.iload 5, 2) by decide +kernel) (by rfl) ?_
    refine go_callV (d2 := d - 1) (M2 := MX9_ask) (n := 4) (ci := 9) (av := [vI a2, vI a3, vI a4, vI a5]) (st := []) (show decode cX9_pick 14 = .ok (.invokevirtual 68, 3) by decide +kernel) ml_X9_68 mt_X9_ask min_X9_ask mse_X9_ask (by decide) (shc_k hsh 1 (by decide) (by decide)) rfl (Nat.le_of_ble_eq_true rfl) (by omega) (ok_mono h (fun w8 S9 F10 G11 h => ?_))
    obtain ⟨e8, h⟩ := h
    replace e8 := e8.symm; subst e8
    obtain ⟨z12, e9, h⟩ := h
    subst e9
    show Go d MX9_pick 17 [some (vR 1), some (vI a1), some (vI a2), some (vI a3), some (vI a4), some (vI a5), some (vJ a6), none, none, none] [vI z12] S F10 G11 Q
    obtain ⟨ht, hf⟩ := h
    refine go_ifne (tgt := 24) (show decode cX9_pick 17 = .ok (.ifCond .ne 7, 3) by decide +kernel) (by decide) (fun hc => ?_) (fun hc => ?_)
    · have h := ht hc
      refine go_lload (show decode cX9_pick 24 = .ok (.lload 6, 2) by decide +kernel) (by rfl) ?_
      refine go_lconst (n := 1) (show decode cX9_pick 26 = .ok (.lconst 1, 1) by decide +kernel) ?_
      show Go d MX9_pick 27 [some (vR 1), some (vI a1), some (vI a2), some (vI a3), some (vI a4), some (vI a5), some (vJ a6), none, none, none] [vJ 1, vJ a6] S F10 G11 Q
      obtain ⟨ht, hf⟩ := h
      refine go_jlt (tgt := 40) (show decode cX9_pick 27 = .ok (.lcmp, 1) by decide +kernel) (show decode cX9_pick 28 = .ok (.ifCond .lt 12, 3) by decide +kernel) (by decide) (fun hc => ?_) (fun hc => ?_)
      · have h := ht hc
        refine go_ldc2 (show decode cX9_pick 40 = .ok (.ldc2_w 53, 3) by decide +kernel) lc_X9_53 (by decide) ?_
        exact go_lret (show decode cX9_pick 43 = .ok (.lreturn, 1) by decide +kernel) rfl h
      · have h := hf hc
        refine go_lload (show decode cX9_pick 31 = .ok (.lload 6, 2) by decide +kernel) (by rfl) ?_
        refine go_ldc2 (show decode cX9_pick 33 = .ok (.ldc2_w 105, 3) by decide +kernel) lc_X9_105 (by decide) ?_
        obtain ⟨ht, hf⟩ := h
        refine go_jle (tgt := 44) (show decode cX9_pick 36 = .ok (.lcmp, 1) by decide +kernel) (show decode cX9_pick 37 = .ok (.ifCond .le 7, 3) by decide +kernel) (by decide) (fun hc => ?_) (fun hc => ?_)
        · have h := ht hc
          refine go_aload_n (show decode cX9_pick 44 = .ok (.aload_n 0, 1) by decide +kernel) (by rfl) ?_
          refine go_getRc (show decode cX9_pick 45 = .ok (.getfield 12, 3) by decide +kernel) fl_X9_12 rfl (shc_k hsh 1 (by decide) (by decide)) (v := 34) (shc_r hsh 1 0 (by decide) (by decide) (by decide)) ?_
          refine go_iload_n (show decode cX9_pick 48 = .ok (.iload_n 1, 1) by decide +kernel) (by rfl) ?_
          refine go_iconst (show decode cX9_pick 49 = .ok (.iconst 0, 1) by decide +kernel) (by decide) ?_
          refine go_aload_n (show decode cX9_pick 50 = .ok (.aload_n 0, 1) by decide +kernel) (by rfl) ?_
          refine go_getRc (show decode cX9_pick 51 = .ok (.getfield 38, 3) by decide +kernel) fl_X9_38 rfl (shc_k hsh 1 (by decide) (by decide)) (v := 51) (shc_r hsh 1 4 (by decide) (by decide) (by decide)) ?_
          refine go_lload (show decode cX9_pick 54 = .ok (.lload 6, 2) by decide +kernel) (by rfl) ?_
          refine go_callV (d2 := d - 1) (M2 := MX7_locate) (n := 4) (ci := 7) (av := [vI a1, vI 0, vR 51, vJ a6]) (st := []) (show decode cX9_pick 56 = .ok (.invokevirtual 107, 3) by decide +kernel) ml_X9_107 mt_X7_locate min_X7_locate mse_X7_locate (by decide) (shc_k hsh 34 (by decide) (by decide)) rfl (Nat.le_of_ble_eq_true rfl) (by omega) (ok_mono h (fun w13 S14 F15 G16 h => ?_))
          obtain ⟨e8, h⟩ := h
          replace e8 := e8.symm; subst e8
          obtain ⟨z17, e9, h⟩ := h
          subst e9
          show Go d MX9_pick 59 [some (vR 1), some (vI a1), some (vI a2), some (vI a3), some (vI a4), some (vI a5), some (vJ a6), none, none, none] [vI z17] S F15 G16 Q
          obtain ⟨ht, hf⟩ := h
          refine go_ifne (tgt := 66) (show decode cX9_pick 59 = .ok (.ifCond .ne 7, 3) by decide +kernel) (by decide) (fun hc => ?_) (fun hc => ?_)
          · have h := ht hc
            refine go_aload_n (show decode cX9_pick 66 = .ok (.aload_n 0, 1) by decide +kernel) (by rfl) ?_
            refine go_getRc (show decode cX9_pick 67 = .ok (.getfield 12, 3) by decide +kernel) fl_X9_12 rfl (shc_k hsh 1 (by decide) (by decide)) (v := 34) (shc_r hsh 1 0 (by decide) (by decide) (by decide)) ?_
            refine go_getI (show decode cX9_pick 70 = .ok (.getfield 113, 3) by decide +kernel) fl_X9_113 (Or.inl rfl) (shc_k hsh 34 (by decide) (by decide)) ?_
            obtain ⟨x18, x18e⟩ : ∃ x18 : Int, x18 = F15 34 4 := ⟨_, rfl⟩
            have h := h x18 x18e
            rw [← x18e]
            refine go_istore (show decode cX9_pick 73 = .ok (.istore 8, 2) by decide +kernel) (by decide) ?_
            show Go d MX9_pick 75 [some (vR 1), some (vI a1), some (vI a2), some (vI a3), some (vI a4), some (vI a5), some (vJ a6), none, some (vI x18), none] [] S F15 G16 Q
            refine go_aload_n (show decode cX9_pick 75 = .ok (.aload_n 0, 1) by decide +kernel) (by rfl) ?_
            refine go_getRc (show decode cX9_pick 76 = .ok (.getfield 12, 3) by decide +kernel) fl_X9_12 rfl (shc_k hsh 1 (by decide) (by decide)) (v := 34) (shc_r hsh 1 0 (by decide) (by decide) (by decide)) ?_
            refine go_getI (show decode cX9_pick 79 = .ok (.getfield 117, 3) by decide +kernel) fl_X9_117 (Or.inl rfl) (shc_k hsh 34 (by decide) (by decide)) ?_
            obtain ⟨x19, x19e⟩ : ∃ x19 : Int, x19 = F15 34 5 := ⟨_, rfl⟩
            have h := h x19 x19e
            rw [← x19e]
            refine go_istore (show decode cX9_pick 82 = .ok (.istore 9, 2) by decide +kernel) (by decide) ?_
            show Go d MX9_pick 84 [some (vR 1), some (vI a1), some (vI a2), some (vI a3), some (vI a4), some (vI a5), some (vJ a6), none, some (vI x18), some (vI x19)] [] S F15 G16 Q
            refine go_aload_n (show decode cX9_pick 84 = .ok (.aload_n 0, 1) by decide +kernel) (by rfl) ?_
            refine go_getRc (show decode cX9_pick 85 = .ok (.getfield 20, 3) by decide +kernel) fl_X9_20 rfl (shc_k hsh 1 (by decide) (by decide)) (v := 2) (shc_r hsh 1 1 (by decide) (by decide) (by decide)) ?_
            refine go_aload_n (show decode cX9_pick 88 = .ok (.aload_n 0, 1) by decide +kernel) (by rfl) ?_
            refine go_getRc (show decode cX9_pick 89 = .ok (.getfield 38, 3) by decide +kernel) fl_X9_38 rfl (shc_k hsh 1 (by decide) (by decide)) (v := 51) (shc_r hsh 1 4 (by decide) (by decide) (by decide)) ?_
            refine go_callV (d2 := d - 1) (M2 := MX2_plan) (n := 1) (ci := 2) (av := [vR 51]) (st := []) (show decode cX9_pick 92 = .ok (.invokevirtual 80, 3) by decide +kernel) ml_X9_80 mt_X2_plan min_X2_plan mse_X2_plan (by decide) (shc_k hsh 2 (by decide) (by decide)) rfl (Nat.le_of_ble_eq_true rfl) (by omega) (ok_mono h (fun w20 S21 F22 G23 h => ?_))
            obtain ⟨e8, h⟩ := h
            replace e8 := e8.symm; subst e8
            obtain ⟨e9, h⟩ := h
            subst e9
            show Go d MX9_pick 95 [some (vR 1), some (vI a1), some (vI a2), some (vI a3), some (vI a4), some (vI a5), some (vJ a6), none, some (vI x18), some (vI x19)] [] S F22 G23 Q
            refine go_aload_n (show decode cX9_pick 95 = .ok (.aload_n 0, 1) by decide +kernel) (by rfl) ?_
            refine go_getRc (show decode cX9_pick 96 = .ok (.getfield 20, 3) by decide +kernel) fl_X9_20 rfl (shc_k hsh 1 (by decide) (by decide)) (v := 2) (shc_r hsh 1 1 (by decide) (by decide) (by decide)) ?_
            refine go_getRc (show decode cX9_pick 99 = .ok (.getfield 120, 3) by decide +kernel) fl_X9_120 rfl (shc_k hsh 2 (by decide) (by decide)) (v := 3) (shc_r hsh 2 0 (by decide) (by decide) (by decide)) ?_
            refine go_iload (show decode cX9_pick 102 = .ok (.iload 8, 2) by decide +kernel) (by rfl) ?_
            refine go_iload (show decode cX9_pick 104 = .ok (.iload 8, 2) by decide +kernel) (by rfl) ?_
            refine go_callV (d2 := d - 1) (M2 := MX0_planSpan) (n := 2) (ci := 0) (av := [vI x18, vI x18]) (st := []) (show decode cX9_pick 106 = .ok (.invokevirtual 124, 3) by decide +kernel) ml_X9_124 mt_X0_planSpan min_X0_planSpan mse_X0_planSpan (by decide) (shc_k hsh 3 (by decide) (by decide)) rfl (Nat.le_of_ble_eq_true rfl) (by omega) (ok_mono h (fun w24 S25 F26 G27 h => ?_))
            obtain ⟨e8, h⟩ := h
            replace e8 := e8.symm; subst e8
            obtain ⟨e9, h⟩ := h
            subst e9
            show Go d MX9_pick 109 [some (vR 1), some (vI a1), some (vI a2), some (vI a3), some (vI a4), some (vI a5), some (vJ a6), none, some (vI x18), some (vI x19)] [] S F26 G27 Q
            refine go_aload_n (show decode cX9_pick 109 = .ok (.aload_n 0, 1) by decide +kernel) (by rfl) ?_
            refine go_getRc (show decode cX9_pick 110 = .ok (.getfield 20, 3) by decide +kernel) fl_X9_20 rfl (shc_k hsh 1 (by decide) (by decide)) (v := 2) (shc_r hsh 1 1 (by decide) (by decide) (by decide)) ?_
            refine go_getRc (show decode cX9_pick 113 = .ok (.getfield 130, 3) by decide +kernel) fl_X9_130 rfl (shc_k hsh 2 (by decide) (by decide)) (v := 10) (shc_r hsh 2 1 (by decide) (by decide) (by decide)) ?_
            refine go_iload (show decode cX9_pick 116 = .ok (.iload 9, 2) by decide +kernel) (by rfl) ?_
            refine go_iload (show decode cX9_pick 118 = .ok (.iload 9, 2) by decide +kernel) (by rfl) ?_
            refine go_callV (d2 := d - 1) (M2 := MX0_planSpan) (n := 2) (ci := 0) (av := [vI x19, vI x19]) (st := []) (show decode cX9_pick 120 = .ok (.invokevirtual 124, 3) by decide +kernel) ml_X9_124 mt_X0_planSpan min_X0_planSpan mse_X0_planSpan (by decide) (shc_k hsh 10 (by decide) (by decide)) rfl (Nat.le_of_ble_eq_true rfl) (by omega) (ok_mono h (fun w28 S29 F30 G31 h => ?_))
            obtain ⟨e8, h⟩ := h
            replace e8 := e8.symm; subst e8
            obtain ⟨e9, h⟩ := h
            subst e9
            show Go d MX9_pick 123 [some (vR 1), some (vI a1), some (vI a2), some (vI a3), some (vI a4), some (vI a5), some (vJ a6), none, some (vI x18), some (vI x19)] [] S F30 G31 Q
            refine go_aload_n (show decode cX9_pick 123 = .ok (.aload_n 0, 1) by decide +kernel) (by rfl) ?_
            refine go_getRc (show decode cX9_pick 124 = .ok (.getfield 20, 3) by decide +kernel) fl_X9_20 rfl (shc_k hsh 1 (by decide) (by decide)) (v := 2) (shc_r hsh 1 1 (by decide) (by decide) (by decide)) ?_
            obtain ⟨z36, p37, h⟩ := h
            refine go_callV (d2 := d - 1) (M2 := MX2_plansTooMany) (n := 0) (ci := 2) (av := []) (st := []) (show decode cX9_pick 127 = .ok (.invokevirtual 84, 3) by decide +kernel) ml_X9_84 mt_X2_plansTooMany min_X2_plansTooMany mse_X2_plansTooMany (by decide) (shc_k hsh 2 (by decide) (by decide)) rfl (Nat.le_of_ble_eq_true rfl) (by omega) (ok_mono p37 (fun w32 S33 F34 G35 e9 => ?_))
            obtain ⟨e1, e2, e3, e4⟩ := e9
            subst e1
            replace e2 := e2.symm; subst e2
            replace e3 := e3.symm; subst e3
            replace e4 := e4.symm; subst e4
            show Go d MX9_pick 130 [some (vR 1), some (vI a1), some (vI a2), some (vI a3), some (vI a4), some (vI a5), some (vJ a6), none, some (vI x18), some (vI x19)] [vI z36] S F30 G31 Q
            obtain ⟨ht, hf⟩ := h
            refine go_ifeq (tgt := 137) (show decode cX9_pick 130 = .ok (.ifCond .eq 7, 3) by decide +kernel) (by decide) (fun hc => ?_) (fun hc => ?_)
            · have h := ht hc
              refine go_aload_n (show decode cX9_pick 137 = .ok (.aload_n 0, 1) by decide +kernel) (by rfl) ?_
              refine go_getRc (show decode cX9_pick 138 = .ok (.getfield 20, 3) by decide +kernel) fl_X9_20 rfl (shc_k hsh 1 (by decide) (by decide)) (v := 2) (shc_r hsh 1 1 (by decide) (by decide) (by decide)) ?_
              refine go_iload_n (show decode cX9_pick 141 = .ok (.iload_n 1, 1) by decide +kernel) (by rfl) ?_
              refine go_callV (d2 := d - 1) (M2 := MX2_startTrial) (n := 1) (ci := 2) (av := [vI a1]) (st := []) (show decode cX9_pick 142 = .ok (.invokevirtual 90, 3) by decide +kernel) ml_X9_90 mt_X2_startTrial min_X2_startTrial mse_X2_startTrial (by decide) (shc_k hsh 2 (by decide) (by decide)) rfl (Nat.le_of_ble_eq_true rfl) (by omega) (ok_mono h (fun w38 S39 F40 G41 h => ?_))
              obtain ⟨e8, h⟩ := h
              replace e8 := e8.symm; subst e8
              obtain ⟨e9, h⟩ := h
              subst e9
              show Go d MX9_pick 145 [some (vR 1), some (vI a1), some (vI a2), some (vI a3), some (vI a4), some (vI a5), some (vJ a6), none, some (vI x18), some (vI x19)] [] S F40 G41 Q
              refine go_aload_n (show decode cX9_pick 145 = .ok (.aload_n 0, 1) by decide +kernel) (by rfl) ?_
              refine go_getRc (show decode cX9_pick 146 = .ok (.getfield 20, 3) by decide +kernel) fl_X9_20 rfl (shc_k hsh 1 (by decide) (by decide)) (v := 2) (shc_r hsh 1 1 (by decide) (by decide) (by decide)) ?_
              refine go_iload_n (show decode cX9_pick 149 = .ok (.iload_n 2, 1) by decide +kernel) (by rfl) ?_
              refine go_iload_n (show decode cX9_pick 150 = .ok (.iload_n 3, 1) by decide +kernel) (by rfl) ?_
              refine go_iload (show decode cX9_pick 151 = .ok (.iload 4, 2) by decide +kernel) (by rfl) ?_
              refine go_iload (show decode cX9_pick 153 = .ok (.iload 9, 2) by decide +kernel) (by rfl) ?_
              refine go_iconst (show decode cX9_pick 155 = .ok (.iconst 1, 1) by decide +kernel) (by decide) ?_
              obtain ⟨q42, h⟩ := h
              refine go_isub (show decode cX9_pick 156 = .ok (.isub, 1) by decide +kernel) q42 ?_
              refine go_lconst (n := 0) (show decode cX9_pick 157 = .ok (.lconst 0, 1) by decide +kernel) ?_
              show Go d MX9_pick 158 [some (vR 1), some (vI a1), some (vI a2), some (vI a3), some (vI a4), some (vI a5), some (vJ a6), none, some (vI x18), some (vI x19)] [vJ 0, vI (x19 - 1), vI a4, vI a3, vI a2, vR 2] S F40 G41 Q
              refine go_callV (d2 := d - 1) (M2 := MX2_fill) (n := 5) (ci := 2) (av := [vI a2, vI a3, vI a4, vI (x19 - 1), vJ 0]) (st := []) (show decode cX9_pick 158 = .ok (.invokevirtual 133, 3) by decide +kernel) ml_X9_133 mt_X2_fill min_X2_fill mse_X2_fill (by decide) (shc_k hsh 2 (by decide) (by decide)) rfl (Nat.le_of_ble_eq_true rfl) (by omega) (ok_mono h (fun w43 S44 F45 G46 h => ?_))
              obtain ⟨e8, h⟩ := h
              replace e8 := e8.symm; subst e8
              obtain ⟨e9, h⟩ := h
              subst e9
              show Go d MX9_pick 161 [some (vR 1), some (vI a1), some (vI a2), some (vI a3), some (vI a4), some (vI a5), some (vJ a6), none, some (vI x18), some (vI x19)] [] S F45 G46 Q
              refine go_aload_n (show decode cX9_pick 161 = .ok (.aload_n 0, 1) by decide +kernel) (by rfl) ?_
              refine go_getRc (show decode cX9_pick 162 = .ok (.getfield 20, 3) by decide +kernel) fl_X9_20 rfl (shc_k hsh 1 (by decide) (by decide)) (v := 2) (shc_r hsh 1 1 (by decide) (by decide) (by decide)) ?_
              refine go_iload_n (show decode cX9_pick 165 = .ok (.iload_n 2, 1) by decide +kernel) (by rfl) ?_
              refine go_iload (show decode cX9_pick 166 = .ok (.iload 9, 2) by decide +kernel) (by rfl) ?_
              refine go_iload (show decode cX9_pick 168 = .ok (.iload 8, 2) by decide +kernel) (by rfl) ?_
              refine go_iconst (show decode cX9_pick 170 = .ok (.iconst 1, 1) by decide +kernel) (by decide) ?_
              obtain ⟨q47, h⟩ := h
              refine go_isub (show decode cX9_pick 171 = .ok (.isub, 1) by decide +kernel) q47 ?_
              refine go_iload (show decode cX9_pick 172 = .ok (.iload 9, 2) by decide +kernel) (by rfl) ?_
              refine go_lconst (n := 0) (show decode cX9_pick 174 = .ok (.lconst 0, 1) by decide +kernel) ?_
              show Go d MX9_pick 175 [some (vR 1), some (vI a1), some (vI a2), some (vI a3), some (vI a4), some (vI a5), some (vJ a6), none, some (vI x18), some (vI x19)] [vJ 0, vI x19, vI (x18 - 1), vI x19, vI a2, vR 2] S F45 G46 Q
              refine go_callV (d2 := d - 1) (M2 := MX2_fill) (n := 5) (ci := 2) (av := [vI a2, vI x19, vI (x18 - 1), vI x19, vJ 0]) (st := []) (show decode cX9_pick 175 = .ok (.invokevirtual 133, 3) by decide +kernel) ml_X9_133 mt_X2_fill min_X2_fill mse_X2_fill (by decide) (shc_k hsh 2 (by decide) (by decide)) rfl (Nat.le_of_ble_eq_true rfl) (by omega) (ok_mono h (fun w48 S49 F50 G51 h => ?_))
              obtain ⟨e8, h⟩ := h
              replace e8 := e8.symm; subst e8
              obtain ⟨e9, h⟩ := h
              subst e9
              show Go d MX9_pick 178 [some (vR 1), some (vI a1), some (vI a2), some (vI a3), some (vI a4), some (vI a5), some (vJ a6), none, some (vI x18), some (vI x19)] [] S F50 G51 Q
              refine go_aload_n (show decode cX9_pick 178 = .ok (.aload_n 0, 1) by decide +kernel) (by rfl) ?_
              refine go_getRc (show decode cX9_pick 179 = .ok (.getfield 20, 3) by decide +kernel) fl_X9_20 rfl (shc_k hsh 1 (by decide) (by decide)) (v := 2) (shc_r hsh 1 1 (by decide) (by decide) (by decide)) ?_
              refine go_iload (show decode cX9_pick 182 = .ok (.iload 8, 2) by decide +kernel) (by rfl) ?_
              refine go_iload (show decode cX9_pick 184 = .ok (.iload 9, 2) by decide +kernel) (by rfl) ?_
              refine go_iload (show decode cX9_pick 186 = .ok (.iload 8, 2) by decide +kernel) (by rfl) ?_
              refine go_iload (show decode cX9_pick 188 = .ok (.iload 9, 2) by decide +kernel) (by rfl) ?_
              refine go_aload_n (show decode cX9_pick 190 = .ok (.aload_n 0, 1) by decide +kernel) (by rfl) ?_
              refine go_getRc (show decode cX9_pick 191 = .ok (.getfield 12, 3) by decide +kernel) fl_X9_12 rfl (shc_k hsh 1 (by decide) (by decide)) (v := 34) (shc_r hsh 1 0 (by decide) (by decide) (by decide)) ?_
              refine go_getJ (show decode cX9_pick 194 = .ok (.getfield 137, 3) by decide +kernel) fl_X9_137 rfl (shc_k hsh 34 (by decide) (by decide)) ?_
              refine go_callV (d2 := d - 1) (M2 := MX2_fill) (n := 5) (ci := 2) (av := [vI x18, vI x19, vI x18, vI x19, vJ (F50 34 6)]) (st := []) (show decode cX9_pick 197 = .ok (.invokevirtual 133, 3) by decide +kernel) ml_X9_133 mt_X2_fill min_X2_fill mse_X2_fill (by decide) (shc_k hsh 2 (by decide) (by decide)) rfl (Nat.le_of_ble_eq_true rfl) (by omega) (ok_mono h (fun w52 S53 F54 G55 h => ?_))
              obtain ⟨e8, h⟩ := h
              replace e8 := e8.symm; subst e8
              obtain ⟨e9, h⟩ := h
              subst e9
              show Go d MX9_pick 200 [some (vR 1), some (vI a1), some (vI a2), some (vI a3), some (vI a4), some (vI a5), some (vJ a6), none, some (vI x18), some (vI x19)] [] S F54 G55 Q
              refine go_aload_n (show decode cX9_pick 200 = .ok (.aload_n 0, 1) by decide +kernel) (by rfl) ?_
              refine go_iconst (show decode cX9_pick 201 = .ok (.iconst 1, 1) by decide +kernel) (by decide) ?_
              refine go_iload_n (show decode cX9_pick 202 = .ok (.iload_n 1, 1) by decide +kernel) (by rfl) ?_
              refine go_lload (show decode cX9_pick 203 = .ok (.lload 6, 2) by decide +kernel) (by rfl) ?_
              refine go_callV (d2 := d - 1) (M2 := MX9_keep) (n := 3) (ci := 9) (av := [vI 1, vI a1, vJ a6]) (st := []) (show decode cX9_pick 205 = .ok (.invokevirtual 98, 3) by decide +kernel) ml_X9_98 mt_X9_keep min_X9_keep mse_X9_keep (by decide) (shc_k hsh 1 (by decide) (by decide)) rfl (Nat.le_of_ble_eq_true rfl) (by omega) (ok_mono h (fun w56 S57 F58 G59 h => ?_))
              obtain ⟨e8, h⟩ := h
              replace e8 := e8.symm; subst e8
              obtain ⟨e9, h⟩ := h
              subst e9
              show Go d MX9_pick 208 [some (vR 1), some (vI a1), some (vI a2), some (vI a3), some (vI a4), some (vI a5), some (vJ a6), none, some (vI x18), some (vI x19)] [] S F58 G59 Q
              refine go_aload_n (show decode cX9_pick 208 = .ok (.aload_n 0, 1) by decide +kernel) (by rfl) ?_
              refine go_getRc (show decode cX9_pick 209 = .ok (.getfield 20, 3) by decide +kernel) fl_X9_20 rfl (shc_k hsh 1 (by decide) (by decide)) (v := 2) (shc_r hsh 1 1 (by decide) (by decide) (by decide)) ?_
              refine go_iload (show decode cX9_pick 212 = .ok (.iload 8, 2) by decide +kernel) (by rfl) ?_
              refine go_iload (show decode cX9_pick 214 = .ok (.iload 9, 2) by decide +kernel) (by rfl) ?_
              obtain ⟨z64, p65, h⟩ := h
              refine go_callV (d2 := d - 1) (M2 := MX2_number) (n := 2) (ci := 2) (av := [vI x18, vI x19]) (st := []) (show decode cX9_pick 216 = .ok (.invokevirtual 141, 3) by decide +kernel) ml_X9_141 mt_X2_number min_X2_number mse_X2_number (by decide) (shc_k hsh 2 (by decide) (by decide)) rfl (Nat.le_of_ble_eq_true rfl) (by omega) (ok_mono p65 (fun w60 S61 F62 G63 e9 => ?_))
              obtain ⟨e1, e2, e3, e4⟩ := e9
              subst e1
              replace e2 := e2.symm; subst e2
              replace e3 := e3.symm; subst e3
              replace e4 := e4.symm; subst e4
              show Go d MX9_pick 219 [some (vR 1), some (vI a1), some (vI a2), some (vI a3), some (vI a4), some (vI a5), some (vJ a6), none, some (vI x18), some (vI x19)] [vJ z64] S F58 G59 Q
              exact go_lret (show decode cX9_pick 219 = .ok (.lreturn, 1) by decide +kernel) rfl h
            · have h := hf hc
              refine go_ldc2 (show decode cX9_pick 133 = .ok (.ldc2_w 88, 3) by decide +kernel) lc_X9_88 (by decide) ?_
              exact go_lret (show decode cX9_pick 136 = .ok (.lreturn, 1) by decide +kernel) rfl h
          · have h := hf hc
            refine go_ldc2 (show decode cX9_pick 62 = .ok (.ldc2_w 111, 3) by decide +kernel) lc_X9_111 (by decide) ?_
            exact go_lret (show decode cX9_pick 65 = .ok (.lreturn, 1) by decide +kernel) rfl h
        · have h := hf hc
          refine go_ldc2 (show decode cX9_pick 40 = .ok (.ldc2_w 53, 3) by decide +kernel) lc_X9_53 (by decide) ?_
          exact go_lret (show decode cX9_pick 43 = .ok (.lreturn, 1) by decide +kernel) rfl h
    · have h := hf hc
      refine go_ldc2 (show decode cX9_pick 20 = .ok (.ldc2_w 72, 3) by decide +kernel) lc_X9_72 (by decide) ?_
      exact go_lret (show decode cX9_pick 23 = .ok (.lreturn, 1) by decide +kernel) rfl h
def V_X9_move_54 (d : Nat) (S : AS) (F : AF) (G : AG) (Q : AQ) (a1 : Int) (a2 : Int) (a3 : Int) (a4 : Int) (a5 : Int) (a6 : Int) (a7 : Int) : Prop :=
  (r32 (a2 + a6)) ∧
  (r32 (a3 + a7)) ∧
  (r32 (a4 + a6)) ∧
  (r32 (a5 + a7)) ∧
  (1 ≤ d) ∧
  Ok (d - 1) MX3_set [vR 52, vI (a2 + a6), vI (a3 + a7), vI (a4 + a6), vI (a5 + a7)] S F G (fun w6 S7 F8 G9 =>
  S7 = S ∧
  w6 = none ∧
  ∃ z14 : Int, Pu (d - 1) MX2_holds [vR 2, vR 52] S F8 G9 (some (vI z14)) ∧
  ((¬ z14 = 0) →
    Ok (d - 1) MX2_plan [vR 2, vR 51] S F8 G9 (fun w16 S17 F18 G19 =>
    S17 = S ∧
    w16 = none ∧
    Ok (d - 1) MX2_planMore [vR 2, vR 52] S F18 G19 (fun w20 S21 F22 G23 =>
    S21 = S ∧
    w20 = none ∧
    Ok (d - 1) MX0_planShifted [vR 3, vI a2, vI a4, vI a6] S F22 G23 (fun w24 S25 F26 G27 =>
    S25 = S ∧
    w24 = none ∧
    Ok (d - 1) MX0_planShifted [vR 10, vI a3, vI a5, vI a7] S F26 G27 (fun w28 S29 F30 G31 =>
    S29 = S ∧
    w28 = none ∧
    ∃ z36 : Int, Pu (d - 1) MX2_plansTooMany [vR 2] S F30 G31 (some (vI z36)) ∧
    ((z36 = 0) →
      ∃ z42 : Int, Pu (d - 1) MX2_sumOf [vR 2, vI a1, vR 51] S F30 G31 (some (vJ z42)) ∧
      Ok (d - 1) MX2_startTrial [vR 2, vI a1] S F30 G31 (fun w44 S45 F46 G47 =>
      S45 = S ∧
      w44 = none ∧
      Ok (d - 1) MX2_fill [vR 2, vI a2, vI a3, vI a4, vI a5, vJ 0] S F46 G47 (fun w48 S49 F50 G51 =>
      S49 = S ∧
      w48 = none ∧
      Ok (d - 1) MX0_traceSources [vR 3, vI a2, vI a4, vI a6] S F50 G51 (fun w52 S53 F54 G55 =>
      S53 = S ∧
      w52 = none ∧
      Ok (d - 1) MX0_traceSources [vR 10, vI a3, vI a5, vI a7] S F54 G55 (fun w56 S57 F58 G59 =>
      S57 = S ∧
      w56 = none ∧
      Ok (d - 1) MX2_bring [vR 2, vI a1, vR 52] S F58 G59 (fun w60 S61 F62 G63 =>
      S61 = S ∧
      w60 = none ∧
      ∃ z68 : Int, Pu (d - 1) MX2_trialRefusal [vR 2, vI a1] S F62 G63 (some (vI z68)) ∧
      ((z68 = 0) →
        (r64 (100000 * a6)) ∧
        (r64 ((100000 * a6) + a7)) ∧
        Ok (d - 1) MX9_keep [vR 1, vI 2, vI a1, vJ ((100000 * a6) + a7)] S F62 G63 (fun w72 S73 F74 G75 =>
        S73 = S ∧
        w72 = none ∧
        Q (some (vJ z42)) S F74 G75)) ∧
      ((¬ z68 = 0) →
        Q (some (vJ z68)) S F62 G63))))))) ∧
    ((¬ z36 = 0) →
      Q (some (vJ (-4))) S F30 G31)))))) ∧
  ((z14 = 0) →
    Q (some (vJ (-2))) S F8 G9))
theorem R_X9_move_54 {d : Nat} {S : AS} {F : AF} {G : AG} {Q : AQ} {a1 : Int} {a2 : Int} {a3 : Int} {a4 : Int} {a5 : Int} {a6 : Int} {a7 : Int} (hsh : ShC S) (h : V_X9_move_54 d S F G Q a1 a2 a3 a4 a5 a6 a7) : Go d MX9_move 54 [some (vR 1), some (vI a1), some (vI a2), some (vI a3), some (vI a4), some (vI a5), some (vI a6), some (vI a7), none, none, none] [] S F G Q := by
  unfold V_X9_move_54 at h
  refine go_aload_n (show decode cX9_move 54 = .ok (.aload_n 0, 1) by decide +kernel) (by rfl) ?_
  refine go_getRc (show decode cX9_move 55 = .ok (.getfield 42, 3) by decide +kernel) fl_X9_42 rfl (shc_k hsh 1 (by decide) (by decide)) (v := 52) (shc_r hsh 1 5 (by decide) (by decide) (by decide)) ?_
  refine go_iload_n (show decode cX9_move 58 = .ok (.iload_n 2, 1) by decide +kernel) (by rfl) ?_
  refine go_iload (show decode cX9_move 59 = .ok (.iload 6, 2) by decide +kernel) (by rfl) ?_
  obtain ⟨q1, h⟩ := h
  refine go_iadd (show decode cX9_move 61 = .ok (.iadd, 1) by decide +kernel) q1 ?_
  refine go_iload_n (show decode cX9_move 62 = .ok (.iload_n 3, 1) by decide +kernel) (by rfl) ?_
  refine go_iload (show decode cX9_move 63 = .ok (.iload 7, 2) by decide +kernel) (by rfl) ?_
  obtain ⟨q2, h⟩ := h
  refine go_iadd (show decode cX9_move 65 = .ok (.iadd, 1) by decide +kernel) q2 ?_
  refine go_iload (show decode cX9_move 66 = .ok (.iload 4, 2) by decide +kernel) (by rfl) ?_
  refine go_iload (show decode cX9_move 68 = .ok (.iload 6, 2) by decide +kernel) (by rfl) ?_
  obtain ⟨q3, h⟩ := h
  refine go_iadd (show decode cX9_move 70 = .ok (.iadd, 1) by decide +kernel) q3 ?_
  refine go_iload (show decode cX9_move 71 = .ok (.iload 5, 2) by decide +kernel) (by rfl) ?_
  refine go_iload (show decode cX9_move 73 = .ok (.iload 7, 2) by decide +kernel) (by rfl) ?_
  obtain ⟨q4, h⟩ := h
  refine go_iadd (show decode cX9_move 75 = .ok (.iadd, 1) by decide +kernel) q4 ?_
  obtain ⟨q5, h⟩ := h
  refine go_callV (d2 := d - 1) (M2 := MX3_set) (n := 4) (ci := 3) (av := [vI (a2 + a6), vI (a3 + a7), vI (a4 + a6), vI (a5 + a7)]) (st := []) (show decode cX9_move 76 = .ok (.invokevirtual 148, 3) by decide +kernel) ml_X9_148 mt_X3_set min_X3_set mse_X3_set (by decide) (shc_k hsh 52 (by decide) (by decide)) rfl (Nat.le_of_ble_eq_true rfl) (by omega) (ok_mono h (fun w6 S7 F8 G9 h => ?_))
  obtain ⟨e8, h⟩ := h
  replace e8 := e8.symm; subst e8
  obtain ⟨e9, h⟩ := h
  subst e9
  show Go d MX9_move 79 [some (vR 1), some (vI a1), some (vI a2), some (vI a3), some (vI a4), some (vI a5), some (vI a6), some (vI a7), none, none, none] [] S F8 G9 Q
  refine go_aload_n (show decode cX9_move 79 = .ok (.aload_n 0, 1) by decide +kernel) (by rfl) ?_
  refine go_getRc (show decode cX9_move 80 = .ok (.getfield 20, 3) by decide +kernel) fl_X9_20 rfl (shc_k hsh 1 (by decide) (by decide)) (v := 2) (shc_r hsh 1 1 (by decide) (by decide) (by decide)) ?_
  refine go_aload_n (show decode cX9_move 83 = .ok (.aload_n 0, 1) by decide +kernel) (by rfl) ?_
  refine go_getRc (show decode cX9_move 84 = .ok (.getfield 42, 3) by decide +kernel) fl_X9_42 rfl (shc_k hsh 1 (by decide) (by decide)) (v := 52) (shc_r hsh 1 5 (by decide) (by decide) (by decide)) ?_
  obtain ⟨z14, p15, h⟩ := h
  refine go_callV (d2 := d - 1) (M2 := MX2_holds) (n := 1) (ci := 2) (av := [vR 52]) (st := []) (show decode cX9_move 87 = .ok (.invokevirtual 152, 3) by decide +kernel) ml_X9_152 mt_X2_holds min_X2_holds mse_X2_holds (by decide) (shc_k hsh 2 (by decide) (by decide)) rfl (Nat.le_of_ble_eq_true rfl) (by omega) (ok_mono p15 (fun w10 S11 F12 G13 e9 => ?_))
  obtain ⟨e1, e2, e3, e4⟩ := e9
  subst e1
  replace e2 := e2.symm; subst e2
  replace e3 := e3.symm; subst e3
  replace e4 := e4.symm; subst e4
  show Go d MX9_move 90 [some (vR 1), some (vI a1), some (vI a2), some (vI a3), some (vI a4), some (vI a5), some (vI a6), some (vI a7), none, none, none] [vI z14] S F8 G9 Q
  obtain ⟨ht, hf⟩ := h
  refine go_ifne (tgt := 97) (show decode cX9_move 90 = .ok (.ifCond .ne 7, 3) by decide +kernel) (by decide) (fun hc => ?_) (fun hc => ?_)
  · have h := ht hc
    refine go_aload_n (show decode cX9_move 97 = .ok (.aload_n 0, 1) by decide +kernel) (by rfl) ?_
    refine go_getRc (show decode cX9_move 98 = .ok (.getfield 20, 3) by decide +kernel) fl_X9_20 rfl (shc_k hsh 1 (by decide) (by decide)) (v := 2) (shc_r hsh 1 1 (by decide) (by decide) (by decide)) ?_
    refine go_aload_n (show decode cX9_move 101 = .ok (.aload_n 0, 1) by decide +kernel) (by rfl) ?_
    refine go_getRc (show decode cX9_move 102 = .ok (.getfield 38, 3) by decide +kernel) fl_X9_38 rfl (shc_k hsh 1 (by decide) (by decide)) (v := 51) (shc_r hsh 1 4 (by decide) (by decide) (by decide)) ?_
    refine go_callV (d2 := d - 1) (M2 := MX2_plan) (n := 1) (ci := 2) (av := [vR 51]) (st := []) (show decode cX9_move 105 = .ok (.invokevirtual 80, 3) by decide +kernel) ml_X9_80 mt_X2_plan min_X2_plan mse_X2_plan (by decide) (shc_k hsh 2 (by decide) (by decide)) rfl (Nat.le_of_ble_eq_true rfl) (by omega) (ok_mono h (fun w16 S17 F18 G19 h => ?_))
    obtain ⟨e8, h⟩ := h
    replace e8 := e8.symm; subst e8
    obtain ⟨e9, h⟩ := h
    subst e9
    show Go d MX9_move 108 [some (vR 1), some (vI a1), some (vI a2), some (vI a3), some (vI a4), some (vI a5), some (vI a6), some (vI a7), none, none, none] [] S F18 G19 Q
    refine go_aload_n (show decode cX9_move 108 = .ok (.aload_n 0, 1) by decide +kernel) (by rfl) ?_
    refine go_getRc (show decode cX9_move 109 = .ok (.getfield 20, 3) by decide +kernel) fl_X9_20 rfl (shc_k hsh 1 (by decide) (by decide)) (v := 2) (shc_r hsh 1 1 (by decide) (by decide) (by decide)) ?_
    refine go_aload_n (show decode cX9_move 112 = .ok (.aload_n 0, 1) by decide +kernel) (by rfl) ?_
    refine go_getRc (show decode cX9_move 113 = .ok (.getfield 42, 3) by decide +kernel) fl_X9_42 rfl (shc_k hsh 1 (by decide) (by decide)) (v := 52) (shc_r hsh 1 5 (by decide) (by decide) (by decide)) ?_
    refine go_callV (d2 := d - 1) (M2 := MX2_planMore) (n := 1) (ci := 2) (av := [vR 52]) (st := []) (show decode cX9_move 116 = .ok (.invokevirtual 156, 3) by decide +kernel) ml_X9_156 mt_X2_planMore min_X2_planMore mse_X2_planMore (by decide) (shc_k hsh 2 (by decide) (by decide)) rfl (Nat.le_of_ble_eq_true rfl) (by omega) (ok_mono h (fun w20 S21 F22 G23 h => ?_))
    obtain ⟨e8, h⟩ := h
    replace e8 := e8.symm; subst e8
    obtain ⟨e9, h⟩ := h
    subst e9
    show Go d MX9_move 119 [some (vR 1), some (vI a1), some (vI a2), some (vI a3), some (vI a4), some (vI a5), some (vI a6), some (vI a7), none, none, none] [] S F22 G23 Q
    refine go_aload_n (show decode cX9_move 119 = .ok (.aload_n 0, 1) by decide +kernel) (by rfl) ?_
    refine go_getRc (show decode cX9_move 120 = .ok (.getfield 20, 3) by decide +kernel) fl_X9_20 rfl (shc_k hsh 1 (by decide) (by decide)) (v := 2) (shc_r hsh 1 1 (by decide) (by decide) (by decide)) ?_
    refine go_getRc (show decode cX9_move 123 = .ok (.getfield 120, 3) by decide +kernel) fl_X9_120 rfl (shc_k hsh 2 (by decide) (by decide)) (v := 3) (shc_r hsh 2 0 (by decide) (by decide) (by decide)) ?_
    refine go_iload_n (show decode cX9_move 126 = .ok (.iload_n 2, 1) by decide +kernel) (by rfl) ?_
    refine go_iload (show decode cX9_move 127 = .ok (.iload 4, 2) by decide +kernel) (by rfl) ?_
    refine go_iload (show decode cX9_move 129 = .ok (.iload 6, 2) by decide +kernel) (by rfl) ?_
    refine go_callV (d2 := d - 1) (M2 := MX0_planShifted) (n := 3) (ci := 0) (av := [vI a2, vI a4, vI a6]) (st := []) (show decode cX9_move 131 = .ok (.invokevirtual 159, 3) by decide +kernel) ml_X9_159 mt_X0_planShifted min_X0_planShifted mse_X0_planShifted (by decide) (shc_k hsh 3 (by decide) (by decide)) rfl (Nat.le_of_ble_eq_true rfl) (by omega) (ok_mono h (fun w24 S25 F26 G27 h => ?_))
    obtain ⟨e8, h⟩ := h
    replace e8 := e8.symm; subst e8
    obtain ⟨e9, h⟩ := h
    subst e9
    show Go d MX9_move 134 [some (vR 1), some (vI a1), some (vI a2), some (vI a3), some (vI a4), some (vI a5), some (vI a6), some (vI a7), none, none, none] [] S F26 G27 Q
    refine go_aload_n (show decode cX9_move 134 = .ok (.aload_n 0, 1) by decide +kernel) (by rfl) ?_
    refine go_getRc (show decode cX9_move 135 = .ok (.getfield 20, 3) by decide +kernel) fl_X9_20 rfl (shc_k hsh 1 (by decide) (by decide)) (v := 2) (shc_r hsh 1 1 (by decide) (by decide) (by decide)) ?_
    refine go_getRc (show decode cX9_move 138 = .ok (.getfield 130, 3) by decide +kernel) fl_X9_130 rfl (shc_k hsh 2 (by decide) (by decide)) (v := 10) (shc_r hsh 2 1 (by decide) (by decide) (by decide)) ?_
    refine go_iload_n (show decode cX9_move 141 = .ok (.iload_n 3, 1) by decide +kernel) (by rfl) ?_
    refine go_iload (show decode cX9_move 142 = .ok (.iload 5, 2) by decide +kernel) (by rfl) ?_
    refine go_iload (show decode cX9_move 144 = .ok (.iload 7, 2) by decide +kernel) (by rfl) ?_
    refine go_callV (d2 := d - 1) (M2 := MX0_planShifted) (n := 3) (ci := 0) (av := [vI a3, vI a5, vI a7]) (st := []) (show decode cX9_move 146 = .ok (.invokevirtual 159, 3) by decide +kernel) ml_X9_159 mt_X0_planShifted min_X0_planShifted mse_X0_planShifted (by decide) (shc_k hsh 10 (by decide) (by decide)) rfl (Nat.le_of_ble_eq_true rfl) (by omega) (ok_mono h (fun w28 S29 F30 G31 h => ?_))
    obtain ⟨e8, h⟩ := h
    replace e8 := e8.symm; subst e8
    obtain ⟨e9, h⟩ := h
    subst e9
    show Go d MX9_move 149 [some (vR 1), some (vI a1), some (vI a2), some (vI a3), some (vI a4), some (vI a5), some (vI a6), some (vI a7), none, none, none] [] S F30 G31 Q
    refine go_aload_n (show decode cX9_move 149 = .ok (.aload_n 0, 1) by decide +kernel) (by rfl) ?_
    refine go_getRc (show decode cX9_move 150 = .ok (.getfield 20, 3) by decide +kernel) fl_X9_20 rfl (shc_k hsh 1 (by decide) (by decide)) (v := 2) (shc_r hsh 1 1 (by decide) (by decide) (by decide)) ?_
    obtain ⟨z36, p37, h⟩ := h
    refine go_callV (d2 := d - 1) (M2 := MX2_plansTooMany) (n := 0) (ci := 2) (av := []) (st := []) (show decode cX9_move 153 = .ok (.invokevirtual 84, 3) by decide +kernel) ml_X9_84 mt_X2_plansTooMany min_X2_plansTooMany mse_X2_plansTooMany (by decide) (shc_k hsh 2 (by decide) (by decide)) rfl (Nat.le_of_ble_eq_true rfl) (by omega) (ok_mono p37 (fun w32 S33 F34 G35 e9 => ?_))
    obtain ⟨e1, e2, e3, e4⟩ := e9
    subst e1
    replace e2 := e2.symm; subst e2
    replace e3 := e3.symm; subst e3
    replace e4 := e4.symm; subst e4
    show Go d MX9_move 156 [some (vR 1), some (vI a1), some (vI a2), some (vI a3), some (vI a4), some (vI a5), some (vI a6), some (vI a7), none, none, none] [vI z36] S F30 G31 Q
    obtain ⟨ht, hf⟩ := h
    refine go_ifeq (tgt := 163) (show decode cX9_move 156 = .ok (.ifCond .eq 7, 3) by decide +kernel) (by decide) (fun hc => ?_) (fun hc => ?_)
    · have h := ht hc
      refine go_aload_n (show decode cX9_move 163 = .ok (.aload_n 0, 1) by decide +kernel) (by rfl) ?_
      refine go_getRc (show decode cX9_move 164 = .ok (.getfield 20, 3) by decide +kernel) fl_X9_20 rfl (shc_k hsh 1 (by decide) (by decide)) (v := 2) (shc_r hsh 1 1 (by decide) (by decide) (by decide)) ?_
      refine go_iload_n (show decode cX9_move 167 = .ok (.iload_n 1, 1) by decide +kernel) (by rfl) ?_
      refine go_aload_n (show decode cX9_move 168 = .ok (.aload_n 0, 1) by decide +kernel) (by rfl) ?_
      refine go_getRc (show decode cX9_move 169 = .ok (.getfield 38, 3) by decide +kernel) fl_X9_38 rfl (shc_k hsh 1 (by decide) (by decide)) (v := 51) (shc_r hsh 1 4 (by decide) (by decide) (by decide)) ?_
      obtain ⟨z42, p43, h⟩ := h
      refine go_callV (d2 := d - 1) (M2 := MX2_sumOf) (n := 2) (ci := 2) (av := [vI a1, vR 51]) (st := []) (show decode cX9_move 172 = .ok (.invokevirtual 101, 3) by decide +kernel) ml_X9_101 mt_X2_sumOf min_X2_sumOf mse_X2_sumOf (by decide) (shc_k hsh 2 (by decide) (by decide)) rfl (Nat.le_of_ble_eq_true rfl) (by omega) (ok_mono p43 (fun w38 S39 F40 G41 e9 => ?_))
      obtain ⟨e1, e2, e3, e4⟩ := e9
      subst e1
      replace e2 := e2.symm; subst e2
      replace e3 := e3.symm; subst e3
      replace e4 := e4.symm; subst e4
      show Go d MX9_move 175 [some (vR 1), some (vI a1), some (vI a2), some (vI a3), some (vI a4), some (vI a5), some (vI a6), some (vI a7), none, none, none] [vJ z42] S F30 G31 Q
      refine go_lstore (show decode cX9_move 175 = .ok (.lstore 8, 2) by decide +kernel) (by decide) ?_
      show Go d MX9_move 177 [some (vR 1), some (vI a1), some (vI a2), some (vI a3), some (vI a4), some (vI a5), some (vI a6), some (vI a7), some (vJ z42), none, none] [] S F30 G31 Q
      refine go_aload_n (show decode cX9_move 177 = .ok (.aload_n 0, 1) by decide +kernel) (by rfl) ?_
      refine go_getRc (show decode cX9_move 178 = .ok (.getfield 20, 3) by decide +kernel) fl_X9_20 rfl (shc_k hsh 1 (by decide) (by decide)) (v := 2) (shc_r hsh 1 1 (by decide) (by decide) (by decide)) ?_
      refine go_iload_n (show decode cX9_move 181 = .ok (.iload_n 1, 1) by decide +kernel) (by rfl) ?_
      refine go_callV (d2 := d - 1) (M2 := MX2_startTrial) (n := 1) (ci := 2) (av := [vI a1]) (st := []) (show decode cX9_move 182 = .ok (.invokevirtual 90, 3) by decide +kernel) ml_X9_90 mt_X2_startTrial min_X2_startTrial mse_X2_startTrial (by decide) (shc_k hsh 2 (by decide) (by decide)) rfl (Nat.le_of_ble_eq_true rfl) (by omega) (ok_mono h (fun w44 S45 F46 G47 h => ?_))
      obtain ⟨e8, h⟩ := h
      replace e8 := e8.symm; subst e8
      obtain ⟨e9, h⟩ := h
      subst e9
      show Go d MX9_move 185 [some (vR 1), some (vI a1), some (vI a2), some (vI a3), some (vI a4), some (vI a5), some (vI a6), some (vI a7), some (vJ z42), none, none] [] S F46 G47 Q
      refine go_aload_n (show decode cX9_move 185 = .ok (.aload_n 0, 1) by decide +kernel) (by rfl) ?_
      refine go_getRc (show decode cX9_move 186 = .ok (.getfield 20, 3) by decide +kernel) fl_X9_20 rfl (shc_k hsh 1 (by decide) (by decide)) (v := 2) (shc_r hsh 1 1 (by decide) (by decide) (by decide)) ?_
      refine go_iload_n (show decode cX9_move 189 = .ok (.iload_n 2, 1) by decide +kernel) (by rfl) ?_
      refine go_iload_n (show decode cX9_move 190 = .ok (.iload_n 3, 1) by decide +kernel) (by rfl) ?_
      refine go_iload (show decode cX9_move 191 = .ok (.iload 4, 2) by decide +kernel) (by rfl) ?_
      refine go_iload (show decode cX9_move 193 = .ok (.iload 5, 2) by decide +kernel) (by rfl) ?_
      refine go_lconst (n := 0) (show decode cX9_move 195 = .ok (.lconst 0, 1) by decide +kernel) ?_
      show Go d MX9_move 196 [some (vR 1), some (vI a1), some (vI a2), some (vI a3), some (vI a4), some (vI a5), some (vI a6), some (vI a7), some (vJ z42), none, none] [vJ 0, vI a5, vI a4, vI a3, vI a2, vR 2] S F46 G47 Q
      refine go_callV (d2 := d - 1) (M2 := MX2_fill) (n := 5) (ci := 2) (av := [vI a2, vI a3, vI a4, vI a5, vJ 0]) (st := []) (show decode cX9_move 196 = .ok (.invokevirtual 133, 3) by decide +kernel) ml_X9_133 mt_X2_fill min_X2_fill mse_X2_fill (by decide) (shc_k hsh 2 (by decide) (by decide)) rfl (Nat.le_of_ble_eq_true rfl) (by omega) (ok_mono h (fun w48 S49 F50 G51 h => ?_))
      obtain ⟨e8, h⟩ := h
      replace e8 := e8.symm; subst e8
      obtain ⟨e9, h⟩ := h
      subst e9
      show Go d MX9_move 199 [some (vR 1), some (vI a1), some (vI a2), some (vI a3), some (vI a4), some (vI a5), some (vI a6), some (vI a7), some (vJ z42), none, none] [] S F50 G51 Q
      refine go_aload_n (show decode cX9_move 199 = .ok (.aload_n 0, 1) by decide +kernel) (by rfl) ?_
      refine go_getRc (show decode cX9_move 200 = .ok (.getfield 20, 3) by decide +kernel) fl_X9_20 rfl (shc_k hsh 1 (by decide) (by decide)) (v := 2) (shc_r hsh 1 1 (by decide) (by decide) (by decide)) ?_
      refine go_getRc (show decode cX9_move 203 = .ok (.getfield 120, 3) by decide +kernel) fl_X9_120 rfl (shc_k hsh 2 (by decide) (by decide)) (v := 3) (shc_r hsh 2 0 (by decide) (by decide) (by decide)) ?_
      refine go_iload_n (show decode cX9_move 206 = .ok (.iload_n 2, 1) by decide +kernel) (by rfl) ?_
      refine go_iload (show decode cX9_move 207 = .ok (.iload 4, 2) by decide +kernel) (by rfl) ?_
      refine go_iload (show decode cX9_move 209 = .ok (.iload 6, 2) by decide +kernel) (by rfl) ?_
      refine go_callV (d2 := d - 1) (M2 := MX0_traceSources) (n := 3) (ci := 0) (av := [vI a2, vI a4, vI a6]) (st := []) (show decode cX9_move 211 = .ok (.invokevirtual 163, 3) by decide +kernel) ml_X9_163 mt_X0_traceSources min_X0_traceSources mse_X0_traceSources (by decide) (shc_k hsh 3 (by decide) (by decide)) rfl (Nat.le_of_ble_eq_true rfl) (by omega) (ok_mono h (fun w52 S53 F54 G55 h => ?_))
      obtain ⟨e8, h⟩ := h
      replace e8 := e8.symm; subst e8
      obtain ⟨e9, h⟩ := h
      subst e9
      show Go d MX9_move 214 [some (vR 1), some (vI a1), some (vI a2), some (vI a3), some (vI a4), some (vI a5), some (vI a6), some (vI a7), some (vJ z42), none, none] [] S F54 G55 Q
      refine go_aload_n (show decode cX9_move 214 = .ok (.aload_n 0, 1) by decide +kernel) (by rfl) ?_
      refine go_getRc (show decode cX9_move 215 = .ok (.getfield 20, 3) by decide +kernel) fl_X9_20 rfl (shc_k hsh 1 (by decide) (by decide)) (v := 2) (shc_r hsh 1 1 (by decide) (by decide) (by decide)) ?_
      refine go_getRc (show decode cX9_move 218 = .ok (.getfield 130, 3) by decide +kernel) fl_X9_130 rfl (shc_k hsh 2 (by decide) (by decide)) (v := 10) (shc_r hsh 2 1 (by decide) (by decide) (by decide)) ?_
      refine go_iload_n (show decode cX9_move 221 = .ok (.iload_n 3, 1) by decide +kernel) (by rfl) ?_
      refine go_iload (show decode cX9_move 222 = .ok (.iload 5, 2) by decide +kernel) (by rfl) ?_
      refine go_iload (show decode cX9_move 224 = .ok (.iload 7, 2) by decide +kernel) (by rfl) ?_
      refine go_callV (d2 := d - 1) (M2 := MX0_traceSources) (n := 3) (ci := 0) (av := [vI a3, vI a5, vI a7]) (st := []) (show decode cX9_move 226 = .ok (.invokevirtual 163, 3) by decide +kernel) ml_X9_163 mt_X0_traceSources min_X0_traceSources mse_X0_traceSources (by decide) (shc_k hsh 10 (by decide) (by decide)) rfl (Nat.le_of_ble_eq_true rfl) (by omega) (ok_mono h (fun w56 S57 F58 G59 h => ?_))
      obtain ⟨e8, h⟩ := h
      replace e8 := e8.symm; subst e8
      obtain ⟨e9, h⟩ := h
      subst e9
      show Go d MX9_move 229 [some (vR 1), some (vI a1), some (vI a2), some (vI a3), some (vI a4), some (vI a5), some (vI a6), some (vI a7), some (vJ z42), none, none] [] S F58 G59 Q
      refine go_aload_n (show decode cX9_move 229 = .ok (.aload_n 0, 1) by decide +kernel) (by rfl) ?_
      refine go_getRc (show decode cX9_move 230 = .ok (.getfield 20, 3) by decide +kernel) fl_X9_20 rfl (shc_k hsh 1 (by decide) (by decide)) (v := 2) (shc_r hsh 1 1 (by decide) (by decide) (by decide)) ?_
      refine go_iload_n (show decode cX9_move 233 = .ok (.iload_n 1, 1) by decide +kernel) (by rfl) ?_
      refine go_aload_n (show decode cX9_move 234 = .ok (.aload_n 0, 1) by decide +kernel) (by rfl) ?_
      refine go_getRc (show decode cX9_move 235 = .ok (.getfield 42, 3) by decide +kernel) fl_X9_42 rfl (shc_k hsh 1 (by decide) (by decide)) (v := 52) (shc_r hsh 1 5 (by decide) (by decide) (by decide)) ?_
      refine go_callV (d2 := d - 1) (M2 := MX2_bring) (n := 2) (ci := 2) (av := [vI a1, vR 52]) (st := []) (show decode cX9_move 238 = .ok (.invokevirtual 166, 3) by decide +kernel) ml_X9_166 mt_X2_bring min_X2_bring mse_X2_bring (by decide) (shc_k hsh 2 (by decide) (by decide)) rfl (Nat.le_of_ble_eq_true rfl) (by omega) (ok_mono h (fun w60 S61 F62 G63 h => ?_))
      obtain ⟨e8, h⟩ := h
      replace e8 := e8.symm; subst e8
      obtain ⟨e9, h⟩ := h
      subst e9
      show Go d MX9_move 241 [some (vR 1), some (vI a1), some (vI a2), some (vI a3), some (vI a4), some (vI a5), some (vI a6), some (vI a7), some (vJ z42), none, none] [] S F62 G63 Q
      refine go_aload_n (show decode cX9_move 241 = .ok (.aload_n 0, 1) by decide +kernel) (by rfl) ?_
      refine go_getRc (show decode cX9_move 242 = .ok (.getfield 20, 3) by decide +kernel) fl_X9_20 rfl (shc_k hsh 1 (by decide) (by decide)) (v := 2) (shc_r hsh 1 1 (by decide) (by decide) (by decide)) ?_
      refine go_iload_n (show decode cX9_move 245 = .ok (.iload_n 1, 1) by decide +kernel) (by rfl) ?_
      obtain ⟨z68, p69, h⟩ := h
      refine go_callV (d2 := d - 1) (M2 := MX2_trialRefusal) (n := 1) (ci := 2) (av := [vI a1]) (st := []) (show decode cX9_move 246 = .ok (.invokevirtual 170, 3) by decide +kernel) ml_X9_170 mt_X2_trialRefusal min_X2_trialRefusal mse_X2_trialRefusal (by decide) (shc_k hsh 2 (by decide) (by decide)) rfl (Nat.le_of_ble_eq_true rfl) (by omega) (ok_mono p69 (fun w64 S65 F66 G67 e9 => ?_))
      obtain ⟨e1, e2, e3, e4⟩ := e9
      subst e1
      replace e2 := e2.symm; subst e2
      replace e3 := e3.symm; subst e3
      replace e4 := e4.symm; subst e4
      show Go d MX9_move 249 [some (vR 1), some (vI a1), some (vI a2), some (vI a3), some (vI a4), some (vI a5), some (vI a6), some (vI a7), some (vJ z42), none, none] [vI z68] S F62 G63 Q
      refine go_istore (show decode cX9_move 249 = .ok (.istore 10, 2) by decide +kernel) (by decide) ?_
      show Go d MX9_move 251 [some (vR 1), some (vI a1), some (vI a2), some (vI a3), some (vI a4), some (vI a5), some (vI a6), some (vI a7), some (vJ z42), none, some (vI z68)] [] S F62 G63 Q
      refine go_iload (show decode cX9_move 251 = .ok (.iload 10, 2) by decide +kernel) (by rfl) ?_
      obtain ⟨ht, hf⟩ := h
      refine go_ifeq (tgt := 260) (show decode cX9_move 253 = .ok (.ifCond .eq 7, 3) by decide +kernel) (by decide) (fun hc => ?_) (fun hc => ?_)
      · have h := ht hc
        refine go_aload_n (show decode cX9_move 260 = .ok (.aload_n 0, 1) by decide +kernel) (by rfl) ?_
        refine go_iconst (show decode cX9_move 261 = .ok (.iconst 2, 1) by decide +kernel) (by decide) ?_
        refine go_iload_n (show decode cX9_move 262 = .ok (.iload_n 1, 1) by decide +kernel) (by rfl) ?_
        refine go_ldc2 (show decode cX9_move 263 = .ok (.ldc2_w 174, 3) by decide +kernel) lc_X9_174 (by decide) ?_
        refine go_iload (show decode cX9_move 266 = .ok (.iload 6, 2) by decide +kernel) (by rfl) ?_
        refine go_i2l (show decode cX9_move 268 = .ok (.i2l, 1) by decide +kernel) ?_
        obtain ⟨q70, h⟩ := h
        refine go_lmul (show decode cX9_move 269 = .ok (.lmul, 1) by decide +kernel) q70 ?_
        refine go_iload (show decode cX9_move 270 = .ok (.iload 7, 2) by decide +kernel) (by rfl) ?_
        refine go_i2l (show decode cX9_move 272 = .ok (.i2l, 1) by decide +kernel) ?_
        obtain ⟨q71, h⟩ := h
        refine go_ladd (show decode cX9_move 273 = .ok (.ladd, 1) by decide +kernel) q71 ?_
        refine go_callV (d2 := d - 1) (M2 := MX9_keep) (n := 3) (ci := 9) (av := [vI 2, vI a1, vJ ((100000 * a6) + a7)]) (st := []) (show decode cX9_move 274 = .ok (.invokevirtual 98, 3) by decide +kernel) ml_X9_98 mt_X9_keep min_X9_keep mse_X9_keep (by decide) (shc_k hsh 1 (by decide) (by decide)) rfl (Nat.le_of_ble_eq_true rfl) (by omega) (ok_mono h (fun w72 S73 F74 G75 h => ?_))
        obtain ⟨e8, h⟩ := h
        replace e8 := e8.symm; subst e8
        obtain ⟨e9, h⟩ := h
        subst e9
        show Go d MX9_move 277 [some (vR 1), some (vI a1), some (vI a2), some (vI a3), some (vI a4), some (vI a5), some (vI a6), some (vI a7), some (vJ z42), none, some (vI z68)] [] S F74 G75 Q
        refine go_lload (show decode cX9_move 277 = .ok (.lload 8, 2) by decide +kernel) (by rfl) ?_
        exact go_lret (show decode cX9_move 279 = .ok (.lreturn, 1) by decide +kernel) rfl h
      · have h := hf hc
        refine go_iload (show decode cX9_move 256 = .ok (.iload 10, 2) by decide +kernel) (by rfl) ?_
        refine go_i2l (show decode cX9_move 258 = .ok (.i2l, 1) by decide +kernel) ?_
        exact go_lret (show decode cX9_move 259 = .ok (.lreturn, 1) by decide +kernel) rfl h
    · have h := hf hc
      refine go_ldc2 (show decode cX9_move 159 = .ok (.ldc2_w 88, 3) by decide +kernel) lc_X9_88 (by decide) ?_
      exact go_lret (show decode cX9_move 162 = .ok (.lreturn, 1) by decide +kernel) rfl h
  · have h := hf hc
    refine go_ldc2 (show decode cX9_move 93 = .ok (.ldc2_w 72, 3) by decide +kernel) lc_X9_72 (by decide) ?_
    exact go_lret (show decode cX9_move 96 = .ok (.lreturn, 1) by decide +kernel) rfl h
def V_X9_move_0 (d : Nat) (S : AS) (F : AF) (G : AG) (Q : AQ) (a1 : Int) (a2 : Int) (a3 : Int) (a4 : Int) (a5 : Int) (a6 : Int) (a7 : Int) : Prop :=
  (1 ≤ d) ∧
  ∃ z6 : Int, Pu (d - 1) MX9_isGood [vI a1] S F G (some (vI z6)) ∧
  ((z6 = 0) →
    Q (some (vJ (-2))) S F G) ∧
  ((¬ z6 = 0) →
    Ok (d - 1) MX9_ask [vR 1, vI a2, vI a3, vI a4, vI a5] S F G (fun w8 S9 F10 G11 =>
    S9 = S ∧
    ∃ z12 : Int, w8 = some (vI z12) ∧
    ((¬ z12 = 0) →
      ∃ z17 : Int, Pu (d - 1) MX9_isShift [vI a6] S F10 G11 (some (vI z17)) ∧
      ((z17 = 0) →
        Q (some (vJ (-3))) S F10 G11) ∧
      ((¬ z17 = 0) →
        ∃ z23 : Int, Pu (d - 1) MX9_isShift [vI a7] S F10 G11 (some (vI z23)) ∧
        ((z23 = 0) →
          Q (some (vJ (-3))) S F10 G11) ∧
        ((¬ z23 = 0) →
          ((¬ a6 = 0) →
            V_X9_move_54 d S F10 G11 Q a1 a2 a3 a4 a5 a6 a7) ∧
          ((a6 = 0) →
            ((¬ a7 = 0) →
              V_X9_move_54 d S F10 G11 Q a1 a2 a3 a4 a5 a6 a7) ∧
            ((a7 = 0) →
              Q (some (vJ (-3))) S F10 G11))))) ∧
    ((z12 = 0) →
      Q (some (vJ (-2))) S F10 G11)))
theorem R_X9_move_0 {d : Nat} {S : AS} {F : AF} {G : AG} {Q : AQ} {a1 : Int} {a2 : Int} {a3 : Int} {a4 : Int} {a5 : Int} {a6 : Int} {a7 : Int} (hsh : ShC S) (h : V_X9_move_0 d S F G Q a1 a2 a3 a4 a5 a6 a7) : Go d MX9_move 0 [some (vR 1), some (vI a1), some (vI a2), some (vI a3), some (vI a4), some (vI a5), some (vI a6), some (vI a7), none, none, none] [] S F G Q := by
  unfold V_X9_move_0 at h
  refine go_iload_n (show decode cX9_move 0 = .ok (.iload_n 1, 1) by decide +kernel) (by rfl) ?_
  obtain ⟨q1, h⟩ := h
  obtain ⟨z6, p7, h⟩ := h
  refine go_callS (d2 := d - 1) (M2 := MX9_isGood) (n := 1) (av := [vI a1]) (st := []) (show decode cX9_move 1 = .ok (.invokestatic 64, 3) by decide +kernel) ml_X9_64 mt_X9_isGood mst_X9_isGood rfl (Nat.le_of_ble_eq_true rfl) (by omega) (ok_mono p7 (fun w2 S3 F4 G5 e9 => ?_))
  obtain ⟨e1, e2, e3, e4⟩ := e9
  subst e1
  replace e2 := e2.symm; subst e2
  replace e3 := e3.symm; subst e3
  replace e4 := e4.symm; subst e4
  show Go d MX9_move 4 [some (vR 1), some (vI a1), some (vI a2), some (vI a3), some (vI a4), some (vI a5), some (vI a6), some (vI a7), none, none, none] [vI z6] S F G Q
  obtain ⟨ht, hf⟩ := h
  refine go_ifeq (tgt := 20) (show decode cX9_move 4 = .ok (.ifCond .eq 16, 3) by decide +kernel) (by decide) (fun hc => ?_) (fun hc => ?_)
  · have h := ht hc
    refine go_ldc2 (show decode cX9_move 20 = .ok (.ldc2_w 72, 3) by decide +kernel) lc_X9_72 (by decide) ?_
    exact go_lret (show decode cX9_move 23 = .ok (.lreturn, 1) by decide +kernel) rfl h
  · have h := hf hc
    refine go_aload_n (show decode cX9_move 7 = .ok (.aload_n 0, 1) by decide +kernel) (by rfl) ?_
    refine go_iload_n (show decode cX9_move 8 = .ok (.iload_n 2, 1) by decide +kernel) (by rfl) ?_
    refine go_iload_n (show decode cX9_move 9 = .ok (.iload_n 3, 1) by decide +kernel) (by rfl) ?_
    refine go_iload (show decode cX9_move 10 = .ok (.iload 4, 2) by decide +kernel) (by rfl) ?_
    refine go_iload (show decode cX9_move 12 = .ok (.iload 5, 2) by decide +kernel) (by rfl) ?_
    refine go_callV (d2 := d - 1) (M2 := MX9_ask) (n := 4) (ci := 9) (av := [vI a2, vI a3, vI a4, vI a5]) (st := []) (show decode cX9_move 14 = .ok (.invokevirtual 68, 3) by decide +kernel) ml_X9_68 mt_X9_ask min_X9_ask mse_X9_ask (by decide) (shc_k hsh 1 (by decide) (by decide)) rfl (Nat.le_of_ble_eq_true rfl) (by omega) (ok_mono h (fun w8 S9 F10 G11 h => ?_))
    obtain ⟨e8, h⟩ := h
    replace e8 := e8.symm; subst e8
    obtain ⟨z12, e9, h⟩ := h
    subst e9
    show Go d MX9_move 17 [some (vR 1), some (vI a1), some (vI a2), some (vI a3), some (vI a4), some (vI a5), some (vI a6), some (vI a7), none, none, none] [vI z12] S F10 G11 Q
    obtain ⟨ht, hf⟩ := h
    refine go_ifne (tgt := 24) (show decode cX9_move 17 = .ok (.ifCond .ne 7, 3) by decide +kernel) (by decide) (fun hc => ?_) (fun hc => ?_)
    · have h := ht hc
      refine go_iload (show decode cX9_move 24 = .ok (.iload 6, 2) by decide +kernel) (by rfl) ?_
      obtain ⟨z17, p18, h⟩ := h
      refine go_callS (d2 := d - 1) (M2 := MX9_isShift) (n := 1) (av := [vI a6]) (st := []) (show decode cX9_move 26 = .ok (.invokestatic 145, 3) by decide +kernel) ml_X9_145 mt_X9_isShift mst_X9_isShift rfl (Nat.le_of_ble_eq_true rfl) (by omega) (ok_mono p18 (fun w13 S14 F15 G16 e9 => ?_))
      obtain ⟨e1, e2, e3, e4⟩ := e9
      subst e1
      replace e2 := e2.symm; subst e2
      replace e3 := e3.symm; subst e3
      replace e4 := e4.symm; subst e4
      show Go d MX9_move 29 [some (vR 1), some (vI a1), some (vI a2), some (vI a3), some (vI a4), some (vI a5), some (vI a6), some (vI a7), none, none, none] [vI z17] S F10 G11 Q
      obtain ⟨ht, hf⟩ := h
      refine go_ifeq (tgt := 50) (show decode cX9_move 29 = .ok (.ifCond .eq 21, 3) by decide +kernel) (by decide) (fun hc => ?_) (fun hc => ?_)
      · have h := ht hc
        refine go_ldc2 (show decode cX9_move 50 = .ok (.ldc2_w 53, 3) by decide +kernel) lc_X9_53 (by decide) ?_
        exact go_lret (show decode cX9_move 53 = .ok (.lreturn, 1) by decide +kernel) rfl h
      · have h := hf hc
        refine go_iload (show decode cX9_move 32 = .ok (.iload 7, 2) by decide +kernel) (by rfl) ?_
        obtain ⟨z23, p24, h⟩ := h
        refine go_callS (d2 := d - 1) (M2 := MX9_isShift) (n := 1) (av := [vI a7]) (st := []) (show decode cX9_move 34 = .ok (.invokestatic 145, 3) by decide +kernel) ml_X9_145 mt_X9_isShift mst_X9_isShift rfl (Nat.le_of_ble_eq_true rfl) (by omega) (ok_mono p24 (fun w19 S20 F21 G22 e9 => ?_))
        obtain ⟨e1, e2, e3, e4⟩ := e9
        subst e1
        replace e2 := e2.symm; subst e2
        replace e3 := e3.symm; subst e3
        replace e4 := e4.symm; subst e4
        show Go d MX9_move 37 [some (vR 1), some (vI a1), some (vI a2), some (vI a3), some (vI a4), some (vI a5), some (vI a6), some (vI a7), none, none, none] [vI z23] S F10 G11 Q
        obtain ⟨ht, hf⟩ := h
        refine go_ifeq (tgt := 50) (show decode cX9_move 37 = .ok (.ifCond .eq 13, 3) by decide +kernel) (by decide) (fun hc => ?_) (fun hc => ?_)
        · have h := ht hc
          refine go_ldc2 (show decode cX9_move 50 = .ok (.ldc2_w 53, 3) by decide +kernel) lc_X9_53 (by decide) ?_
          exact go_lret (show decode cX9_move 53 = .ok (.lreturn, 1) by decide +kernel) rfl h
        · have h := hf hc
          refine go_iload (show decode cX9_move 40 = .ok (.iload 6, 2) by decide +kernel) (by rfl) ?_
          obtain ⟨ht, hf⟩ := h
          refine go_ifne (tgt := 54) (show decode cX9_move 42 = .ok (.ifCond .ne 12, 3) by decide +kernel) (by decide) (fun hc => ?_) (fun hc => ?_)
          · have h := ht hc
            exact R_X9_move_54 hsh h
          · have h := hf hc
            refine go_iload (show decode cX9_move 45 = .ok (.iload 7, 2) by decide +kernel) (by rfl) ?_
            obtain ⟨ht, hf⟩ := h
            refine go_ifne (tgt := 54) (show decode cX9_move 47 = .ok (.ifCond .ne 7, 3) by decide +kernel) (by decide) (fun hc => ?_) (fun hc => ?_)
            · have h := ht hc
              exact R_X9_move_54 hsh h
            · have h := hf hc
              refine go_ldc2 (show decode cX9_move 50 = .ok (.ldc2_w 53, 3) by decide +kernel) lc_X9_53 (by decide) ?_
              exact go_lret (show decode cX9_move 53 = .ok (.lreturn, 1) by decide +kernel) rfl h
    · have h := hf hc
      refine go_ldc2 (show decode cX9_move 20 = .ok (.ldc2_w 72, 3) by decide +kernel) lc_X9_72 (by decide) ?_
      exact go_lret (show decode cX9_move 23 = .ok (.lreturn, 1) by decide +kernel) rfl h
def V_X9_isShift_0 (d : Nat) (S : AS) (F : AF) (G : AG) (Q : AQ) (a0 : Int) : Prop :=
  ((a0 < -9999) →
    Q (some (vI 0)) S F G) ∧
  ((¬ a0 < -9999) →
    ((9999 < a0) →
      Q (some (vI 0)) S F G) ∧
    ((¬ 9999 < a0) →
      Q (some (vI 1)) S F G))
theorem R_X9_isShift_0 {d : Nat} {S : AS} {F : AF} {G : AG} {Q : AQ} {a0 : Int} (hsh : ShC S) (h : V_X9_isShift_0 d S F G Q a0) : Go d MX9_isShift 0 [some (vI a0)] [] S F G Q := by
  unfold V_X9_isShift_0 at h
  refine go_iload_n (show decode cX9_isShift 0 = .ok (.iload_n 0, 1) by decide +kernel) (by rfl) ?_
  refine go_sipush (show decode cX9_isShift 1 = .ok (.sipush (-9999), 3) by decide +kernel) (by decide) ?_
  obtain ⟨ht, hf⟩ := h
  refine go_icmplt (tgt := 18) (show decode cX9_isShift 4 = .ok (.if_icmp .lt 14, 3) by decide +kernel) (by decide) (fun hc => ?_) (fun hc => ?_)
  · have h := ht hc
    refine go_iconst (show decode cX9_isShift 18 = .ok (.iconst 0, 1) by decide +kernel) (by decide) ?_
    exact go_zret (show decode cX9_isShift 19 = .ok (.ireturn, 1) by decide +kernel) rfl (by decide) h
  · have h := hf hc
    refine go_iload_n (show decode cX9_isShift 7 = .ok (.iload_n 0, 1) by decide +kernel) (by rfl) ?_
    refine go_sipush (show decode cX9_isShift 8 = .ok (.sipush 9999, 3) by decide +kernel) (by decide) ?_
    obtain ⟨ht, hf⟩ := h
    refine go_icmpgt (tgt := 18) (show decode cX9_isShift 11 = .ok (.if_icmp .gt 7, 3) by decide +kernel) (by decide) (fun hc => ?_) (fun hc => ?_)
    · have h := ht hc
      refine go_iconst (show decode cX9_isShift 18 = .ok (.iconst 0, 1) by decide +kernel) (by decide) ?_
      exact go_zret (show decode cX9_isShift 19 = .ok (.ireturn, 1) by decide +kernel) rfl (by decide) h
    · have h := hf hc
      refine go_iconst (show decode cX9_isShift 14 = .ok (.iconst 1, 1) by decide +kernel) (by decide) ?_
      refine go_goto (tgt := 19) (show decode cX9_isShift 15 = .ok (.goto 4, 3) by decide +kernel) (by decide) ?_
      exact go_zret (show decode cX9_isShift 19 = .ok (.ireturn, 1) by decide +kernel) rfl (by decide) h
