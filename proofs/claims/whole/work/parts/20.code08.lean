def V_X10_level_584 (d : Nat) (S : AS) (F : AF) (G : AG) (Q : AQ) (a1 : Int) (a2 : Int) (a3 : Int) (a4 : Int) (a5 : Int) (a6 : Int) (a8 : Int) (a10 : Int) (a12 : Int) (a14 : Int) (a15 : Int) (a16 : Int) (a17 : Int) (a18 : Int) (a19 : Int) : Prop :=
  (r32 (a17 + 1)) ∧
  Go d MX10_level 497 [some (vR 53), some (vI a1), some (vI a2), some (vI a3), some (vI a4), some (vI a5), some (vJ a6), none, some (vJ a8), none, some (vJ a10), none, some (vJ a12), none, some (vI a14), some (vI a15), some (vI a16), some (vI (a17 + 1)), none, none] [] S F G Q
theorem R_X10_level_584 {d : Nat} {S : AS} {F : AF} {G : AG} {Q : AQ} {a1 : Int} {a2 : Int} {a3 : Int} {a4 : Int} {a5 : Int} {a6 : Int} {a8 : Int} {a10 : Int} {a12 : Int} {a14 : Int} {a15 : Int} {a16 : Int} {a17 : Int} {a18 : Int} {a19 : Int} (hsm : ShM S) (h : V_X10_level_584 d S F G Q a1 a2 a3 a4 a5 a6 a8 a10 a12 a14 a15 a16 a17 a18 a19) : Go d MX10_level 584 [some (vR 53), some (vI a1), some (vI a2), some (vI a3), some (vI a4), some (vI a5), some (vJ a6), none, some (vJ a8), none, some (vJ a10), none, some (vJ a12), none, some (vI a14), some (vI a15), some (vI a16), some (vI a17), some (vI a18), some (vI a19)] [] S F G Q := by
  unfold V_X10_level_584 at h
  obtain ⟨q1, h⟩ := h
  refine go_iinc (show decode cX10_level 584 = .ok (.iinc 17 1, 3) by decide +kernel) (by rfl) q1 (by decide) ?_
  show Go d MX10_level 587 [some (vR 53), some (vI a1), some (vI a2), some (vI a3), some (vI a4), some (vI a5), some (vJ a6), none, some (vJ a8), none, some (vJ a10), none, some (vJ a12), none, some (vI a14), some (vI a15), some (vI a16), some (vI (a17 + 1)), some (vI a18), some (vI a19)] [] S F G Q
  refine go_goto (tgt := 497) (show decode cX10_level 587 = .ok (.goto (-90), 3) by decide +kernel) (by decide) ?_
  refine go_clr 18 ?_
  refine go_clr 19 ?_
  exact h
def V_X10_level_582 (d : Nat) (S : AS) (F : AF) (G : AG) (Q : AQ) (a1 : Int) (a2 : Int) (a3 : Int) (a4 : Int) (a5 : Int) (a6 : Int) (a8 : Int) (a10 : Int) (a12 : Int) (a14 : Int) (a15 : Int) (a16 : Int) (a17 : Int) (a18 : Int) (a19 : Int) (s0 : Int) (s1 : Int) (s2 : Int) (s3 : Nat) : Prop :=
  (r64 (s1 + s0)) ∧
  ((0 : Int) ≤ s2) ∧
  ((s2 : Int) < (sN S s3 : Int)) ∧
  ∀ G4 : AG, G4 = gu G s3 s2 (s1 + s0) →
  V_X10_level_584 d S F G4 Q a1 a2 a3 a4 a5 a6 a8 a10 a12 a14 a15 a16 a17 a18 a19
theorem R_X10_level_582 {d : Nat} {S : AS} {F : AF} {G : AG} {Q : AQ} {a1 : Int} {a2 : Int} {a3 : Int} {a4 : Int} {a5 : Int} {a6 : Int} {a8 : Int} {a10 : Int} {a12 : Int} {a14 : Int} {a15 : Int} {a16 : Int} {a17 : Int} {a18 : Int} {a19 : Int} {s0 : Int} {s1 : Int} {s2 : Int} {s3 : Nat} (hsm : ShM S) (hs3 : AtJ S s3) (h : V_X10_level_582 d S F G Q a1 a2 a3 a4 a5 a6 a8 a10 a12 a14 a15 a16 a17 a18 a19 s0 s1 s2 s3) : Go d MX10_level 582 [some (vR 53), some (vI a1), some (vI a2), some (vI a3), some (vI a4), some (vI a5), some (vJ a6), none, some (vJ a8), none, some (vJ a10), none, some (vJ a12), none, some (vI a14), some (vI a15), some (vI a16), some (vI a17), some (vI a18), some (vI a19)] [vJ s0, vJ s1, vI s2, vR s3] S F G Q := by
  unfold V_X10_level_582 at h
  obtain ⟨q1, h⟩ := h
  refine go_ladd (show decode cX10_level 582 = .ok (.ladd, 1) by decide +kernel) q1 ?_
  obtain ⟨q2, h⟩ := h
  obtain ⟨q3, h⟩ := h
  refine go_lastore (show decode cX10_level 583 = .ok (.lastore, 1) by decide +kernel) hs3 q2 q3  ?_
  obtain ⟨G4, G4e⟩ : ∃ G4 : AG, G4 = gu G s3 s2 (s1 + s0) := ⟨_, rfl⟩
  have h := h G4 G4e
  rw [← G4e]
  exact R_X10_level_584 hsm h
def V_X10_level_581 (d : Nat) (S : AS) (F : AF) (G : AG) (Q : AQ) (a1 : Int) (a2 : Int) (a3 : Int) (a4 : Int) (a5 : Int) (a6 : Int) (a8 : Int) (a10 : Int) (a12 : Int) (a14 : Int) (a15 : Int) (a16 : Int) (a17 : Int) (a18 : Int) (a19 : Int) (s0 : Int) (s1 : Int) (s2 : Nat) : Prop :=
  V_X10_level_582 d S F G Q a1 a2 a3 a4 a5 a6 a8 a10 a12 a14 a15 a16 a17 a18 a19 0 s0 s1 s2
theorem R_X10_level_581 {d : Nat} {S : AS} {F : AF} {G : AG} {Q : AQ} {a1 : Int} {a2 : Int} {a3 : Int} {a4 : Int} {a5 : Int} {a6 : Int} {a8 : Int} {a10 : Int} {a12 : Int} {a14 : Int} {a15 : Int} {a16 : Int} {a17 : Int} {a18 : Int} {a19 : Int} {s0 : Int} {s1 : Int} {s2 : Nat} (hsm : ShM S) (hs2 : AtJ S s2) (h : V_X10_level_581 d S F G Q a1 a2 a3 a4 a5 a6 a8 a10 a12 a14 a15 a16 a17 a18 a19 s0 s1 s2) : Go d MX10_level 581 [some (vR 53), some (vI a1), some (vI a2), some (vI a3), some (vI a4), some (vI a5), some (vJ a6), none, some (vJ a8), none, some (vJ a10), none, some (vJ a12), none, some (vI a14), some (vI a15), some (vI a16), some (vI a17), some (vI a18), some (vI a19)] [vJ s0, vI s1, vR s2] S F G Q := by
  unfold V_X10_level_581 at h
  refine go_lconst (n := 0) (show decode cX10_level 581 = .ok (.lconst 0, 1) by decide +kernel) ?_
  show Go d MX10_level 582 [some (vR 53), some (vI a1), some (vI a2), some (vI a3), some (vI a4), some (vI a5), some (vJ a6), none, some (vJ a8), none, some (vJ a10), none, some (vJ a12), none, some (vI a14), some (vI a15), some (vI a16), some (vI a17), some (vI a18), some (vI a19)] [vJ 0, vJ s0, vI s1, vR s2] S F G Q
  exact R_X10_level_582 hsm hs2 h
def V_X10_level_577 (d : Nat) (S : AS) (F : AF) (G : AG) (Q : AQ) (a1 : Int) (a2 : Int) (a3 : Int) (a4 : Int) (a5 : Int) (a6 : Int) (a8 : Int) (a10 : Int) (a12 : Int) (a14 : Int) (a15 : Int) (a16 : Int) (a17 : Int) (a18 : Int) (a19 : Int) (s0 : Int) (s1 : Int) (s2 : Nat) : Prop :=
  V_X10_level_582 d S F G Q a1 a2 a3 a4 a5 a6 a8 a10 a12 a14 a15 a16 a17 a18 a19 1 s0 s1 s2
theorem R_X10_level_577 {d : Nat} {S : AS} {F : AF} {G : AG} {Q : AQ} {a1 : Int} {a2 : Int} {a3 : Int} {a4 : Int} {a5 : Int} {a6 : Int} {a8 : Int} {a10 : Int} {a12 : Int} {a14 : Int} {a15 : Int} {a16 : Int} {a17 : Int} {a18 : Int} {a19 : Int} {s0 : Int} {s1 : Int} {s2 : Nat} (hsm : ShM S) (hs2 : AtJ S s2) (h : V_X10_level_577 d S F G Q a1 a2 a3 a4 a5 a6 a8 a10 a12 a14 a15 a16 a17 a18 a19 s0 s1 s2) : Go d MX10_level 577 [some (vR 53), some (vI a1), some (vI a2), some (vI a3), some (vI a4), some (vI a5), some (vJ a6), none, some (vJ a8), none, some (vJ a10), none, some (vJ a12), none, some (vI a14), some (vI a15), some (vI a16), some (vI a17), some (vI a18), some (vI a19)] [vJ s0, vI s1, vR s2] S F G Q := by
  unfold V_X10_level_577 at h
  refine go_lconst (n := 1) (show decode cX10_level 577 = .ok (.lconst 1, 1) by decide +kernel) ?_
  show Go d MX10_level 578 [some (vR 53), some (vI a1), some (vI a2), some (vI a3), some (vI a4), some (vI a5), some (vJ a6), none, some (vJ a8), none, some (vJ a10), none, some (vJ a12), none, some (vI a14), some (vI a15), some (vI a16), some (vI a17), some (vI a18), some (vI a19)] [vJ 1, vJ s0, vI s1, vR s2] S F G Q
  refine go_goto (tgt := 582) (show decode cX10_level 578 = .ok (.goto 4, 3) by decide +kernel) (by decide) ?_
  exact R_X10_level_582 hsm hs2 h
def V_X10_level_497 (d : Nat) (S : AS) (F : AF) (G : AG) (Q : AQ) (a1 : Int) (a2 : Int) (a3 : Int) (a4 : Int) (a5 : Int) (a6 : Int) (a8 : Int) (a10 : Int) (a12 : Int) (a14 : Int) (a15 : Int) (a16 : Int) (a17 : Int) : Prop :=
  ((G 55 1 ≤ a17) →
    (r32 (a16 + 1)) ∧
    Go d MX10_level 483 [some (vR 53), some (vI a1), some (vI a2), some (vI a3), some (vI a4), some (vI a5), some (vJ a6), none, some (vJ a8), none, some (vJ a10), none, some (vJ a12), none, some (vI a14), some (vI a15), some (vI (a16 + 1)), none, none, none] [] S F G Q) ∧
  ((¬ G 55 1 ≤ a17) →
    (1 ≤ d) ∧
    ∃ z7 : Int, Pu (d - 1) MX10_edgeAt [vR 53, vI 0, vI a16] S F G (some (vI z7)) ∧
    ∃ z13 : Int, Pu (d - 1) MX10_edgeAt [vR 53, vI 1, vI a17] S F G (some (vI z13)) ∧
    ∃ z19 : Int, Pu (d - 1) MX10_isInside [vI z7, vI z13, vI a2, vI a3, vI a4, vI a5] S F G (some (vI z19)) ∧
    ((z19 = 0) →
      V_X10_level_584 d S F G Q a1 a2 a3 a4 a5 a6 a8 a10 a12 a14 a15 a16 a17 z7 z13) ∧
    ((¬ z19 = 0) →
      ∃ z25 : Int, Pu (d - 1) MX10_slot [vI a1, vI a16, vI a17] S F G (some (vI z25)) ∧
      ((z13 < a15) →
        V_X10_level_577 d S F G Q a1 a2 a3 a4 a5 a6 a8 a10 a12 a14 a15 a16 a17 z7 z13 a10 z25 57) ∧
      ((¬ z13 < a15) →
        ((¬ z13 = a15) →
          V_X10_level_581 d S F G Q a1 a2 a3 a4 a5 a6 a8 a10 a12 a14 a15 a16 a17 z7 z13 a10 z25 57) ∧
        ((z13 = a15) →
          ((a14 < z7) →
            V_X10_level_581 d S F G Q a1 a2 a3 a4 a5 a6 a8 a10 a12 a14 a15 a16 a17 z7 z13 a10 z25 57) ∧
          ((¬ a14 < z7) →
            V_X10_level_577 d S F G Q a1 a2 a3 a4 a5 a6 a8 a10 a12 a14 a15 a16 a17 z7 z13 a10 z25 57)))))
theorem R_X10_level_497 {d : Nat} {S : AS} {F : AF} {G : AG} {Q : AQ} {a1 : Int} {a2 : Int} {a3 : Int} {a4 : Int} {a5 : Int} {a6 : Int} {a8 : Int} {a10 : Int} {a12 : Int} {a14 : Int} {a15 : Int} {a16 : Int} {a17 : Int} (hsm : ShM S) (h : V_X10_level_497 d S F G Q a1 a2 a3 a4 a5 a6 a8 a10 a12 a14 a15 a16 a17) : Go d MX10_level 497 [some (vR 53), some (vI a1), some (vI a2), some (vI a3), some (vI a4), some (vI a5), some (vJ a6), none, some (vJ a8), none, some (vJ a10), none, some (vJ a12), none, some (vI a14), some (vI a15), some (vI a16), some (vI a17), none, none] [] S F G Q := by
  unfold V_X10_level_497 at h
  refine go_iload (show decode cX10_level 497 = .ok (.iload 17, 2) by decide +kernel) (by rfl) ?_
  refine go_aload_n (show decode cX10_level 499 = .ok (.aload_n 0, 1) by decide +kernel) (by rfl) ?_
  refine go_getRc (show decode cX10_level 500 = .ok (.getfield 29, 3) by decide +kernel) fl_X10_29 rfl (shm_k hsm 53 (by decide) (by decide)) (v := 55) (shm_r hsm 53 5 (by decide) (by decide)) ?_
  refine go_iconst (show decode cX10_level 503 = .ok (.iconst 1, 1) by decide +kernel) (by decide) ?_
  refine go_iaload (show decode cX10_level 504 = .ok (.iaload, 1) by decide +kernel) (shm_k hsm 55 (by decide) (by decide)) (by decide) (lt_n (m := 2) (by decide) (shm_n hsm 55 (by decide) (by decide))) ?_
  obtain ⟨ht, hf⟩ := h
  refine go_icmpge (tgt := 590) (show decode cX10_level 505 = .ok (.if_icmp .ge 85, 3) by decide +kernel) (by decide) (fun hc => ?_) (fun hc => ?_)
  · have h := ht hc
    obtain ⟨q1, h⟩ := h
    refine go_iinc (show decode cX10_level 590 = .ok (.iinc 16 1, 3) by decide +kernel) (by rfl) q1 (by decide) ?_
    show Go d MX10_level 593 [some (vR 53), some (vI a1), some (vI a2), some (vI a3), some (vI a4), some (vI a5), some (vJ a6), none, some (vJ a8), none, some (vJ a10), none, some (vJ a12), none, some (vI a14), some (vI a15), some (vI (a16 + 1)), some (vI a17), none, none] [] S F G Q
    refine go_goto (tgt := 483) (show decode cX10_level 593 = .ok (.goto (-110), 3) by decide +kernel) (by decide) ?_
    refine go_clr 17 ?_
    exact h
  · have h := hf hc
    refine go_aload_n (show decode cX10_level 508 = .ok (.aload_n 0, 1) by decide +kernel) (by rfl) ?_
    refine go_iconst (show decode cX10_level 509 = .ok (.iconst 0, 1) by decide +kernel) (by decide) ?_
    refine go_iload (show decode cX10_level 510 = .ok (.iload 16, 2) by decide +kernel) (by rfl) ?_
    obtain ⟨q2, h⟩ := h
    obtain ⟨z7, p8, h⟩ := h
    refine go_callV (d2 := d - 1) (M2 := MX10_edgeAt) (n := 2) (ci := 10) (av := [vI 0, vI a16]) (st := []) (show decode cX10_level 512 = .ok (.invokevirtual 126, 3) by decide +kernel) ml_X10_126 mt_X10_edgeAt min_X10_edgeAt mse_X10_edgeAt (by decide) (shm_k hsm 53 (by decide) (by decide)) rfl (Nat.le_of_ble_eq_true rfl) (by omega) (ok_mono p8 (fun w3 S4 F5 G6 e9 => ?_))
    obtain ⟨e1, e2, e3, e4⟩ := e9
    subst e1
    replace e2 := e2.symm; subst e2
    replace e3 := e3.symm; subst e3
    replace e4 := e4.symm; subst e4
    show Go d MX10_level 515 [some (vR 53), some (vI a1), some (vI a2), some (vI a3), some (vI a4), some (vI a5), some (vJ a6), none, some (vJ a8), none, some (vJ a10), none, some (vJ a12), none, some (vI a14), some (vI a15), some (vI a16), some (vI a17), none, none] [vI z7] S F G Q
    refine go_istore (show decode cX10_level 515 = .ok (.istore 18, 2) by decide +kernel) (by decide) ?_
    show Go d MX10_level 517 [some (vR 53), some (vI a1), some (vI a2), some (vI a3), some (vI a4), some (vI a5), some (vJ a6), none, some (vJ a8), none, some (vJ a10), none, some (vJ a12), none, some (vI a14), some (vI a15), some (vI a16), some (vI a17), some (vI z7), none] [] S F G Q
    refine go_aload_n (show decode cX10_level 517 = .ok (.aload_n 0, 1) by decide +kernel) (by rfl) ?_
    refine go_iconst (show decode cX10_level 518 = .ok (.iconst 1, 1) by decide +kernel) (by decide) ?_
    refine go_iload (show decode cX10_level 519 = .ok (.iload 17, 2) by decide +kernel) (by rfl) ?_
    obtain ⟨z13, p14, h⟩ := h
    refine go_callV (d2 := d - 1) (M2 := MX10_edgeAt) (n := 2) (ci := 10) (av := [vI 1, vI a17]) (st := []) (show decode cX10_level 521 = .ok (.invokevirtual 126, 3) by decide +kernel) ml_X10_126 mt_X10_edgeAt min_X10_edgeAt mse_X10_edgeAt (by decide) (shm_k hsm 53 (by decide) (by decide)) rfl (Nat.le_of_ble_eq_true rfl) (by omega) (ok_mono p14 (fun w9 S10 F11 G12 e9 => ?_))
    obtain ⟨e1, e2, e3, e4⟩ := e9
    subst e1
    replace e2 := e2.symm; subst e2
    replace e3 := e3.symm; subst e3
    replace e4 := e4.symm; subst e4
    show Go d MX10_level 524 [some (vR 53), some (vI a1), some (vI a2), some (vI a3), some (vI a4), some (vI a5), some (vJ a6), none, some (vJ a8), none, some (vJ a10), none, some (vJ a12), none, some (vI a14), some (vI a15), some (vI a16), some (vI a17), some (vI z7), none] [vI z13] S F G Q
    refine go_istore (show decode cX10_level 524 = .ok (.istore 19, 2) by decide +kernel) (by decide) ?_
    show Go d MX10_level 526 [some (vR 53), some (vI a1), some (vI a2), some (vI a3), some (vI a4), some (vI a5), some (vJ a6), none, some (vJ a8), none, some (vJ a10), none, some (vJ a12), none, some (vI a14), some (vI a15), some (vI a16), some (vI a17), some (vI z7), some (vI z13)] [] S F G Q
    refine go_iload (show decode cX10_level 526 = .ok (.iload 18, 2) by decide +kernel) (by rfl) ?_
    refine go_iload (show decode cX10_level 528 = .ok (.iload 19, 2) by decide +kernel) (by rfl) ?_
    refine go_iload_n (show decode cX10_level 530 = .ok (.iload_n 2, 1) by decide +kernel) (by rfl) ?_
    refine go_iload_n (show decode cX10_level 531 = .ok (.iload_n 3, 1) by decide +kernel) (by rfl) ?_
    refine go_iload (show decode cX10_level 532 = .ok (.iload 4, 2) by decide +kernel) (by rfl) ?_
    refine go_iload (show decode cX10_level 534 = .ok (.iload 5, 2) by decide +kernel) (by rfl) ?_
    obtain ⟨z19, p20, h⟩ := h
    refine go_callS (d2 := d - 1) (M2 := MX10_isInside) (n := 6) (av := [vI z7, vI z13, vI a2, vI a3, vI a4, vI a5]) (st := []) (show decode cX10_level 536 = .ok (.invokestatic 289, 3) by decide +kernel) ml_X10_289 mt_X10_isInside mst_X10_isInside rfl (Nat.le_of_ble_eq_true rfl) (by omega) (ok_mono p20 (fun w15 S16 F17 G18 e9 => ?_))
    obtain ⟨e1, e2, e3, e4⟩ := e9
    subst e1
    replace e2 := e2.symm; subst e2
    replace e3 := e3.symm; subst e3
    replace e4 := e4.symm; subst e4
    show Go d MX10_level 539 [some (vR 53), some (vI a1), some (vI a2), some (vI a3), some (vI a4), some (vI a5), some (vJ a6), none, some (vJ a8), none, some (vJ a10), none, some (vJ a12), none, some (vI a14), some (vI a15), some (vI a16), some (vI a17), some (vI z7), some (vI z13)] [vI z19] S F G Q
    obtain ⟨ht, hf⟩ := h
    refine go_ifeq (tgt := 584) (show decode cX10_level 539 = .ok (.ifCond .eq 45, 3) by decide +kernel) (by decide) (fun hc => ?_) (fun hc => ?_)
    · have h := ht hc
      exact R_X10_level_584 hsm h
    · have h := hf hc
      refine go_aload_n (show decode cX10_level 542 = .ok (.aload_n 0, 1) by decide +kernel) (by rfl) ?_
      refine go_getRc (show decode cX10_level 543 = .ok (.getfield 35, 3) by decide +kernel) fl_X10_35 rfl (shm_k hsm 53 (by decide) (by decide)) (v := 57) (shm_r hsm 53 7 (by decide) (by decide)) ?_
      refine go_iload_n (show decode cX10_level 546 = .ok (.iload_n 1, 1) by decide +kernel) (by rfl) ?_
      refine go_iload (show decode cX10_level 547 = .ok (.iload 16, 2) by decide +kernel) (by rfl) ?_
      refine go_iload (show decode cX10_level 549 = .ok (.iload 17, 2) by decide +kernel) (by rfl) ?_
      obtain ⟨z25, p26, h⟩ := h
      refine go_callS (d2 := d - 1) (M2 := MX10_slot) (n := 3) (av := [vI a1, vI a16, vI a17]) (st := [vR 57]) (show decode cX10_level 551 = .ok (.invokestatic 130, 3) by decide +kernel) ml_X10_130 mt_X10_slot mst_X10_slot rfl (Nat.le_of_ble_eq_true rfl) (by omega) (ok_mono p26 (fun w21 S22 F23 G24 e9 => ?_))
      obtain ⟨e1, e2, e3, e4⟩ := e9
      subst e1
      replace e2 := e2.symm; subst e2
      replace e3 := e3.symm; subst e3
      replace e4 := e4.symm; subst e4
      show Go d MX10_level 554 [some (vR 53), some (vI a1), some (vI a2), some (vI a3), some (vI a4), some (vI a5), some (vJ a6), none, some (vJ a8), none, some (vJ a10), none, some (vJ a12), none, some (vI a14), some (vI a15), some (vI a16), some (vI a17), some (vI z7), some (vI z13)] [vI z25, vR 57] S F G Q
      refine go_lload (show decode cX10_level 554 = .ok (.lload 10, 2) by decide +kernel) (by rfl) ?_
      refine go_iload (show decode cX10_level 556 = .ok (.iload 19, 2) by decide +kernel) (by rfl) ?_
      refine go_iload (show decode cX10_level 558 = .ok (.iload 15, 2) by decide +kernel) (by rfl) ?_
      obtain ⟨ht, hf⟩ := h
      refine go_icmplt (tgt := 577) (show decode cX10_level 560 = .ok (.if_icmp .lt 17, 3) by decide +kernel) (by decide) (fun hc => ?_) (fun hc => ?_)
      · have h := ht hc
        exact R_X10_level_577 hsm (at_57 hsm) h
      · have h := hf hc
        refine go_iload (show decode cX10_level 563 = .ok (.iload 19, 2) by decide +kernel) (by rfl) ?_
        refine go_iload (show decode cX10_level 565 = .ok (.iload 15, 2) by decide +kernel) (by rfl) ?_
        obtain ⟨ht, hf⟩ := h
        refine go_icmpne (tgt := 581) (show decode cX10_level 567 = .ok (.if_icmp .ne 14, 3) by decide +kernel) (by decide) (fun hc => ?_) (fun hc => ?_)
        · have h := ht hc
          exact R_X10_level_581 hsm (at_57 hsm) h
        · have h := hf hc
          refine go_iload (show decode cX10_level 570 = .ok (.iload 18, 2) by decide +kernel) (by rfl) ?_
          refine go_iload (show decode cX10_level 572 = .ok (.iload 14, 2) by decide +kernel) (by rfl) ?_
          obtain ⟨ht, hf⟩ := h
          refine go_icmpgt (tgt := 581) (show decode cX10_level 574 = .ok (.if_icmp .gt 7, 3) by decide +kernel) (by decide) (fun hc => ?_) (fun hc => ?_)
          · have h := ht hc
            exact R_X10_level_581 hsm (at_57 hsm) h
          · have h := hf hc
            exact R_X10_level_577 hsm (at_57 hsm) h
def V_X10_level_483 (d : Nat) (S : AS) (F : AF) (G : AG) (Q : AQ) (a1 : Int) (a2 : Int) (a3 : Int) (a4 : Int) (a5 : Int) (a6 : Int) (a8 : Int) (a10 : Int) (a12 : Int) (a14 : Int) (a15 : Int) (a16 : Int) : Prop :=
  ((G 55 0 ≤ a16) →
    (1 ≤ d) ∧
    Ok (d - 1) MX10_tells [vR 53, vI 3, vI a1, vI a2, vI a3, vI a4, vI a5, vJ a8] S F G (fun w2 S3 F4 G5 =>
    S3 = S ∧
    w2 = none ∧
    Q (some (vJ a10)) S F4 G5)) ∧
  ((¬ G 55 0 ≤ a16) →
    Go d MX10_level 497 [some (vR 53), some (vI a1), some (vI a2), some (vI a3), some (vI a4), some (vI a5), some (vJ a6), none, some (vJ a8), none, some (vJ a10), none, some (vJ a12), none, some (vI a14), some (vI a15), some (vI a16), some (vI 0), none, none] [] S F G Q)
theorem R_X10_level_483 {d : Nat} {S : AS} {F : AF} {G : AG} {Q : AQ} {a1 : Int} {a2 : Int} {a3 : Int} {a4 : Int} {a5 : Int} {a6 : Int} {a8 : Int} {a10 : Int} {a12 : Int} {a14 : Int} {a15 : Int} {a16 : Int} (hsm : ShM S) (h : V_X10_level_483 d S F G Q a1 a2 a3 a4 a5 a6 a8 a10 a12 a14 a15 a16) : Go d MX10_level 483 [some (vR 53), some (vI a1), some (vI a2), some (vI a3), some (vI a4), some (vI a5), some (vJ a6), none, some (vJ a8), none, some (vJ a10), none, some (vJ a12), none, some (vI a14), some (vI a15), some (vI a16), none, none, none] [] S F G Q := by
  unfold V_X10_level_483 at h
  refine go_iload (show decode cX10_level 483 = .ok (.iload 16, 2) by decide +kernel) (by rfl) ?_
  refine go_aload_n (show decode cX10_level 485 = .ok (.aload_n 0, 1) by decide +kernel) (by rfl) ?_
  refine go_getRc (show decode cX10_level 486 = .ok (.getfield 29, 3) by decide +kernel) fl_X10_29 rfl (shm_k hsm 53 (by decide) (by decide)) (v := 55) (shm_r hsm 53 5 (by decide) (by decide)) ?_
  refine go_iconst (show decode cX10_level 489 = .ok (.iconst 0, 1) by decide +kernel) (by decide) ?_
  refine go_iaload (show decode cX10_level 490 = .ok (.iaload, 1) by decide +kernel) (shm_k hsm 55 (by decide) (by decide)) (by decide) (lt_n (m := 2) (by decide) (shm_n hsm 55 (by decide) (by decide))) ?_
  obtain ⟨ht, hf⟩ := h
  refine go_icmpge (tgt := 596) (show decode cX10_level 491 = .ok (.if_icmp .ge 105, 3) by decide +kernel) (by decide) (fun hc => ?_) (fun hc => ?_)
  · have h := ht hc
    refine go_aload_n (show decode cX10_level 596 = .ok (.aload_n 0, 1) by decide +kernel) (by rfl) ?_
    refine go_iconst (show decode cX10_level 597 = .ok (.iconst 3, 1) by decide +kernel) (by decide) ?_
    refine go_iload_n (show decode cX10_level 598 = .ok (.iload_n 1, 1) by decide +kernel) (by rfl) ?_
    refine go_iload_n (show decode cX10_level 599 = .ok (.iload_n 2, 1) by decide +kernel) (by rfl) ?_
    refine go_iload_n (show decode cX10_level 600 = .ok (.iload_n 3, 1) by decide +kernel) (by rfl) ?_
    refine go_iload (show decode cX10_level 601 = .ok (.iload 4, 2) by decide +kernel) (by rfl) ?_
    refine go_iload (show decode cX10_level 603 = .ok (.iload 5, 2) by decide +kernel) (by rfl) ?_
    refine go_lload (show decode cX10_level 605 = .ok (.lload 8, 2) by decide +kernel) (by rfl) ?_
    obtain ⟨q1, h⟩ := h
    refine go_callV (d2 := d - 1) (M2 := MX10_tells) (n := 7) (ci := 10) (av := [vI 3, vI a1, vI a2, vI a3, vI a4, vI a5, vJ a8]) (st := []) (show decode cX10_level 607 = .ok (.invokevirtual 213, 3) by decide +kernel) ml_X10_213 mt_X10_tells min_X10_tells mse_X10_tells (by decide) (shm_k hsm 53 (by decide) (by decide)) rfl (Nat.le_of_ble_eq_true rfl) (by omega) (ok_mono h (fun w2 S3 F4 G5 h => ?_))
    obtain ⟨e8, h⟩ := h
    replace e8 := e8.symm; subst e8
    obtain ⟨e9, h⟩ := h
    subst e9
    show Go d MX10_level 610 [some (vR 53), some (vI a1), some (vI a2), some (vI a3), some (vI a4), some (vI a5), some (vJ a6), none, some (vJ a8), none, some (vJ a10), none, some (vJ a12), none, some (vI a14), some (vI a15), some (vI a16), none, none, none] [] S F4 G5 Q
    refine go_lload (show decode cX10_level 610 = .ok (.lload 10, 2) by decide +kernel) (by rfl) ?_
    exact go_lret (show decode cX10_level 612 = .ok (.lreturn, 1) by decide +kernel) rfl h
  · have h := hf hc
    refine go_iconst (show decode cX10_level 494 = .ok (.iconst 0, 1) by decide +kernel) (by decide) ?_
    refine go_istore (show decode cX10_level 495 = .ok (.istore 17, 2) by decide +kernel) (by decide) ?_
    show Go d MX10_level 497 [some (vR 53), some (vI a1), some (vI a2), some (vI a3), some (vI a4), some (vI a5), some (vJ a6), none, some (vJ a8), none, some (vJ a10), none, some (vJ a12), none, some (vI a14), some (vI a15), some (vI a16), some (vI 0), none, none] [] S F G Q
    exact h
def V_X10_level_465 (d : Nat) (S : AS) (F : AF) (G : AG) (Q : AQ) (a1 : Int) (a2 : Int) (a3 : Int) (a4 : Int) (a5 : Int) (a6 : Int) (a8 : Int) (a10 : Int) (a12 : Int) (a14 : Int) (a15 : Int) (a16 : Int) : Prop :=
  (r32 (a16 + 1)) ∧
  Go d MX10_level 359 [some (vR 53), some (vI a1), some (vI a2), some (vI a3), some (vI a4), some (vI a5), some (vJ a6), none, some (vJ a8), none, some (vJ a10), none, some (vJ a12), none, some (vI a14), some (vI a15), some (vI (a16 + 1)), none, none, none] [] S F G Q
theorem R_X10_level_465 {d : Nat} {S : AS} {F : AF} {G : AG} {Q : AQ} {a1 : Int} {a2 : Int} {a3 : Int} {a4 : Int} {a5 : Int} {a6 : Int} {a8 : Int} {a10 : Int} {a12 : Int} {a14 : Int} {a15 : Int} {a16 : Int} (hsm : ShM S) (h : V_X10_level_465 d S F G Q a1 a2 a3 a4 a5 a6 a8 a10 a12 a14 a15 a16) : Go d MX10_level 465 [some (vR 53), some (vI a1), some (vI a2), some (vI a3), some (vI a4), some (vI a5), some (vJ a6), none, some (vJ a8), none, some (vJ a10), none, some (vJ a12), none, some (vI a14), some (vI a15), some (vI a16), none, none, none] [] S F G Q := by
  unfold V_X10_level_465 at h
  obtain ⟨q1, h⟩ := h
  refine go_iinc (show decode cX10_level 465 = .ok (.iinc 16 1, 3) by decide +kernel) (by rfl) q1 (by decide) ?_
  show Go d MX10_level 468 [some (vR 53), some (vI a1), some (vI a2), some (vI a3), some (vI a4), some (vI a5), some (vJ a6), none, some (vJ a8), none, some (vJ a10), none, some (vJ a12), none, some (vI a14), some (vI a15), some (vI (a16 + 1)), none, none, none] [] S F G Q
  refine go_goto (tgt := 359) (show decode cX10_level 468 = .ok (.goto (-109), 3) by decide +kernel) (by decide) ?_
  exact h
def V_X10_level_359 (d : Nat) (S : AS) (F : AF) (G : AG) (Q : AQ) (a1 : Int) (a2 : Int) (a3 : Int) (a4 : Int) (a5 : Int) (a6 : Int) (a8 : Int) (a10 : Int) (a12 : Int) (a14 : Int) (a15 : Int) (a16 : Int) : Prop :=
  ((6 ≤ a16) →
    (1 ≤ d) ∧
    Ok (d - 1) MX10_comesAcross [vR 53] S F G (fun w2 S3 F4 G5 =>
    S3 = S ∧
    w2 = none ∧
    Ok (d - 1) MX10_comesAll [vR 53, vI 1] S F4 G5 (fun w6 S7 F8 G9 =>
    S7 = S ∧
    w6 = none ∧
    Go d MX10_level 483 [some (vR 53), some (vI a1), some (vI a2), some (vI a3), some (vI a4), some (vI a5), some (vJ a6), none, some (vJ a8), none, some (vJ a10), none, some (vJ a12), none, some (vI a14), some (vI a15), some (vI 0), none, none, none] [] S F8 G9 Q))) ∧
  ((¬ 6 ≤ a16) →
    ((0 : Int) ≤ a16) ∧
    ((a16 : Int) < 6) ∧
    ((G 65 a16 = 0) →
      V_X10_level_465 d S F G Q a1 a2 a3 a4 a5 a6 a8 a10 a12 a14 a15 a16) ∧
    ((¬ G 65 a16 = 0) →
      (1 ≤ d) ∧
      Ok (d - 1) MX10_meets [vR 53, vI a16, vI a2, vI a3, vI a4, vI a5] S F G (fun w13 S14 F15 G16 =>
      S14 = S ∧
      ∃ z17 : Int, w13 = some (vI z17) ∧
      ((¬ z17 = 0) →
        ∃ z22 : Int, Pu (d - 1) MX10_cells [vR 53] S F15 G16 (some (vJ z22)) ∧
        (r64 (a10 * z22)) ∧
        ∃ z29 : Int, Pu (d - 1) MX10_first0 [vR 53, vI a14, vI a15] S F15 G16 (some (vJ z29)) ∧
        (r64 ((a10 * z22) + z29)) ∧
        ∃ z36 : Int, Pu (d - 1) MX10_sumOf [vR 53, vI a1, vI (F15 53 24), vI (F15 53 25), vI (F15 53 26), vI (F15 53 27)] S F15 G16 (some (vJ z36)) ∧
        (r64 (((a10 * z22) + z29) - z36)) ∧
        ∀ x39 : Int, x39 = ((a10 * z22) + z29) - z36 →
        ((x39 ≤ 0) →
          V_X10_level_465 d S F15 G16 Q a1 a2 a3 a4 a5 a6 a8 a10 a12 a14 a15 a16) ∧
        ((¬ x39 ≤ 0) →
          ∃ z44 : Int, Pu (d - 1) MX10_zoned [vR 53, vI a16] S F15 G16 (some (vJ z44)) ∧
          (r64 (z44 + x39)) ∧
          ((z44 + x39 ≤ G16 64 a16) →
            V_X10_level_465 d S F15 G16 Q a1 a2 a3 a4 a5 a6 a8 a10 a12 a14 a15 a16) ∧
          ((¬ z44 + x39 ≤ G16 64 a16) →
            Q (some (vJ (-9))) S F15 G16))) ∧
      ((z17 = 0) →
        V_X10_level_465 d S F15 G16 Q a1 a2 a3 a4 a5 a6 a8 a10 a12 a14 a15 a16))))
theorem R_X10_level_359 {d : Nat} {S : AS} {F : AF} {G : AG} {Q : AQ} {a1 : Int} {a2 : Int} {a3 : Int} {a4 : Int} {a5 : Int} {a6 : Int} {a8 : Int} {a10 : Int} {a12 : Int} {a14 : Int} {a15 : Int} {a16 : Int} (hsm : ShM S) (h : V_X10_level_359 d S F G Q a1 a2 a3 a4 a5 a6 a8 a10 a12 a14 a15 a16) : Go d MX10_level 359 [some (vR 53), some (vI a1), some (vI a2), some (vI a3), some (vI a4), some (vI a5), some (vJ a6), none, some (vJ a8), none, some (vJ a10), none, some (vJ a12), none, some (vI a14), some (vI a15), some (vI a16), none, none, none] [] S F G Q := by
  unfold V_X10_level_359 at h
  refine go_iload (show decode cX10_level 359 = .ok (.iload 16, 2) by decide +kernel) (by rfl) ?_
  refine go_bipush (show decode cX10_level 361 = .ok (.bipush 6, 2) by decide +kernel) (by decide) ?_
  obtain ⟨ht, hf⟩ := h
  refine go_icmpge (tgt := 471) (show decode cX10_level 363 = .ok (.if_icmp .ge 108, 3) by decide +kernel) (by decide) (fun hc => ?_) (fun hc => ?_)
  · have h := ht hc
    refine go_aload_n (show decode cX10_level 471 = .ok (.aload_n 0, 1) by decide +kernel) (by rfl) ?_
    obtain ⟨q1, h⟩ := h
    refine go_callV (d2 := d - 1) (M2 := MX10_comesAcross) (n := 0) (ci := 10) (av := []) (st := []) (show decode cX10_level 472 = .ok (.invokevirtual 298, 3) by decide +kernel) ml_X10_298 mt_X10_comesAcross min_X10_comesAcross mse_X10_comesAcross (by decide) (shm_k hsm 53 (by decide) (by decide)) rfl (Nat.le_of_ble_eq_true rfl) (by omega) (ok_mono h (fun w2 S3 F4 G5 h => ?_))
    obtain ⟨e8, h⟩ := h
    replace e8 := e8.symm; subst e8
    obtain ⟨e9, h⟩ := h
    subst e9
    show Go d MX10_level 475 [some (vR 53), some (vI a1), some (vI a2), some (vI a3), some (vI a4), some (vI a5), some (vJ a6), none, some (vJ a8), none, some (vJ a10), none, some (vJ a12), none, some (vI a14), some (vI a15), some (vI a16), none, none, none] [] S F4 G5 Q
    refine go_aload_n (show decode cX10_level 475 = .ok (.aload_n 0, 1) by decide +kernel) (by rfl) ?_
    refine go_iconst (show decode cX10_level 476 = .ok (.iconst 1, 1) by decide +kernel) (by decide) ?_
    refine go_callV (d2 := d - 1) (M2 := MX10_comesAll) (n := 1) (ci := 10) (av := [vI 1]) (st := []) (show decode cX10_level 477 = .ok (.invokevirtual 301, 3) by decide +kernel) ml_X10_301 mt_X10_comesAll min_X10_comesAll mse_X10_comesAll (by decide) (shm_k hsm 53 (by decide) (by decide)) rfl (Nat.le_of_ble_eq_true rfl) (by omega) (ok_mono h (fun w6 S7 F8 G9 h => ?_))
    obtain ⟨e8, h⟩ := h
    replace e8 := e8.symm; subst e8
    obtain ⟨e9, h⟩ := h
    subst e9
    show Go d MX10_level 480 [some (vR 53), some (vI a1), some (vI a2), some (vI a3), some (vI a4), some (vI a5), some (vJ a6), none, some (vJ a8), none, some (vJ a10), none, some (vJ a12), none, some (vI a14), some (vI a15), some (vI a16), none, none, none] [] S F8 G9 Q
    refine go_iconst (show decode cX10_level 480 = .ok (.iconst 0, 1) by decide +kernel) (by decide) ?_
    refine go_istore (show decode cX10_level 481 = .ok (.istore 16, 2) by decide +kernel) (by decide) ?_
    show Go d MX10_level 483 [some (vR 53), some (vI a1), some (vI a2), some (vI a3), some (vI a4), some (vI a5), some (vJ a6), none, some (vJ a8), none, some (vJ a10), none, some (vJ a12), none, some (vI a14), some (vI a15), some (vI 0), none, none, none] [] S F8 G9 Q
    exact h
  · have h := hf hc
    refine go_aload_n (show decode cX10_level 366 = .ok (.aload_n 0, 1) by decide +kernel) (by rfl) ?_
    refine go_getRc (show decode cX10_level 367 = .ok (.getfield 61, 3) by decide +kernel) fl_X10_61 rfl (shm_k hsm 53 (by decide) (by decide)) (v := 65) (shm_r hsm 53 17 (by decide) (by decide)) ?_
    refine go_iload (show decode cX10_level 370 = .ok (.iload 16, 2) by decide +kernel) (by rfl) ?_
    obtain ⟨q10, h⟩ := h
    obtain ⟨q11, h⟩ := h
    refine go_zaload (show decode cX10_level 372 = .ok (.baload, 1) by decide +kernel) (shm_k hsm 65 (by decide) (by decide)) q10 (lt_n (m := 6) q11 (shm_n hsm 65 (by decide) (by decide))) ?_
    obtain ⟨ht, hf⟩ := h
    refine go_ifeq (tgt := 465) (show decode cX10_level 373 = .ok (.ifCond .eq 92, 3) by decide +kernel) (by decide) (fun hc => ?_) (fun hc => ?_)
    · have h := ht hc
      exact R_X10_level_465 hsm h
    · have h := hf hc
      refine go_aload_n (show decode cX10_level 376 = .ok (.aload_n 0, 1) by decide +kernel) (by rfl) ?_
      refine go_iload (show decode cX10_level 377 = .ok (.iload 16, 2) by decide +kernel) (by rfl) ?_
      refine go_iload_n (show decode cX10_level 379 = .ok (.iload_n 2, 1) by decide +kernel) (by rfl) ?_
      refine go_iload_n (show decode cX10_level 380 = .ok (.iload_n 3, 1) by decide +kernel) (by rfl) ?_
      refine go_iload (show decode cX10_level 381 = .ok (.iload 4, 2) by decide +kernel) (by rfl) ?_
      refine go_iload (show decode cX10_level 383 = .ok (.iload 5, 2) by decide +kernel) (by rfl) ?_
      obtain ⟨q12, h⟩ := h
      refine go_callV (d2 := d - 1) (M2 := MX10_meets) (n := 5) (ci := 10) (av := [vI a16, vI a2, vI a3, vI a4, vI a5]) (st := []) (show decode cX10_level 385 = .ok (.invokevirtual 184, 3) by decide +kernel) ml_X10_184 mt_X10_meets min_X10_meets mse_X10_meets (by decide) (shm_k hsm 53 (by decide) (by decide)) rfl (Nat.le_of_ble_eq_true rfl) (by omega) (ok_mono h (fun w13 S14 F15 G16 h => ?_))
      obtain ⟨e8, h⟩ := h
      replace e8 := e8.symm; subst e8
      obtain ⟨z17, e9, h⟩ := h
      subst e9
      show Go d MX10_level 388 [some (vR 53), some (vI a1), some (vI a2), some (vI a3), some (vI a4), some (vI a5), some (vJ a6), none, some (vJ a8), none, some (vJ a10), none, some (vJ a12), none, some (vI a14), some (vI a15), some (vI a16), none, none, none] [vI z17] S F15 G16 Q
      obtain ⟨ht, hf⟩ := h
      refine go_ifne (tgt := 394) (show decode cX10_level 388 = .ok (.ifCond .ne 6, 3) by decide +kernel) (by decide) (fun hc => ?_) (fun hc => ?_)
      · have h := ht hc
        refine go_lload (show decode cX10_level 394 = .ok (.lload 10, 2) by decide +kernel) (by rfl) ?_
        refine go_aload_n (show decode cX10_level 396 = .ok (.aload_n 0, 1) by decide +kernel) (by rfl) ?_
        obtain ⟨z22, p23, h⟩ := h
        refine go_callV (d2 := d - 1) (M2 := MX10_cells) (n := 0) (ci := 10) (av := []) (st := [vJ a10]) (show decode cX10_level 397 = .ok (.invokevirtual 192, 3) by decide +kernel) ml_X10_192 mt_X10_cells min_X10_cells mse_X10_cells (by decide) (shm_k hsm 53 (by decide) (by decide)) rfl (Nat.le_of_ble_eq_true rfl) (by omega) (ok_mono p23 (fun w18 S19 F20 G21 e9 => ?_))
        obtain ⟨e1, e2, e3, e4⟩ := e9
        subst e1
        replace e2 := e2.symm; subst e2
        replace e3 := e3.symm; subst e3
        replace e4 := e4.symm; subst e4
        show Go d MX10_level 400 [some (vR 53), some (vI a1), some (vI a2), some (vI a3), some (vI a4), some (vI a5), some (vJ a6), none, some (vJ a8), none, some (vJ a10), none, some (vJ a12), none, some (vI a14), some (vI a15), some (vI a16), none, none, none] [vJ z22, vJ a10] S F15 G16 Q
        obtain ⟨q24, h⟩ := h
        refine go_lmul (show decode cX10_level 400 = .ok (.lmul, 1) by decide +kernel) q24 ?_
        refine go_aload_n (show decode cX10_level 401 = .ok (.aload_n 0, 1) by decide +kernel) (by rfl) ?_
        refine go_iload (show decode cX10_level 402 = .ok (.iload 14, 2) by decide +kernel) (by rfl) ?_
        refine go_iload (show decode cX10_level 404 = .ok (.iload 15, 2) by decide +kernel) (by rfl) ?_
        obtain ⟨z29, p30, h⟩ := h
        refine go_callV (d2 := d - 1) (M2 := MX10_first0) (n := 2) (ci := 10) (av := [vI a14, vI a15]) (st := [vJ (a10 * z22)]) (show decode cX10_level 406 = .ok (.invokevirtual 306, 3) by decide +kernel) ml_X10_306 mt_X10_first0 min_X10_first0 mse_X10_first0 (by decide) (shm_k hsm 53 (by decide) (by decide)) rfl (Nat.le_of_ble_eq_true rfl) (by omega) (ok_mono p30 (fun w25 S26 F27 G28 e9 => ?_))
        obtain ⟨e1, e2, e3, e4⟩ := e9
        subst e1
        replace e2 := e2.symm; subst e2
        replace e3 := e3.symm; subst e3
        replace e4 := e4.symm; subst e4
        show Go d MX10_level 409 [some (vR 53), some (vI a1), some (vI a2), some (vI a3), some (vI a4), some (vI a5), some (vJ a6), none, some (vJ a8), none, some (vJ a10), none, some (vJ a12), none, some (vI a14), some (vI a15), some (vI a16), none, none, none] [vJ z29, vJ (a10 * z22)] S F15 G16 Q
        obtain ⟨q31, h⟩ := h
        refine go_ladd (show decode cX10_level 409 = .ok (.ladd, 1) by decide +kernel) q31 ?_
        refine go_aload_n (show decode cX10_level 410 = .ok (.aload_n 0, 1) by decide +kernel) (by rfl) ?_
        refine go_iload_n (show decode cX10_level 411 = .ok (.iload_n 1, 1) by decide +kernel) (by rfl) ?_
        refine go_aload_n (show decode cX10_level 412 = .ok (.aload_n 0, 1) by decide +kernel) (by rfl) ?_
        refine go_getI (show decode cX10_level 413 = .ok (.getfield 239, 3) by decide +kernel) fl_X10_239 (Or.inl rfl) (shm_k hsm 53 (by decide) (by decide)) ?_
        refine go_aload_n (show decode cX10_level 416 = .ok (.aload_n 0, 1) by decide +kernel) (by rfl) ?_
        refine go_getI (show decode cX10_level 417 = .ok (.getfield 242, 3) by decide +kernel) fl_X10_242 (Or.inl rfl) (shm_k hsm 53 (by decide) (by decide)) ?_
        refine go_aload_n (show decode cX10_level 420 = .ok (.aload_n 0, 1) by decide +kernel) (by rfl) ?_
        refine go_getI (show decode cX10_level 421 = .ok (.getfield 245, 3) by decide +kernel) fl_X10_245 (Or.inl rfl) (shm_k hsm 53 (by decide) (by decide)) ?_
        refine go_aload_n (show decode cX10_level 424 = .ok (.aload_n 0, 1) by decide +kernel) (by rfl) ?_
        refine go_getI (show decode cX10_level 425 = .ok (.getfield 248, 3) by decide +kernel) fl_X10_248 (Or.inl rfl) (shm_k hsm 53 (by decide) (by decide)) ?_
        obtain ⟨z36, p37, h⟩ := h
        refine go_callV (d2 := d - 1) (M2 := MX10_sumOf) (n := 5) (ci := 10) (av := [vI a1, vI (F15 53 24), vI (F15 53 25), vI (F15 53 26), vI (F15 53 27)]) (st := [vJ ((a10 * z22) + z29)]) (show decode cX10_level 428 = .ok (.invokevirtual 251, 3) by decide +kernel) ml_X10_251 mt_X10_sumOf min_X10_sumOf mse_X10_sumOf (by decide) (shm_k hsm 53 (by decide) (by decide)) rfl (Nat.le_of_ble_eq_true rfl) (by omega) (ok_mono p37 (fun w32 S33 F34 G35 e9 => ?_))
        obtain ⟨e1, e2, e3, e4⟩ := e9
        subst e1
        replace e2 := e2.symm; subst e2
        replace e3 := e3.symm; subst e3
        replace e4 := e4.symm; subst e4
        show Go d MX10_level 431 [some (vR 53), some (vI a1), some (vI a2), some (vI a3), some (vI a4), some (vI a5), some (vJ a6), none, some (vJ a8), none, some (vJ a10), none, some (vJ a12), none, some (vI a14), some (vI a15), some (vI a16), none, none, none] [vJ z36, vJ ((a10 * z22) + z29)] S F15 G16 Q
        obtain ⟨q38, h⟩ := h
        refine go_lsub (show decode cX10_level 431 = .ok (.lsub, 1) by decide +kernel) q38 ?_
        obtain ⟨x39, x39e⟩ : ∃ x39 : Int, x39 = ((a10 * z22) + z29) - z36 := ⟨_, rfl⟩
        have h := h x39 x39e
        rw [← x39e]
        refine go_lstore (show decode cX10_level 432 = .ok (.lstore 17, 2) by decide +kernel) (by decide) ?_
        show Go d MX10_level 434 [some (vR 53), some (vI a1), some (vI a2), some (vI a3), some (vI a4), some (vI a5), some (vJ a6), none, some (vJ a8), none, some (vJ a10), none, some (vJ a12), none, some (vI a14), some (vI a15), some (vI a16), some (vJ x39), none, none] [] S F15 G16 Q
        refine go_lload (show decode cX10_level 434 = .ok (.lload 17, 2) by decide +kernel) (by rfl) ?_
        refine go_lconst (n := 0) (show decode cX10_level 436 = .ok (.lconst 0, 1) by decide +kernel) ?_
        show Go d MX10_level 437 [some (vR 53), some (vI a1), some (vI a2), some (vI a3), some (vI a4), some (vI a5), some (vJ a6), none, some (vJ a8), none, some (vJ a10), none, some (vJ a12), none, some (vI a14), some (vI a15), some (vI a16), some (vJ x39), none, none] [vJ 0, vJ x39] S F15 G16 Q
        obtain ⟨ht, hf⟩ := h
        refine go_jle (tgt := 465) (show decode cX10_level 437 = .ok (.lcmp, 1) by decide +kernel) (show decode cX10_level 438 = .ok (.ifCond .le 27, 3) by decide +kernel) (by decide) (fun hc => ?_) (fun hc => ?_)
        · have h := ht hc
          refine go_clr 17 ?_
          exact R_X10_level_465 hsm h
        · have h := hf hc
          refine go_aload_n (show decode cX10_level 441 = .ok (.aload_n 0, 1) by decide +kernel) (by rfl) ?_
          refine go_iload (show decode cX10_level 442 = .ok (.iload 16, 2) by decide +kernel) (by rfl) ?_
          obtain ⟨z44, p45, h⟩ := h
          refine go_callV (d2 := d - 1) (M2 := MX10_zoned) (n := 1) (ci := 10) (av := [vI a16]) (st := []) (show decode cX10_level 444 = .ok (.invokevirtual 188, 3) by decide +kernel) ml_X10_188 mt_X10_zoned min_X10_zoned mse_X10_zoned (by decide) (shm_k hsm 53 (by decide) (by decide)) rfl (Nat.le_of_ble_eq_true rfl) (by omega) (ok_mono p45 (fun w40 S41 F42 G43 e9 => ?_))
          obtain ⟨e1, e2, e3, e4⟩ := e9
          subst e1
          replace e2 := e2.symm; subst e2
          replace e3 := e3.symm; subst e3
          replace e4 := e4.symm; subst e4
          show Go d MX10_level 447 [some (vR 53), some (vI a1), some (vI a2), some (vI a3), some (vI a4), some (vI a5), some (vJ a6), none, some (vJ a8), none, some (vJ a10), none, some (vJ a12), none, some (vI a14), some (vI a15), some (vI a16), some (vJ x39), none, none] [vJ z44] S F15 G16 Q
          refine go_lload (show decode cX10_level 447 = .ok (.lload 17, 2) by decide +kernel) (by rfl) ?_
          obtain ⟨q46, h⟩ := h
          refine go_ladd (show decode cX10_level 449 = .ok (.ladd, 1) by decide +kernel) q46 ?_
          refine go_aload_n (show decode cX10_level 450 = .ok (.aload_n 0, 1) by decide +kernel) (by rfl) ?_
          refine go_getRc (show decode cX10_level 451 = .ok (.getfield 58, 3) by decide +kernel) fl_X10_58 rfl (shm_k hsm 53 (by decide) (by decide)) (v := 64) (shm_r hsm 53 16 (by decide) (by decide)) ?_
          refine go_iload (show decode cX10_level 454 = .ok (.iload 16, 2) by decide +kernel) (by rfl) ?_
          refine go_laload (show decode cX10_level 456 = .ok (.laload, 1) by decide +kernel) (shm_k hsm 64 (by decide) (by decide)) q10 (lt_n (m := 6) q11 (shm_n hsm 64 (by decide) (by decide))) ?_
          obtain ⟨ht, hf⟩ := h
          refine go_jle (tgt := 465) (show decode cX10_level 457 = .ok (.lcmp, 1) by decide +kernel) (show decode cX10_level 458 = .ok (.ifCond .le 7, 3) by decide +kernel) (by decide) (fun hc => ?_) (fun hc => ?_)
          · have h := ht hc
            refine go_clr 17 ?_
            exact R_X10_level_465 hsm h
          · have h := hf hc
            refine go_ldc2 (show decode cX10_level 461 = .ok (.ldc2_w 196, 3) by decide +kernel) lc_X10_196 (by decide) ?_
            exact go_lret (show decode cX10_level 464 = .ok (.lreturn, 1) by decide +kernel) rfl h
      · have h := hf hc
        refine go_goto (tgt := 465) (show decode cX10_level 391 = .ok (.goto 74, 3) by decide +kernel) (by decide) ?_
        exact R_X10_level_465 hsm h
def V_X10_level_344 (d : Nat) (S : AS) (F : AF) (G : AG) (Q : AQ) (a1 : Int) (a2 : Int) (a3 : Int) (a4 : Int) (a5 : Int) (a6 : Int) (a8 : Int) (a10 : Int) (a12 : Int) (a14 : Int) (a15 : Int) (a16 : Int) (a17 : Int) (a18 : Int) (a19 : Int) : Prop :=
  (r32 (a17 + 1)) ∧
  Go d MX10_level 232 [some (vR 53), some (vI a1), some (vI a2), some (vI a3), some (vI a4), some (vI a5), some (vJ a6), none, some (vJ a8), none, some (vJ a10), none, some (vJ a12), none, some (vI a14), some (vI a15), some (vI a16), some (vI (a17 + 1)), none, none] [] S F G Q
theorem R_X10_level_344 {d : Nat} {S : AS} {F : AF} {G : AG} {Q : AQ} {a1 : Int} {a2 : Int} {a3 : Int} {a4 : Int} {a5 : Int} {a6 : Int} {a8 : Int} {a10 : Int} {a12 : Int} {a14 : Int} {a15 : Int} {a16 : Int} {a17 : Int} {a18 : Int} {a19 : Int} (hsm : ShM S) (h : V_X10_level_344 d S F G Q a1 a2 a3 a4 a5 a6 a8 a10 a12 a14 a15 a16 a17 a18 a19) : Go d MX10_level 344 [some (vR 53), some (vI a1), some (vI a2), some (vI a3), some (vI a4), some (vI a5), some (vJ a6), none, some (vJ a8), none, some (vJ a10), none, some (vJ a12), none, some (vI a14), some (vI a15), some (vI a16), some (vI a17), some (vI a18), some (vI a19)] [] S F G Q := by
  unfold V_X10_level_344 at h
  obtain ⟨q1, h⟩ := h
  refine go_iinc (show decode cX10_level 344 = .ok (.iinc 17 1, 3) by decide +kernel) (by rfl) q1 (by decide) ?_
  show Go d MX10_level 347 [some (vR 53), some (vI a1), some (vI a2), some (vI a3), some (vI a4), some (vI a5), some (vJ a6), none, some (vJ a8), none, some (vJ a10), none, some (vJ a12), none, some (vI a14), some (vI a15), some (vI a16), some (vI (a17 + 1)), some (vI a18), some (vI a19)] [] S F G Q
  refine go_goto (tgt := 232) (show decode cX10_level 347 = .ok (.goto (-115), 3) by decide +kernel) (by decide) ?_
  refine go_clr 18 ?_
  refine go_clr 19 ?_
  exact h
def V_X10_level_331 (d : Nat) (S : AS) (F : AF) (G : AG) (Q : AQ) (a1 : Int) (a2 : Int) (a3 : Int) (a4 : Int) (a5 : Int) (a6 : Int) (a8 : Int) (a10 : Int) (a12 : Int) (a14 : Int) (a15 : Int) (a16 : Int) (a17 : Int) (a18 : Int) (a19 : Int) (s0 : Int) (s1 : Int) : Prop :=
  (r64 (s1 + s0)) ∧
  ((s1 + s0 ≤ F 53 3) →
    V_X10_level_344 d S F G Q a1 a2 a3 a4 a5 a6 a8 a10 a12 a14 a15 a16 a17 a18 a19) ∧
  ((¬ s1 + s0 ≤ F 53 3) →
    Q (some (vJ (-7))) S F G)
theorem R_X10_level_331 {d : Nat} {S : AS} {F : AF} {G : AG} {Q : AQ} {a1 : Int} {a2 : Int} {a3 : Int} {a4 : Int} {a5 : Int} {a6 : Int} {a8 : Int} {a10 : Int} {a12 : Int} {a14 : Int} {a15 : Int} {a16 : Int} {a17 : Int} {a18 : Int} {a19 : Int} {s0 : Int} {s1 : Int} (hsm : ShM S) (h : V_X10_level_331 d S F G Q a1 a2 a3 a4 a5 a6 a8 a10 a12 a14 a15 a16 a17 a18 a19 s0 s1) : Go d MX10_level 331 [some (vR 53), some (vI a1), some (vI a2), some (vI a3), some (vI a4), some (vI a5), some (vJ a6), none, some (vJ a8), none, some (vJ a10), none, some (vJ a12), none, some (vI a14), some (vI a15), some (vI a16), some (vI a17), some (vI a18), some (vI a19)] [vJ s0, vJ s1] S F G Q := by
  unfold V_X10_level_331 at h
  obtain ⟨q1, h⟩ := h
  refine go_ladd (show decode cX10_level 331 = .ok (.ladd, 1) by decide +kernel) q1 ?_
  refine go_aload_n (show decode cX10_level 332 = .ok (.aload_n 0, 1) by decide +kernel) (by rfl) ?_
  refine go_getJ (show decode cX10_level 333 = .ok (.getfield 21, 3) by decide +kernel) fl_X10_21 rfl (shm_k hsm 53 (by decide) (by decide)) ?_
  obtain ⟨ht, hf⟩ := h
  refine go_jle (tgt := 344) (show decode cX10_level 336 = .ok (.lcmp, 1) by decide +kernel) (show decode cX10_level 337 = .ok (.ifCond .le 7, 3) by decide +kernel) (by decide) (fun hc => ?_) (fun hc => ?_)
  · have h := ht hc
    exact R_X10_level_344 hsm h
  · have h := hf hc
    refine go_ldc2 (show decode cX10_level 340 = .ok (.ldc2_w 296, 3) by decide +kernel) lc_X10_296 (by decide) ?_
    exact go_lret (show decode cX10_level 343 = .ok (.lreturn, 1) by decide +kernel) rfl h
def V_X10_level_330 (d : Nat) (S : AS) (F : AF) (G : AG) (Q : AQ) (a1 : Int) (a2 : Int) (a3 : Int) (a4 : Int) (a5 : Int) (a6 : Int) (a8 : Int) (a10 : Int) (a12 : Int) (a14 : Int) (a15 : Int) (a16 : Int) (a17 : Int) (a18 : Int) (a19 : Int) (s0 : Int) : Prop :=
  V_X10_level_331 d S F G Q a1 a2 a3 a4 a5 a6 a8 a10 a12 a14 a15 a16 a17 a18 a19 0 s0
theorem R_X10_level_330 {d : Nat} {S : AS} {F : AF} {G : AG} {Q : AQ} {a1 : Int} {a2 : Int} {a3 : Int} {a4 : Int} {a5 : Int} {a6 : Int} {a8 : Int} {a10 : Int} {a12 : Int} {a14 : Int} {a15 : Int} {a16 : Int} {a17 : Int} {a18 : Int} {a19 : Int} {s0 : Int} (hsm : ShM S) (h : V_X10_level_330 d S F G Q a1 a2 a3 a4 a5 a6 a8 a10 a12 a14 a15 a16 a17 a18 a19 s0) : Go d MX10_level 330 [some (vR 53), some (vI a1), some (vI a2), some (vI a3), some (vI a4), some (vI a5), some (vJ a6), none, some (vJ a8), none, some (vJ a10), none, some (vJ a12), none, some (vI a14), some (vI a15), some (vI a16), some (vI a17), some (vI a18), some (vI a19)] [vJ s0] S F G Q := by
  unfold V_X10_level_330 at h
  refine go_lconst (n := 0) (show decode cX10_level 330 = .ok (.lconst 0, 1) by decide +kernel) ?_
  show Go d MX10_level 331 [some (vR 53), some (vI a1), some (vI a2), some (vI a3), some (vI a4), some (vI a5), some (vJ a6), none, some (vJ a8), none, some (vJ a10), none, some (vJ a12), none, some (vI a14), some (vI a15), some (vI a16), some (vI a17), some (vI a18), some (vI a19)] [vJ 0, vJ s0] S F G Q
  exact R_X10_level_331 hsm h
def V_X10_level_326 (d : Nat) (S : AS) (F : AF) (G : AG) (Q : AQ) (a1 : Int) (a2 : Int) (a3 : Int) (a4 : Int) (a5 : Int) (a6 : Int) (a8 : Int) (a10 : Int) (a12 : Int) (a14 : Int) (a15 : Int) (a16 : Int) (a17 : Int) (a18 : Int) (a19 : Int) (s0 : Int) : Prop :=
  V_X10_level_331 d S F G Q a1 a2 a3 a4 a5 a6 a8 a10 a12 a14 a15 a16 a17 a18 a19 1 s0
theorem R_X10_level_326 {d : Nat} {S : AS} {F : AF} {G : AG} {Q : AQ} {a1 : Int} {a2 : Int} {a3 : Int} {a4 : Int} {a5 : Int} {a6 : Int} {a8 : Int} {a10 : Int} {a12 : Int} {a14 : Int} {a15 : Int} {a16 : Int} {a17 : Int} {a18 : Int} {a19 : Int} {s0 : Int} (hsm : ShM S) (h : V_X10_level_326 d S F G Q a1 a2 a3 a4 a5 a6 a8 a10 a12 a14 a15 a16 a17 a18 a19 s0) : Go d MX10_level 326 [some (vR 53), some (vI a1), some (vI a2), some (vI a3), some (vI a4), some (vI a5), some (vJ a6), none, some (vJ a8), none, some (vJ a10), none, some (vJ a12), none, some (vI a14), some (vI a15), some (vI a16), some (vI a17), some (vI a18), some (vI a19)] [vJ s0] S F G Q := by
  unfold V_X10_level_326 at h
  refine go_lconst (n := 1) (show decode cX10_level 326 = .ok (.lconst 1, 1) by decide +kernel) ?_
  show Go d MX10_level 327 [some (vR 53), some (vI a1), some (vI a2), some (vI a3), some (vI a4), some (vI a5), some (vJ a6), none, some (vJ a8), none, some (vJ a10), none, some (vJ a12), none, some (vI a14), some (vI a15), some (vI a16), some (vI a17), some (vI a18), some (vI a19)] [vJ 1, vJ s0] S F G Q
  refine go_goto (tgt := 331) (show decode cX10_level 327 = .ok (.goto 4, 3) by decide +kernel) (by decide) ?_
  exact R_X10_level_331 hsm h
def V_X10_level_232 (d : Nat) (S : AS) (F : AF) (G : AG) (Q : AQ) (a1 : Int) (a2 : Int) (a3 : Int) (a4 : Int) (a5 : Int) (a6 : Int) (a8 : Int) (a10 : Int) (a12 : Int) (a14 : Int) (a15 : Int) (a16 : Int) (a17 : Int) : Prop :=
  ((G 69 1 ≤ a17) →
    (r32 (a16 + 1)) ∧
    Go d MX10_level 218 [some (vR 53), some (vI a1), some (vI a2), some (vI a3), some (vI a4), some (vI a5), some (vJ a6), none, some (vJ a8), none, some (vJ a10), none, some (vJ a12), none, some (vI a14), some (vI a15), some (vI (a16 + 1)), none, none, none] [] S F G Q) ∧
  ((¬ G 69 1 ≤ a17) →
    ((0 : Int) ≤ a16) ∧
    ((a16 : Int) < 96) ∧
    ∀ x4 : Int, x4 = G 68 a16 →
    (r32 (48 + a17)) ∧
    ((0 : Int) ≤ 48 + a17) ∧
    ((48 + a17 : Int) < 96) ∧
    ∀ x8 : Int, x8 = G 68 (48 + a17) →
    (1 ≤ d) ∧
    ∃ z14 : Int, Pu (d - 1) MX10_isInside [vI x4, vI x8, vI a2, vI a3, vI a4, vI a5] S F G (some (vI z14)) ∧
    ((¬ z14 = 0) →
      ∃ z20 : Int, Pu (d - 1) MX10_cell [vR 53, vI (-1), vI x4, vI x8] S F G (some (vJ z20)) ∧
      ∃ z26 : Int, Pu (d - 1) MX10_cell [vR 53, vI a1, vI x4, vI x8] S F G (some (vJ z26)) ∧
      (r64 (z20 - z26)) ∧
      (r64 ((z20 - z26) + a10)) ∧
      ((x8 < a15) →
        V_X10_level_326 d S F G Q a1 a2 a3 a4 a5 a6 a8 a10 a12 a14 a15 a16 a17 x4 x8 ((z20 - z26) + a10)) ∧
      ((¬ x8 < a15) →
        ((¬ x8 = a15) →
          V_X10_level_330 d S F G Q a1 a2 a3 a4 a5 a6 a8 a10 a12 a14 a15 a16 a17 x4 x8 ((z20 - z26) + a10)) ∧
        ((x8 = a15) →
          ((a14 < x4) →
            V_X10_level_330 d S F G Q a1 a2 a3 a4 a5 a6 a8 a10 a12 a14 a15 a16 a17 x4 x8 ((z20 - z26) + a10)) ∧
          ((¬ a14 < x4) →
            V_X10_level_326 d S F G Q a1 a2 a3 a4 a5 a6 a8 a10 a12 a14 a15 a16 a17 x4 x8 ((z20 - z26) + a10))))) ∧
    ((z14 = 0) →
      V_X10_level_344 d S F G Q a1 a2 a3 a4 a5 a6 a8 a10 a12 a14 a15 a16 a17 x4 x8))
theorem R_X10_level_232 {d : Nat} {S : AS} {F : AF} {G : AG} {Q : AQ} {a1 : Int} {a2 : Int} {a3 : Int} {a4 : Int} {a5 : Int} {a6 : Int} {a8 : Int} {a10 : Int} {a12 : Int} {a14 : Int} {a15 : Int} {a16 : Int} {a17 : Int} (hsm : ShM S) (h : V_X10_level_232 d S F G Q a1 a2 a3 a4 a5 a6 a8 a10 a12 a14 a15 a16 a17) : Go d MX10_level 232 [some (vR 53), some (vI a1), some (vI a2), some (vI a3), some (vI a4), some (vI a5), some (vJ a6), none, some (vJ a8), none, some (vJ a10), none, some (vJ a12), none, some (vI a14), some (vI a15), some (vI a16), some (vI a17), none, none] [] S F G Q := by
  unfold V_X10_level_232 at h
  refine go_iload (show decode cX10_level 232 = .ok (.iload 17, 2) by decide +kernel) (by rfl) ?_
  refine go_aload_n (show decode cX10_level 234 = .ok (.aload_n 0, 1) by decide +kernel) (by rfl) ?_
  refine go_getRc (show decode cX10_level 235 = .ok (.getfield 74, 3) by decide +kernel) fl_X10_74 rfl (shm_k hsm 53 (by decide) (by decide)) (v := 69) (shm_r hsm 53 29 (by decide) (by decide)) ?_
  refine go_iconst (show decode cX10_level 238 = .ok (.iconst 1, 1) by decide +kernel) (by decide) ?_
  refine go_iaload (show decode cX10_level 239 = .ok (.iaload, 1) by decide +kernel) (shm_k hsm 69 (by decide) (by decide)) (by decide) (lt_n (m := 2) (by decide) (shm_n hsm 69 (by decide) (by decide))) ?_
  obtain ⟨ht, hf⟩ := h
  refine go_icmpge (tgt := 350) (show decode cX10_level 240 = .ok (.if_icmp .ge 110, 3) by decide +kernel) (by decide) (fun hc => ?_) (fun hc => ?_)
  · have h := ht hc
    obtain ⟨q1, h⟩ := h
    refine go_iinc (show decode cX10_level 350 = .ok (.iinc 16 1, 3) by decide +kernel) (by rfl) q1 (by decide) ?_
    show Go d MX10_level 353 [some (vR 53), some (vI a1), some (vI a2), some (vI a3), some (vI a4), some (vI a5), some (vJ a6), none, some (vJ a8), none, some (vJ a10), none, some (vJ a12), none, some (vI a14), some (vI a15), some (vI (a16 + 1)), some (vI a17), none, none] [] S F G Q
    refine go_goto (tgt := 218) (show decode cX10_level 353 = .ok (.goto (-135), 3) by decide +kernel) (by decide) ?_
    refine go_clr 17 ?_
    exact h
  · have h := hf hc
    refine go_aload_n (show decode cX10_level 243 = .ok (.aload_n 0, 1) by decide +kernel) (by rfl) ?_
    refine go_getRc (show decode cX10_level 244 = .ok (.getfield 71, 3) by decide +kernel) fl_X10_71 rfl (shm_k hsm 53 (by decide) (by decide)) (v := 68) (shm_r hsm 53 28 (by decide) (by decide)) ?_
    refine go_iload (show decode cX10_level 247 = .ok (.iload 16, 2) by decide +kernel) (by rfl) ?_
    obtain ⟨q2, h⟩ := h
    obtain ⟨q3, h⟩ := h
    refine go_iaload (show decode cX10_level 249 = .ok (.iaload, 1) by decide +kernel) (shm_k hsm 68 (by decide) (by decide)) q2 (lt_n (m := 96) q3 (shm_n hsm 68 (by decide) (by decide))) ?_
    obtain ⟨x4, x4e⟩ : ∃ x4 : Int, x4 = G 68 a16 := ⟨_, rfl⟩
    have h := h x4 x4e
    rw [← x4e]
    refine go_istore (show decode cX10_level 250 = .ok (.istore 18, 2) by decide +kernel) (by decide) ?_
    show Go d MX10_level 252 [some (vR 53), some (vI a1), some (vI a2), some (vI a3), some (vI a4), some (vI a5), some (vJ a6), none, some (vJ a8), none, some (vJ a10), none, some (vJ a12), none, some (vI a14), some (vI a15), some (vI a16), some (vI a17), some (vI x4), none] [] S F G Q
    refine go_aload_n (show decode cX10_level 252 = .ok (.aload_n 0, 1) by decide +kernel) (by rfl) ?_
    refine go_getRc (show decode cX10_level 253 = .ok (.getfield 71, 3) by decide +kernel) fl_X10_71 rfl (shm_k hsm 53 (by decide) (by decide)) (v := 68) (shm_r hsm 53 28 (by decide) (by decide)) ?_
    refine go_bipush (show decode cX10_level 256 = .ok (.bipush 48, 2) by decide +kernel) (by decide) ?_
    refine go_iload (show decode cX10_level 258 = .ok (.iload 17, 2) by decide +kernel) (by rfl) ?_
    obtain ⟨q5, h⟩ := h
    refine go_iadd (show decode cX10_level 260 = .ok (.iadd, 1) by decide +kernel) q5 ?_
    obtain ⟨q6, h⟩ := h
    obtain ⟨q7, h⟩ := h
    refine go_iaload (show decode cX10_level 261 = .ok (.iaload, 1) by decide +kernel) (shm_k hsm 68 (by decide) (by decide)) q6 (lt_n (m := 96) q7 (shm_n hsm 68 (by decide) (by decide))) ?_
    obtain ⟨x8, x8e⟩ : ∃ x8 : Int, x8 = G 68 (48 + a17) := ⟨_, rfl⟩
    have h := h x8 x8e
    rw [← x8e]
    refine go_istore (show decode cX10_level 262 = .ok (.istore 19, 2) by decide +kernel) (by decide) ?_
    show Go d MX10_level 264 [some (vR 53), some (vI a1), some (vI a2), some (vI a3), some (vI a4), some (vI a5), some (vJ a6), none, some (vJ a8), none, some (vJ a10), none, some (vJ a12), none, some (vI a14), some (vI a15), some (vI a16), some (vI a17), some (vI x4), some (vI x8)] [] S F G Q
    refine go_iload (show decode cX10_level 264 = .ok (.iload 18, 2) by decide +kernel) (by rfl) ?_
    refine go_iload (show decode cX10_level 266 = .ok (.iload 19, 2) by decide +kernel) (by rfl) ?_
    refine go_iload_n (show decode cX10_level 268 = .ok (.iload_n 2, 1) by decide +kernel) (by rfl) ?_
    refine go_iload_n (show decode cX10_level 269 = .ok (.iload_n 3, 1) by decide +kernel) (by rfl) ?_
    refine go_iload (show decode cX10_level 270 = .ok (.iload 4, 2) by decide +kernel) (by rfl) ?_
    refine go_iload (show decode cX10_level 272 = .ok (.iload 5, 2) by decide +kernel) (by rfl) ?_
    obtain ⟨q9, h⟩ := h
    obtain ⟨z14, p15, h⟩ := h
    refine go_callS (d2 := d - 1) (M2 := MX10_isInside) (n := 6) (av := [vI x4, vI x8, vI a2, vI a3, vI a4, vI a5]) (st := []) (show decode cX10_level 274 = .ok (.invokestatic 289, 3) by decide +kernel) ml_X10_289 mt_X10_isInside mst_X10_isInside rfl (Nat.le_of_ble_eq_true rfl) (by omega) (ok_mono p15 (fun w10 S11 F12 G13 e9 => ?_))
    obtain ⟨e1, e2, e3, e4⟩ := e9
    subst e1
    replace e2 := e2.symm; subst e2
    replace e3 := e3.symm; subst e3
    replace e4 := e4.symm; subst e4
    show Go d MX10_level 277 [some (vR 53), some (vI a1), some (vI a2), some (vI a3), some (vI a4), some (vI a5), some (vJ a6), none, some (vJ a8), none, some (vJ a10), none, some (vJ a12), none, some (vI a14), some (vI a15), some (vI a16), some (vI a17), some (vI x4), some (vI x8)] [vI z14] S F G Q
    obtain ⟨ht, hf⟩ := h
    refine go_ifne (tgt := 283) (show decode cX10_level 277 = .ok (.ifCond .ne 6, 3) by decide +kernel) (by decide) (fun hc => ?_) (fun hc => ?_)
    · have h := ht hc
      refine go_aload_n (show decode cX10_level 283 = .ok (.aload_n 0, 1) by decide +kernel) (by rfl) ?_
      refine go_iconst (show decode cX10_level 284 = .ok (.iconst (-1), 1) by decide +kernel) (by decide) ?_
      refine go_iload (show decode cX10_level 285 = .ok (.iload 18, 2) by decide +kernel) (by rfl) ?_
      refine go_iload (show decode cX10_level 287 = .ok (.iload 19, 2) by decide +kernel) (by rfl) ?_
      obtain ⟨z20, p21, h⟩ := h
      refine go_callV (d2 := d - 1) (M2 := MX10_cell) (n := 3) (ci := 10) (av := [vI (-1), vI x4, vI x8]) (st := []) (show decode cX10_level 289 = .ok (.invokevirtual 293, 3) by decide +kernel) ml_X10_293 mt_X10_cell min_X10_cell mse_X10_cell (by decide) (shm_k hsm 53 (by decide) (by decide)) rfl (Nat.le_of_ble_eq_true rfl) (by omega) (ok_mono p21 (fun w16 S17 F18 G19 e9 => ?_))
      obtain ⟨e1, e2, e3, e4⟩ := e9
      subst e1
      replace e2 := e2.symm; subst e2
      replace e3 := e3.symm; subst e3
      replace e4 := e4.symm; subst e4
      show Go d MX10_level 292 [some (vR 53), some (vI a1), some (vI a2), some (vI a3), some (vI a4), some (vI a5), some (vJ a6), none, some (vJ a8), none, some (vJ a10), none, some (vJ a12), none, some (vI a14), some (vI a15), some (vI a16), some (vI a17), some (vI x4), some (vI x8)] [vJ z20] S F G Q
      refine go_aload_n (show decode cX10_level 292 = .ok (.aload_n 0, 1) by decide +kernel) (by rfl) ?_
      refine go_iload_n (show decode cX10_level 293 = .ok (.iload_n 1, 1) by decide +kernel) (by rfl) ?_
      refine go_iload (show decode cX10_level 294 = .ok (.iload 18, 2) by decide +kernel) (by rfl) ?_
      refine go_iload (show decode cX10_level 296 = .ok (.iload 19, 2) by decide +kernel) (by rfl) ?_
      obtain ⟨z26, p27, h⟩ := h
      refine go_callV (d2 := d - 1) (M2 := MX10_cell) (n := 3) (ci := 10) (av := [vI a1, vI x4, vI x8]) (st := [vJ z20]) (show decode cX10_level 298 = .ok (.invokevirtual 293, 3) by decide +kernel) ml_X10_293 mt_X10_cell min_X10_cell mse_X10_cell (by decide) (shm_k hsm 53 (by decide) (by decide)) rfl (Nat.le_of_ble_eq_true rfl) (by omega) (ok_mono p27 (fun w22 S23 F24 G25 e9 => ?_))
      obtain ⟨e1, e2, e3, e4⟩ := e9
      subst e1
      replace e2 := e2.symm; subst e2
      replace e3 := e3.symm; subst e3
      replace e4 := e4.symm; subst e4
      show Go d MX10_level 301 [some (vR 53), some (vI a1), some (vI a2), some (vI a3), some (vI a4), some (vI a5), some (vJ a6), none, some (vJ a8), none, some (vJ a10), none, some (vJ a12), none, some (vI a14), some (vI a15), some (vI a16), some (vI a17), some (vI x4), some (vI x8)] [vJ z26, vJ z20] S F G Q
      obtain ⟨q28, h⟩ := h
      refine go_lsub (show decode cX10_level 301 = .ok (.lsub, 1) by decide +kernel) q28 ?_
      refine go_lload (show decode cX10_level 302 = .ok (.lload 10, 2) by decide +kernel) (by rfl) ?_
      obtain ⟨q29, h⟩ := h
      refine go_ladd (show decode cX10_level 304 = .ok (.ladd, 1) by decide +kernel) q29 ?_
      refine go_iload (show decode cX10_level 305 = .ok (.iload 19, 2) by decide +kernel) (by rfl) ?_
      refine go_iload (show decode cX10_level 307 = .ok (.iload 15, 2) by decide +kernel) (by rfl) ?_
      obtain ⟨ht, hf⟩ := h
      refine go_icmplt (tgt := 326) (show decode cX10_level 309 = .ok (.if_icmp .lt 17, 3) by decide +kernel) (by decide) (fun hc => ?_) (fun hc => ?_)
      · have h := ht hc
        exact R_X10_level_326 hsm h
      · have h := hf hc
        refine go_iload (show decode cX10_level 312 = .ok (.iload 19, 2) by decide +kernel) (by rfl) ?_
        refine go_iload (show decode cX10_level 314 = .ok (.iload 15, 2) by decide +kernel) (by rfl) ?_
        obtain ⟨ht, hf⟩ := h
        refine go_icmpne (tgt := 330) (show decode cX10_level 316 = .ok (.if_icmp .ne 14, 3) by decide +kernel) (by decide) (fun hc => ?_) (fun hc => ?_)
        · have h := ht hc
          exact R_X10_level_330 hsm h
        · have h := hf hc
          refine go_iload (show decode cX10_level 319 = .ok (.iload 18, 2) by decide +kernel) (by rfl) ?_
          refine go_iload (show decode cX10_level 321 = .ok (.iload 14, 2) by decide +kernel) (by rfl) ?_
          obtain ⟨ht, hf⟩ := h
          refine go_icmpgt (tgt := 330) (show decode cX10_level 323 = .ok (.if_icmp .gt 7, 3) by decide +kernel) (by decide) (fun hc => ?_) (fun hc => ?_)
          · have h := ht hc
            exact R_X10_level_330 hsm h
          · have h := hf hc
            exact R_X10_level_326 hsm h
    · have h := hf hc
      refine go_goto (tgt := 344) (show decode cX10_level 280 = .ok (.goto 64, 3) by decide +kernel) (by decide) ?_
      exact R_X10_level_344 hsm h
def V_X10_level_218 (d : Nat) (S : AS) (F : AF) (G : AG) (Q : AQ) (a1 : Int) (a2 : Int) (a3 : Int) (a4 : Int) (a5 : Int) (a6 : Int) (a8 : Int) (a10 : Int) (a12 : Int) (a14 : Int) (a15 : Int) (a16 : Int) : Prop :=
  ((G 69 0 ≤ a16) →
    Go d MX10_level 359 [some (vR 53), some (vI a1), some (vI a2), some (vI a3), some (vI a4), some (vI a5), some (vJ a6), none, some (vJ a8), none, some (vJ a10), none, some (vJ a12), none, some (vI a14), some (vI a15), some (vI 0), none, none, none] [] S F G Q) ∧
  ((¬ G 69 0 ≤ a16) →
    Go d MX10_level 232 [some (vR 53), some (vI a1), some (vI a2), some (vI a3), some (vI a4), some (vI a5), some (vJ a6), none, some (vJ a8), none, some (vJ a10), none, some (vJ a12), none, some (vI a14), some (vI a15), some (vI a16), some (vI 0), none, none] [] S F G Q)
theorem R_X10_level_218 {d : Nat} {S : AS} {F : AF} {G : AG} {Q : AQ} {a1 : Int} {a2 : Int} {a3 : Int} {a4 : Int} {a5 : Int} {a6 : Int} {a8 : Int} {a10 : Int} {a12 : Int} {a14 : Int} {a15 : Int} {a16 : Int} (hsm : ShM S) (h : V_X10_level_218 d S F G Q a1 a2 a3 a4 a5 a6 a8 a10 a12 a14 a15 a16) : Go d MX10_level 218 [some (vR 53), some (vI a1), some (vI a2), some (vI a3), some (vI a4), some (vI a5), some (vJ a6), none, some (vJ a8), none, some (vJ a10), none, some (vJ a12), none, some (vI a14), some (vI a15), some (vI a16), none, none, none] [] S F G Q := by
  unfold V_X10_level_218 at h
  refine go_iload (show decode cX10_level 218 = .ok (.iload 16, 2) by decide +kernel) (by rfl) ?_
  refine go_aload_n (show decode cX10_level 220 = .ok (.aload_n 0, 1) by decide +kernel) (by rfl) ?_
  refine go_getRc (show decode cX10_level 221 = .ok (.getfield 74, 3) by decide +kernel) fl_X10_74 rfl (shm_k hsm 53 (by decide) (by decide)) (v := 69) (shm_r hsm 53 29 (by decide) (by decide)) ?_
  refine go_iconst (show decode cX10_level 224 = .ok (.iconst 0, 1) by decide +kernel) (by decide) ?_
  refine go_iaload (show decode cX10_level 225 = .ok (.iaload, 1) by decide +kernel) (shm_k hsm 69 (by decide) (by decide)) (by decide) (lt_n (m := 2) (by decide) (shm_n hsm 69 (by decide) (by decide))) ?_
  obtain ⟨ht, hf⟩ := h
  refine go_icmpge (tgt := 356) (show decode cX10_level 226 = .ok (.if_icmp .ge 130, 3) by decide +kernel) (by decide) (fun hc => ?_) (fun hc => ?_)
  · have h := ht hc
    refine go_iconst (show decode cX10_level 356 = .ok (.iconst 0, 1) by decide +kernel) (by decide) ?_
    refine go_istore (show decode cX10_level 357 = .ok (.istore 16, 2) by decide +kernel) (by decide) ?_
    show Go d MX10_level 359 [some (vR 53), some (vI a1), some (vI a2), some (vI a3), some (vI a4), some (vI a5), some (vJ a6), none, some (vJ a8), none, some (vJ a10), none, some (vJ a12), none, some (vI a14), some (vI a15), some (vI 0), none, none, none] [] S F G Q
    exact h
  · have h := hf hc
    refine go_iconst (show decode cX10_level 229 = .ok (.iconst 0, 1) by decide +kernel) (by decide) ?_
    refine go_istore (show decode cX10_level 230 = .ok (.istore 17, 2) by decide +kernel) (by decide) ?_
    show Go d MX10_level 232 [some (vR 53), some (vI a1), some (vI a2), some (vI a3), some (vI a4), some (vI a5), some (vJ a6), none, some (vJ a8), none, some (vJ a10), none, some (vJ a12), none, some (vI a14), some (vI a15), some (vI a16), some (vI 0), none, none] [] S F G Q
    exact h
def V_X10_level_195 (d : Nat) (S : AS) (F : AF) (G : AG) (Q : AQ) (a1 : Int) (a2 : Int) (a3 : Int) (a4 : Int) (a5 : Int) (a6 : Int) (a8 : Int) (a10 : Int) (a12 : Int) (a14 : Int) (a15 : Int) (s0 : Int) (s1 : Int) (s2 : Int) (s3 : Int) : Prop :=
  (1 ≤ d) ∧
  Ok (d - 1) MX10_wantsAll [vR 53, vI s3, vI s2, vI s1, vI s0] S F G (fun w2 S3 F4 G5 =>
  S3 = S ∧
  w2 = none ∧
  ∃ z10 : Int, Pu (d - 1) MX10_isRoom [vR 53, vI 1] S F4 G5 (some (vI z10)) ∧
  ((¬ z10 = 0) →
    Ok (d - 1) MX10_laysThen [vR 53, vI 1] S F4 G5 (fun w12 S13 F14 G15 =>
    S13 = S ∧
    w12 = none ∧
    Go d MX10_level 218 [some (vR 53), some (vI a1), some (vI a2), some (vI a3), some (vI a4), some (vI a5), some (vJ a6), none, some (vJ a8), none, some (vJ a10), none, some (vJ a12), none, some (vI a14), some (vI a15), some (vI 0), none, none, none] [] S F14 G15 Q)) ∧
  ((z10 = 0) →
    Q (some (vJ (-4))) S F4 G5))
theorem R_X10_level_195 {d : Nat} {S : AS} {F : AF} {G : AG} {Q : AQ} {a1 : Int} {a2 : Int} {a3 : Int} {a4 : Int} {a5 : Int} {a6 : Int} {a8 : Int} {a10 : Int} {a12 : Int} {a14 : Int} {a15 : Int} {s0 : Int} {s1 : Int} {s2 : Int} {s3 : Int} (hsm : ShM S) (h : V_X10_level_195 d S F G Q a1 a2 a3 a4 a5 a6 a8 a10 a12 a14 a15 s0 s1 s2 s3) : Go d MX10_level 195 [some (vR 53), some (vI a1), some (vI a2), some (vI a3), some (vI a4), some (vI a5), some (vJ a6), none, some (vJ a8), none, some (vJ a10), none, some (vJ a12), none, some (vI a14), some (vI a15), none, none, none, none] [vI s0, vI s1, vI s2, vI s3, vR 53] S F G Q := by
  unfold V_X10_level_195 at h
  obtain ⟨q1, h⟩ := h
  refine go_callV (d2 := d - 1) (M2 := MX10_wantsAll) (n := 4) (ci := 10) (av := [vI s3, vI s2, vI s1, vI s0]) (st := []) (show decode cX10_level 195 = .ok (.invokevirtual 149, 3) by decide +kernel) ml_X10_149 mt_X10_wantsAll min_X10_wantsAll mse_X10_wantsAll (by decide) (shm_k hsm 53 (by decide) (by decide)) rfl (Nat.le_of_ble_eq_true rfl) (by omega) (ok_mono h (fun w2 S3 F4 G5 h => ?_))
  obtain ⟨e8, h⟩ := h
  replace e8 := e8.symm; subst e8
  obtain ⟨e9, h⟩ := h
  subst e9
  show Go d MX10_level 198 [some (vR 53), some (vI a1), some (vI a2), some (vI a3), some (vI a4), some (vI a5), some (vJ a6), none, some (vJ a8), none, some (vJ a10), none, some (vJ a12), none, some (vI a14), some (vI a15), none, none, none, none] [] S F4 G5 Q
  refine go_aload_n (show decode cX10_level 198 = .ok (.aload_n 0, 1) by decide +kernel) (by rfl) ?_
  refine go_iconst (show decode cX10_level 199 = .ok (.iconst 1, 1) by decide +kernel) (by decide) ?_
  obtain ⟨z10, p11, h⟩ := h
  refine go_callV (d2 := d - 1) (M2 := MX10_isRoom) (n := 1) (ci := 10) (av := [vI 1]) (st := []) (show decode cX10_level 200 = .ok (.invokevirtual 153, 3) by decide +kernel) ml_X10_153 mt_X10_isRoom min_X10_isRoom mse_X10_isRoom (by decide) (shm_k hsm 53 (by decide) (by decide)) rfl (Nat.le_of_ble_eq_true rfl) (by omega) (ok_mono p11 (fun w6 S7 F8 G9 e9 => ?_))
  obtain ⟨e1, e2, e3, e4⟩ := e9
  subst e1
  replace e2 := e2.symm; subst e2
  replace e3 := e3.symm; subst e3
  replace e4 := e4.symm; subst e4
  show Go d MX10_level 203 [some (vR 53), some (vI a1), some (vI a2), some (vI a3), some (vI a4), some (vI a5), some (vJ a6), none, some (vJ a8), none, some (vJ a10), none, some (vJ a12), none, some (vI a14), some (vI a15), none, none, none, none] [vI z10] S F4 G5 Q
  obtain ⟨ht, hf⟩ := h
  refine go_ifne (tgt := 210) (show decode cX10_level 203 = .ok (.ifCond .ne 7, 3) by decide +kernel) (by decide) (fun hc => ?_) (fun hc => ?_)
  · have h := ht hc
    refine go_aload_n (show decode cX10_level 210 = .ok (.aload_n 0, 1) by decide +kernel) (by rfl) ?_
    refine go_iconst (show decode cX10_level 211 = .ok (.iconst 1, 1) by decide +kernel) (by decide) ?_
    refine go_callV (d2 := d - 1) (M2 := MX10_laysThen) (n := 1) (ci := 10) (av := [vI 1]) (st := []) (show decode cX10_level 212 = .ok (.invokevirtual 282, 3) by decide +kernel) ml_X10_282 mt_X10_laysThen min_X10_laysThen mse_X10_laysThen (by decide) (shm_k hsm 53 (by decide) (by decide)) rfl (Nat.le_of_ble_eq_true rfl) (by omega) (ok_mono h (fun w12 S13 F14 G15 h => ?_))
    obtain ⟨e8, h⟩ := h
    replace e8 := e8.symm; subst e8
    obtain ⟨e9, h⟩ := h
    subst e9
    show Go d MX10_level 215 [some (vR 53), some (vI a1), some (vI a2), some (vI a3), some (vI a4), some (vI a5), some (vJ a6), none, some (vJ a8), none, some (vJ a10), none, some (vJ a12), none, some (vI a14), some (vI a15), none, none, none, none] [] S F14 G15 Q
    refine go_iconst (show decode cX10_level 215 = .ok (.iconst 0, 1) by decide +kernel) (by decide) ?_
    refine go_istore (show decode cX10_level 216 = .ok (.istore 16, 2) by decide +kernel) (by decide) ?_
    show Go d MX10_level 218 [some (vR 53), some (vI a1), some (vI a2), some (vI a3), some (vI a4), some (vI a5), some (vJ a6), none, some (vJ a8), none, some (vJ a10), none, some (vJ a12), none, some (vI a14), some (vI a15), some (vI 0), none, none, none] [] S F14 G15 Q
    exact h
  · have h := hf hc
    refine go_ldc2 (show decode cX10_level 206 = .ok (.ldc2_w 205, 3) by decide +kernel) lc_X10_205 (by decide) ?_
    exact go_lret (show decode cX10_level 209 = .ok (.lreturn, 1) by decide +kernel) rfl h
def V_X10_level_156 (d : Nat) (S : AS) (F : AF) (G : AG) (Q : AQ) (a1 : Int) (a2 : Int) (a3 : Int) (a4 : Int) (a5 : Int) (a6 : Int) (a8 : Int) (a10 : Int) (a12 : Int) (a14 : Int) (a15 : Int) : Prop :=
  (1 ≤ d) ∧
  ∃ z6 : Int, Pu (d - 1) MX10_isRoom [vR 53, vI 0] S F G (some (vI z6)) ∧
  ((¬ z6 = 0) →
    Ok (d - 1) MX10_laysThen [vR 53, vI 0] S F G (fun w8 S9 F10 G11 =>
    S9 = S ∧
    w8 = none ∧
    Ok (d - 1) MX10_keepsAcross [vR 53] S F10 G11 (fun w12 S13 F14 G15 =>
    S13 = S ∧
    w12 = none ∧
    ((a12 ≤ 0) →
      V_X10_level_195 d S F14 G15 Q a1 a2 a3 a4 a5 a6 a8 a10 a12 a14 a15 (-1) a5 a3 1) ∧
    ((¬ a12 ≤ 0) →
      V_X10_level_195 d S F14 G15 Q a1 a2 a3 a4 a5 a6 a8 a10 a12 a14 a15 a15 a5 a3 1)))) ∧
  ((z6 = 0) →
    Q (some (vJ (-4))) S F G)
theorem R_X10_level_156 {d : Nat} {S : AS} {F : AF} {G : AG} {Q : AQ} {a1 : Int} {a2 : Int} {a3 : Int} {a4 : Int} {a5 : Int} {a6 : Int} {a8 : Int} {a10 : Int} {a12 : Int} {a14 : Int} {a15 : Int} (hsm : ShM S) (h : V_X10_level_156 d S F G Q a1 a2 a3 a4 a5 a6 a8 a10 a12 a14 a15) : Go d MX10_level 156 [some (vR 53), some (vI a1), some (vI a2), some (vI a3), some (vI a4), some (vI a5), some (vJ a6), none, some (vJ a8), none, some (vJ a10), none, some (vJ a12), none, some (vI a14), some (vI a15), none, none, none, none] [] S F G Q := by
  unfold V_X10_level_156 at h
  refine go_aload_n (show decode cX10_level 156 = .ok (.aload_n 0, 1) by decide +kernel) (by rfl) ?_
  refine go_iconst (show decode cX10_level 157 = .ok (.iconst 0, 1) by decide +kernel) (by decide) ?_
  obtain ⟨q1, h⟩ := h
  obtain ⟨z6, p7, h⟩ := h
  refine go_callV (d2 := d - 1) (M2 := MX10_isRoom) (n := 1) (ci := 10) (av := [vI 0]) (st := []) (show decode cX10_level 158 = .ok (.invokevirtual 153, 3) by decide +kernel) ml_X10_153 mt_X10_isRoom min_X10_isRoom mse_X10_isRoom (by decide) (shm_k hsm 53 (by decide) (by decide)) rfl (Nat.le_of_ble_eq_true rfl) (by omega) (ok_mono p7 (fun w2 S3 F4 G5 e9 => ?_))
  obtain ⟨e1, e2, e3, e4⟩ := e9
  subst e1
  replace e2 := e2.symm; subst e2
  replace e3 := e3.symm; subst e3
  replace e4 := e4.symm; subst e4
  show Go d MX10_level 161 [some (vR 53), some (vI a1), some (vI a2), some (vI a3), some (vI a4), some (vI a5), some (vJ a6), none, some (vJ a8), none, some (vJ a10), none, some (vJ a12), none, some (vI a14), some (vI a15), none, none, none, none] [vI z6] S F G Q
  obtain ⟨ht, hf⟩ := h
  refine go_ifne (tgt := 168) (show decode cX10_level 161 = .ok (.ifCond .ne 7, 3) by decide +kernel) (by decide) (fun hc => ?_) (fun hc => ?_)
  · have h := ht hc
    refine go_aload_n (show decode cX10_level 168 = .ok (.aload_n 0, 1) by decide +kernel) (by rfl) ?_
    refine go_iconst (show decode cX10_level 169 = .ok (.iconst 0, 1) by decide +kernel) (by decide) ?_
    refine go_callV (d2 := d - 1) (M2 := MX10_laysThen) (n := 1) (ci := 10) (av := [vI 0]) (st := []) (show decode cX10_level 170 = .ok (.invokevirtual 282, 3) by decide +kernel) ml_X10_282 mt_X10_laysThen min_X10_laysThen mse_X10_laysThen (by decide) (shm_k hsm 53 (by decide) (by decide)) rfl (Nat.le_of_ble_eq_true rfl) (by omega) (ok_mono h (fun w8 S9 F10 G11 h => ?_))
    obtain ⟨e8, h⟩ := h
    replace e8 := e8.symm; subst e8
    obtain ⟨e9, h⟩ := h
    subst e9
    show Go d MX10_level 173 [some (vR 53), some (vI a1), some (vI a2), some (vI a3), some (vI a4), some (vI a5), some (vJ a6), none, some (vJ a8), none, some (vJ a10), none, some (vJ a12), none, some (vI a14), some (vI a15), none, none, none, none] [] S F10 G11 Q
    refine go_aload_n (show decode cX10_level 173 = .ok (.aload_n 0, 1) by decide +kernel) (by rfl) ?_
    refine go_callV (d2 := d - 1) (M2 := MX10_keepsAcross) (n := 0) (ci := 10) (av := []) (st := []) (show decode cX10_level 174 = .ok (.invokevirtual 286, 3) by decide +kernel) ml_X10_286 mt_X10_keepsAcross min_X10_keepsAcross mse_X10_keepsAcross (by decide) (shm_k hsm 53 (by decide) (by decide)) rfl (Nat.le_of_ble_eq_true rfl) (by omega) (ok_mono h (fun w12 S13 F14 G15 h => ?_))
    obtain ⟨e8, h⟩ := h
    replace e8 := e8.symm; subst e8
    obtain ⟨e9, h⟩ := h
    subst e9
    show Go d MX10_level 177 [some (vR 53), some (vI a1), some (vI a2), some (vI a3), some (vI a4), some (vI a5), some (vJ a6), none, some (vJ a8), none, some (vJ a10), none, some (vJ a12), none, some (vI a14), some (vI a15), none, none, none, none] [] S F14 G15 Q
    refine go_aload_n (show decode cX10_level 177 = .ok (.aload_n 0, 1) by decide +kernel) (by rfl) ?_
    refine go_iconst (show decode cX10_level 178 = .ok (.iconst 1, 1) by decide +kernel) (by decide) ?_
    refine go_iload_n (show decode cX10_level 179 = .ok (.iload_n 3, 1) by decide +kernel) (by rfl) ?_
    refine go_iload (show decode cX10_level 180 = .ok (.iload 5, 2) by decide +kernel) (by rfl) ?_
    refine go_lload (show decode cX10_level 182 = .ok (.lload 12, 2) by decide +kernel) (by rfl) ?_
    refine go_lconst (n := 0) (show decode cX10_level 184 = .ok (.lconst 0, 1) by decide +kernel) ?_
    show Go d MX10_level 185 [some (vR 53), some (vI a1), some (vI a2), some (vI a3), some (vI a4), some (vI a5), some (vJ a6), none, some (vJ a8), none, some (vJ a10), none, some (vJ a12), none, some (vI a14), some (vI a15), none, none, none, none] [vJ 0, vJ a12, vI a5, vI a3, vI 1, vR 53] S F14 G15 Q
    obtain ⟨ht, hf⟩ := h
    refine go_jle (tgt := 194) (show decode cX10_level 185 = .ok (.lcmp, 1) by decide +kernel) (show decode cX10_level 186 = .ok (.ifCond .le 8, 3) by decide +kernel) (by decide) (fun hc => ?_) (fun hc => ?_)
    · have h := ht hc
      refine go_iconst (show decode cX10_level 194 = .ok (.iconst (-1), 1) by decide +kernel) (by decide) ?_
      exact R_X10_level_195 hsm h
    · have h := hf hc
      refine go_iload (show decode cX10_level 189 = .ok (.iload 15, 2) by decide +kernel) (by rfl) ?_
      refine go_goto (tgt := 195) (show decode cX10_level 191 = .ok (.goto 4, 3) by decide +kernel) (by decide) ?_
      exact R_X10_level_195 hsm h
  · have h := hf hc
    refine go_ldc2 (show decode cX10_level 164 = .ok (.ldc2_w 205, 3) by decide +kernel) lc_X10_205 (by decide) ?_
    exact go_lret (show decode cX10_level 167 = .ok (.lreturn, 1) by decide +kernel) rfl h
def V_X10_level_129 (d : Nat) (S : AS) (F : AF) (G : AG) (Q : AQ) (a1 : Int) (a2 : Int) (a3 : Int) (a4 : Int) (a5 : Int) (a6 : Int) (a8 : Int) (a10 : Int) (a12 : Int) (a14 : Int) (s0 : Int) : Prop :=
  (1 ≤ d) ∧
  Ok (d - 1) MX10_wantsAll [vR 53, vI 0, vI a2, vI a4, vI (-1)] S F G (fun w2 S3 F4 G5 =>
  S3 = S ∧
  w2 = none ∧
  ((a12 ≤ 0) →
    V_X10_level_156 d S F4 G5 Q a1 a2 a3 a4 a5 a6 a8 a10 a12 a14 s0) ∧
  ((¬ a12 ≤ 0) →
    (r32 (a14 + 1)) ∧
    Ok (d - 1) MX10_wants [vR 53, vI 0, vI (a14 + 1)] S F4 G5 (fun w7 S8 F9 G10 =>
    S8 = S ∧
    w7 = none ∧
    V_X10_level_156 d S F9 G10 Q a1 a2 a3 a4 a5 a6 a8 a10 a12 a14 s0)))
theorem R_X10_level_129 {d : Nat} {S : AS} {F : AF} {G : AG} {Q : AQ} {a1 : Int} {a2 : Int} {a3 : Int} {a4 : Int} {a5 : Int} {a6 : Int} {a8 : Int} {a10 : Int} {a12 : Int} {a14 : Int} {s0 : Int} (hsm : ShM S) (h : V_X10_level_129 d S F G Q a1 a2 a3 a4 a5 a6 a8 a10 a12 a14 s0) : Go d MX10_level 129 [some (vR 53), some (vI a1), some (vI a2), some (vI a3), some (vI a4), some (vI a5), some (vJ a6), none, some (vJ a8), none, some (vJ a10), none, some (vJ a12), none, some (vI a14), none, none, none, none, none] [vI s0] S F G Q := by
  unfold V_X10_level_129 at h
  refine go_istore (show decode cX10_level 129 = .ok (.istore 15, 2) by decide +kernel) (by decide) ?_
  show Go d MX10_level 131 [some (vR 53), some (vI a1), some (vI a2), some (vI a3), some (vI a4), some (vI a5), some (vJ a6), none, some (vJ a8), none, some (vJ a10), none, some (vJ a12), none, some (vI a14), some (vI s0), none, none, none, none] [] S F G Q
  refine go_aload_n (show decode cX10_level 131 = .ok (.aload_n 0, 1) by decide +kernel) (by rfl) ?_
  refine go_iconst (show decode cX10_level 132 = .ok (.iconst 0, 1) by decide +kernel) (by decide) ?_
  refine go_iload_n (show decode cX10_level 133 = .ok (.iload_n 2, 1) by decide +kernel) (by rfl) ?_
  refine go_iload (show decode cX10_level 134 = .ok (.iload 4, 2) by decide +kernel) (by rfl) ?_
  refine go_iconst (show decode cX10_level 136 = .ok (.iconst (-1), 1) by decide +kernel) (by decide) ?_
  obtain ⟨q1, h⟩ := h
  refine go_callV (d2 := d - 1) (M2 := MX10_wantsAll) (n := 4) (ci := 10) (av := [vI 0, vI a2, vI a4, vI (-1)]) (st := []) (show decode cX10_level 137 = .ok (.invokevirtual 149, 3) by decide +kernel) ml_X10_149 mt_X10_wantsAll min_X10_wantsAll mse_X10_wantsAll (by decide) (shm_k hsm 53 (by decide) (by decide)) rfl (Nat.le_of_ble_eq_true rfl) (by omega) (ok_mono h (fun w2 S3 F4 G5 h => ?_))
  obtain ⟨e8, h⟩ := h
  replace e8 := e8.symm; subst e8
  obtain ⟨e9, h⟩ := h
  subst e9
  show Go d MX10_level 140 [some (vR 53), some (vI a1), some (vI a2), some (vI a3), some (vI a4), some (vI a5), some (vJ a6), none, some (vJ a8), none, some (vJ a10), none, some (vJ a12), none, some (vI a14), some (vI s0), none, none, none, none] [] S F4 G5 Q
  refine go_lload (show decode cX10_level 140 = .ok (.lload 12, 2) by decide +kernel) (by rfl) ?_
  refine go_lconst (n := 0) (show decode cX10_level 142 = .ok (.lconst 0, 1) by decide +kernel) ?_
  show Go d MX10_level 143 [some (vR 53), some (vI a1), some (vI a2), some (vI a3), some (vI a4), some (vI a5), some (vJ a6), none, some (vJ a8), none, some (vJ a10), none, some (vJ a12), none, some (vI a14), some (vI s0), none, none, none, none] [vJ 0, vJ a12] S F4 G5 Q
  obtain ⟨ht, hf⟩ := h
  refine go_jle (tgt := 156) (show decode cX10_level 143 = .ok (.lcmp, 1) by decide +kernel) (show decode cX10_level 144 = .ok (.ifCond .le 12, 3) by decide +kernel) (by decide) (fun hc => ?_) (fun hc => ?_)
  · have h := ht hc
    exact R_X10_level_156 hsm h
  · have h := hf hc
    refine go_aload_n (show decode cX10_level 147 = .ok (.aload_n 0, 1) by decide +kernel) (by rfl) ?_
    refine go_iconst (show decode cX10_level 148 = .ok (.iconst 0, 1) by decide +kernel) (by decide) ?_
    refine go_iload (show decode cX10_level 149 = .ok (.iload 14, 2) by decide +kernel) (by rfl) ?_
    refine go_iconst (show decode cX10_level 151 = .ok (.iconst 1, 1) by decide +kernel) (by decide) ?_
    obtain ⟨q6, h⟩ := h
    refine go_iadd (show decode cX10_level 152 = .ok (.iadd, 1) by decide +kernel) q6 ?_
    refine go_callV (d2 := d - 1) (M2 := MX10_wants) (n := 2) (ci := 10) (av := [vI 0, vI (a14 + 1)]) (st := []) (show decode cX10_level 153 = .ok (.invokevirtual 145, 3) by decide +kernel) ml_X10_145 mt_X10_wants min_X10_wants mse_X10_wants (by decide) (shm_k hsm 53 (by decide) (by decide)) rfl (Nat.le_of_ble_eq_true rfl) (by omega) (ok_mono h (fun w7 S8 F9 G10 h => ?_))
    obtain ⟨e8, h⟩ := h
    replace e8 := e8.symm; subst e8
    obtain ⟨e9, h⟩ := h
    subst e9
    show Go d MX10_level 156 [some (vR 53), some (vI a1), some (vI a2), some (vI a3), some (vI a4), some (vI a5), some (vJ a6), none, some (vJ a8), none, some (vJ a10), none, some (vJ a12), none, some (vI a14), some (vI s0), none, none, none, none] [] S F9 G10 Q
    exact R_X10_level_156 hsm h
def V_X10_level_101 (d : Nat) (S : AS) (F : AF) (G : AG) (Q : AQ) (a1 : Int) (a2 : Int) (a3 : Int) (a4 : Int) (a5 : Int) (a6 : Int) (a8 : Int) (a10 : Int) (a12 : Int) (s0 : Int) : Prop :=
  ((¬ a12 = 0) →
    (r64 (a12 - 1)) ∧
    (r32 (a4 - a2)) ∧
    (r32 ((a4 - a2) + 1)) ∧
    (¬ ((a4 - a2) + 1) = 0) ∧
    (r64 (Int.tdiv (a12 - 1) ((a4 - a2) + 1))) ∧
    (r32 (Int.tdiv (a12 - 1) ((a4 - a2) + 1))) ∧
    (r32 (a3 + (Int.tdiv (a12 - 1) ((a4 - a2) + 1)))) ∧
    V_X10_level_129 d S F G Q a1 a2 a3 a4 a5 a6 a8 a10 a12 s0 (a3 + (Int.tdiv (a12 - 1) ((a4 - a2) + 1)))) ∧
  ((a12 = 0) →
    V_X10_level_129 d S F G Q a1 a2 a3 a4 a5 a6 a8 a10 a12 s0 a3)
theorem R_X10_level_101 {d : Nat} {S : AS} {F : AF} {G : AG} {Q : AQ} {a1 : Int} {a2 : Int} {a3 : Int} {a4 : Int} {a5 : Int} {a6 : Int} {a8 : Int} {a10 : Int} {a12 : Int} {s0 : Int} (hsm : ShM S) (h : V_X10_level_101 d S F G Q a1 a2 a3 a4 a5 a6 a8 a10 a12 s0) : Go d MX10_level 101 [some (vR 53), some (vI a1), some (vI a2), some (vI a3), some (vI a4), some (vI a5), some (vJ a6), none, some (vJ a8), none, some (vJ a10), none, some (vJ a12), none, none, none, none, none, none, none] [vI s0] S F G Q := by
  unfold V_X10_level_101 at h
  refine go_istore (show decode cX10_level 101 = .ok (.istore 14, 2) by decide +kernel) (by decide) ?_
  show Go d MX10_level 103 [some (vR 53), some (vI a1), some (vI a2), some (vI a3), some (vI a4), some (vI a5), some (vJ a6), none, some (vJ a8), none, some (vJ a10), none, some (vJ a12), none, some (vI s0), none, none, none, none, none] [] S F G Q
  refine go_lload (show decode cX10_level 103 = .ok (.lload 12, 2) by decide +kernel) (by rfl) ?_
  refine go_lconst (n := 0) (show decode cX10_level 105 = .ok (.lconst 0, 1) by decide +kernel) ?_
  show Go d MX10_level 106 [some (vR 53), some (vI a1), some (vI a2), some (vI a3), some (vI a4), some (vI a5), some (vJ a6), none, some (vJ a8), none, some (vJ a10), none, some (vJ a12), none, some (vI s0), none, none, none, none, none] [vJ 0, vJ a12] S F G Q
  obtain ⟨ht, hf⟩ := h
  refine go_jne (tgt := 114) (show decode cX10_level 106 = .ok (.lcmp, 1) by decide +kernel) (show decode cX10_level 107 = .ok (.ifCond .ne 7, 3) by decide +kernel) (by decide) (fun hc => ?_) (fun hc => ?_)
  · have h := ht hc
    refine go_iload_n (show decode cX10_level 114 = .ok (.iload_n 3, 1) by decide +kernel) (by rfl) ?_
    refine go_lload (show decode cX10_level 115 = .ok (.lload 12, 2) by decide +kernel) (by rfl) ?_
    refine go_lconst (n := 1) (show decode cX10_level 117 = .ok (.lconst 1, 1) by decide +kernel) ?_
    show Go d MX10_level 118 [some (vR 53), some (vI a1), some (vI a2), some (vI a3), some (vI a4), some (vI a5), some (vJ a6), none, some (vJ a8), none, some (vJ a10), none, some (vJ a12), none, some (vI s0), none, none, none, none, none] [vJ 1, vJ a12, vI a3] S F G Q
    obtain ⟨q1, h⟩ := h
    refine go_lsub (show decode cX10_level 118 = .ok (.lsub, 1) by decide +kernel) q1 ?_
    refine go_iload (show decode cX10_level 119 = .ok (.iload 4, 2) by decide +kernel) (by rfl) ?_
    refine go_iload_n (show decode cX10_level 121 = .ok (.iload_n 2, 1) by decide +kernel) (by rfl) ?_
    obtain ⟨q2, h⟩ := h
    refine go_isub (show decode cX10_level 122 = .ok (.isub, 1) by decide +kernel) q2 ?_
    refine go_iconst (show decode cX10_level 123 = .ok (.iconst 1, 1) by decide +kernel) (by decide) ?_
    obtain ⟨q3, h⟩ := h
    refine go_iadd (show decode cX10_level 124 = .ok (.iadd, 1) by decide +kernel) q3 ?_
    refine go_i2l (show decode cX10_level 125 = .ok (.i2l, 1) by decide +kernel) ?_
    obtain ⟨q4, h⟩ := h
    obtain ⟨q5, h⟩ := h
    refine go_ldiv (show decode cX10_level 126 = .ok (.ldiv, 1) by decide +kernel) q4 q5 ?_
    obtain ⟨q6, h⟩ := h
    refine go_l2i (show decode cX10_level 127 = .ok (.l2i, 1) by decide +kernel) q6 ?_
    obtain ⟨q7, h⟩ := h
    refine go_iadd (show decode cX10_level 128 = .ok (.iadd, 1) by decide +kernel) q7 ?_
    exact R_X10_level_129 hsm h
  · have h := hf hc
    refine go_iload_n (show decode cX10_level 110 = .ok (.iload_n 3, 1) by decide +kernel) (by rfl) ?_
    refine go_goto (tgt := 129) (show decode cX10_level 111 = .ok (.goto 18, 3) by decide +kernel) (by decide) ?_
    exact R_X10_level_129 hsm h
def V_X10_level_0 (d : Nat) (S : AS) (F : AF) (G : AG) (Q : AQ) (a1 : Int) (a2 : Int) (a3 : Int) (a4 : Int) (a5 : Int) : Prop :=
  ∀ F1 : AF, F1 = fu F 53 0 0 →
  (1 ≤ d) ∧
  ∃ z7 : Int, Pu (d - 1) MX10_isGood [vI a1] S F1 G (some (vI z7)) ∧
  ((z7 = 0) →
    Q (some (vJ (-2))) S F1 G) ∧
  ((¬ z7 = 0) →
    ∃ z13 : Int, Pu (d - 1) MX10_isRectangle [vR 53, vI a2, vI a3, vI a4, vI a5] S F1 G (some (vI z13)) ∧
    ((¬ z13 = 0) →
      (r32 (a4 - a2)) ∧
      (r64 ((a4 - a2) + 1)) ∧
      (r32 (a5 - a3)) ∧
      (r64 ((a5 - a3) + 1)) ∧
      (r64 (((a4 - a2) + 1) * ((a5 - a3) + 1))) ∧
      ∀ x20 : Int, x20 = ((a4 - a2) + 1) * ((a5 - a3) + 1) →
      ∃ z25 : Int, Pu (d - 1) MX10_sumOf [vR 53, vI a1, vI a2, vI a3, vI a4, vI a5] S F1 G (some (vJ z25)) ∧
      (¬ x20 = 0) ∧
      (r64 (Int.tdiv z25 x20)) ∧
      ∀ x29 : Int, x29 = Int.tdiv z25 x20 →
      (r64 (Int.tmod z25 x20)) ∧
      ∀ x31 : Int, x31 = Int.tmod z25 x20 →
      ((¬ x31 = 0) →
        (r64 (x31 - 1)) ∧
        (r32 ((a4 - a2) + 1)) ∧
        (¬ ((a4 - a2) + 1) = 0) ∧
        (r64 (Int.tdiv (x31 - 1) ((a4 - a2) + 1))) ∧
        (r64 (Int.tmod (x31 - 1) ((a4 - a2) + 1))) ∧
        (r32 (Int.tmod (x31 - 1) ((a4 - a2) + 1))) ∧
        (r32 (a2 + (Int.tmod (x31 - 1) ((a4 - a2) + 1)))) ∧
        V_X10_level_101 d S F1 G Q a1 a2 a3 a4 a5 x20 z25 x29 x31 (a2 + (Int.tmod (x31 - 1) ((a4 - a2) + 1)))) ∧
      ((x31 = 0) →
        (r32 (a2 - 1)) ∧
        V_X10_level_101 d S F1 G Q a1 a2 a3 a4 a5 x20 z25 x29 x31 (a2 - 1))) ∧
    ((z13 = 0) →
      Q (some (vJ (-2))) S F1 G))
theorem R_X10_level_0 {d : Nat} {S : AS} {F : AF} {G : AG} {Q : AQ} {a1 : Int} {a2 : Int} {a3 : Int} {a4 : Int} {a5 : Int} (hsm : ShM S) (h : V_X10_level_0 d S F G Q a1 a2 a3 a4 a5) : Go d MX10_level 0 [some (vR 53), some (vI a1), some (vI a2), some (vI a3), some (vI a4), some (vI a5), none, none, none, none, none, none, none, none, none, none, none, none, none, none] [] S F G Q := by
  unfold V_X10_level_0 at h
  refine go_aload_n (show decode cX10_level 0 = .ok (.aload_n 0, 1) by decide +kernel) (by rfl) ?_
  refine go_iconst (show decode cX10_level 1 = .ok (.iconst 0, 1) by decide +kernel) (by decide) ?_
  refine go_putI (show decode cX10_level 2 = .ok (.putfield 1, 3) by decide +kernel) fl_X10_1 rfl (Or.inl rfl) (shm_k hsm 53 (by decide) (by decide)) ?_
  obtain ⟨F1, F1e⟩ : ∃ F1 : AF, F1 = fu F 53 0 0 := ⟨_, rfl⟩
  have h := h F1 F1e
  rw [← F1e]
  refine go_iload_n (show decode cX10_level 5 = .ok (.iload_n 1, 1) by decide +kernel) (by rfl) ?_
  obtain ⟨q2, h⟩ := h
  obtain ⟨z7, p8, h⟩ := h
  refine go_callS (d2 := d - 1) (M2 := MX10_isGood) (n := 1) (av := [vI a1]) (st := []) (show decode cX10_level 6 = .ok (.invokestatic 167, 3) by decide +kernel) ml_X10_167 mt_X10_isGood mst_X10_isGood rfl (Nat.le_of_ble_eq_true rfl) (by omega) (ok_mono p8 (fun w3 S4 F5 G6 e9 => ?_))
  obtain ⟨e1, e2, e3, e4⟩ := e9
  subst e1
  replace e2 := e2.symm; subst e2
  replace e3 := e3.symm; subst e3
  replace e4 := e4.symm; subst e4
  show Go d MX10_level 9 [some (vR 53), some (vI a1), some (vI a2), some (vI a3), some (vI a4), some (vI a5), none, none, none, none, none, none, none, none, none, none, none, none, none, none] [vI z7] S F1 G Q
  obtain ⟨ht, hf⟩ := h
  refine go_ifeq (tgt := 25) (show decode cX10_level 9 = .ok (.ifCond .eq 16, 3) by decide +kernel) (by decide) (fun hc => ?_) (fun hc => ?_)
  · have h := ht hc
    refine go_ldc2 (show decode cX10_level 25 = .ok (.ldc2_w 174, 3) by decide +kernel) lc_X10_174 (by decide) ?_
    exact go_lret (show decode cX10_level 28 = .ok (.lreturn, 1) by decide +kernel) rfl h
  · have h := hf hc
    refine go_aload_n (show decode cX10_level 12 = .ok (.aload_n 0, 1) by decide +kernel) (by rfl) ?_
    refine go_iload_n (show decode cX10_level 13 = .ok (.iload_n 2, 1) by decide +kernel) (by rfl) ?_
    refine go_iload_n (show decode cX10_level 14 = .ok (.iload_n 3, 1) by decide +kernel) (by rfl) ?_
    refine go_iload (show decode cX10_level 15 = .ok (.iload 4, 2) by decide +kernel) (by rfl) ?_
    refine go_iload (show decode cX10_level 17 = .ok (.iload 5, 2) by decide +kernel) (by rfl) ?_
    obtain ⟨z13, p14, h⟩ := h
    refine go_callV (d2 := d - 1) (M2 := MX10_isRectangle) (n := 4) (ci := 10) (av := [vI a2, vI a3, vI a4, vI a5]) (st := []) (show decode cX10_level 19 = .ok (.invokevirtual 170, 3) by decide +kernel) ml_X10_170 mt_X10_isRectangle min_X10_isRectangle mse_X10_isRectangle (by decide) (shm_k hsm 53 (by decide) (by decide)) rfl (Nat.le_of_ble_eq_true rfl) (by omega) (ok_mono p14 (fun w9 S10 F11 G12 e9 => ?_))
    obtain ⟨e1, e2, e3, e4⟩ := e9
    subst e1
    replace e2 := e2.symm; subst e2
    replace e3 := e3.symm; subst e3
    replace e4 := e4.symm; subst e4
    show Go d MX10_level 22 [some (vR 53), some (vI a1), some (vI a2), some (vI a3), some (vI a4), some (vI a5), none, none, none, none, none, none, none, none, none, none, none, none, none, none] [vI z13] S F1 G Q
    obtain ⟨ht, hf⟩ := h
    refine go_ifne (tgt := 29) (show decode cX10_level 22 = .ok (.ifCond .ne 7, 3) by decide +kernel) (by decide) (fun hc => ?_) (fun hc => ?_)
    · have h := ht hc
      refine go_iload (show decode cX10_level 29 = .ok (.iload 4, 2) by decide +kernel) (by rfl) ?_
      refine go_iload_n (show decode cX10_level 31 = .ok (.iload_n 2, 1) by decide +kernel) (by rfl) ?_
      obtain ⟨q15, h⟩ := h
      refine go_isub (show decode cX10_level 32 = .ok (.isub, 1) by decide +kernel) q15 ?_
      refine go_i2l (show decode cX10_level 33 = .ok (.i2l, 1) by decide +kernel) ?_
      refine go_lconst (n := 1) (show decode cX10_level 34 = .ok (.lconst 1, 1) by decide +kernel) ?_
      show Go d MX10_level 35 [some (vR 53), some (vI a1), some (vI a2), some (vI a3), some (vI a4), some (vI a5), none, none, none, none, none, none, none, none, none, none, none, none, none, none] [vJ 1, vJ (a4 - a2)] S F1 G Q
      obtain ⟨q16, h⟩ := h
      refine go_ladd (show decode cX10_level 35 = .ok (.ladd, 1) by decide +kernel) q16 ?_
      refine go_iload (show decode cX10_level 36 = .ok (.iload 5, 2) by decide +kernel) (by rfl) ?_
      refine go_iload_n (show decode cX10_level 38 = .ok (.iload_n 3, 1) by decide +kernel) (by rfl) ?_
      obtain ⟨q17, h⟩ := h
      refine go_isub (show decode cX10_level 39 = .ok (.isub, 1) by decide +kernel) q17 ?_
      refine go_i2l (show decode cX10_level 40 = .ok (.i2l, 1) by decide +kernel) ?_
      refine go_lconst (n := 1) (show decode cX10_level 41 = .ok (.lconst 1, 1) by decide +kernel) ?_
      show Go d MX10_level 42 [some (vR 53), some (vI a1), some (vI a2), some (vI a3), some (vI a4), some (vI a5), none, none, none, none, none, none, none, none, none, none, none, none, none, none] [vJ 1, vJ (a5 - a3), vJ ((a4 - a2) + 1)] S F1 G Q
      obtain ⟨q18, h⟩ := h
      refine go_ladd (show decode cX10_level 42 = .ok (.ladd, 1) by decide +kernel) q18 ?_
      obtain ⟨q19, h⟩ := h
      refine go_lmul (show decode cX10_level 43 = .ok (.lmul, 1) by decide +kernel) q19 ?_
      obtain ⟨x20, x20e⟩ : ∃ x20 : Int, x20 = ((a4 - a2) + 1) * ((a5 - a3) + 1) := ⟨_, rfl⟩
      have h := h x20 x20e
      rw [← x20e]
      refine go_lstore (show decode cX10_level 44 = .ok (.lstore 6, 2) by decide +kernel) (by decide) ?_
      show Go d MX10_level 46 [some (vR 53), some (vI a1), some (vI a2), some (vI a3), some (vI a4), some (vI a5), some (vJ x20), none, none, none, none, none, none, none, none, none, none, none, none, none] [] S F1 G Q
      refine go_aload_n (show decode cX10_level 46 = .ok (.aload_n 0, 1) by decide +kernel) (by rfl) ?_
      refine go_iload_n (show decode cX10_level 47 = .ok (.iload_n 1, 1) by decide +kernel) (by rfl) ?_
      refine go_iload_n (show decode cX10_level 48 = .ok (.iload_n 2, 1) by decide +kernel) (by rfl) ?_
      refine go_iload_n (show decode cX10_level 49 = .ok (.iload_n 3, 1) by decide +kernel) (by rfl) ?_
      refine go_iload (show decode cX10_level 50 = .ok (.iload 4, 2) by decide +kernel) (by rfl) ?_
      refine go_iload (show decode cX10_level 52 = .ok (.iload 5, 2) by decide +kernel) (by rfl) ?_
      obtain ⟨z25, p26, h⟩ := h
      refine go_callV (d2 := d - 1) (M2 := MX10_sumOf) (n := 5) (ci := 10) (av := [vI a1, vI a2, vI a3, vI a4, vI a5]) (st := []) (show decode cX10_level 54 = .ok (.invokevirtual 251, 3) by decide +kernel) ml_X10_251 mt_X10_sumOf min_X10_sumOf mse_X10_sumOf (by decide) (shm_k hsm 53 (by decide) (by decide)) rfl (Nat.le_of_ble_eq_true rfl) (by omega) (ok_mono p26 (fun w21 S22 F23 G24 e9 => ?_))
      obtain ⟨e1, e2, e3, e4⟩ := e9
      subst e1
      replace e2 := e2.symm; subst e2
      replace e3 := e3.symm; subst e3
      replace e4 := e4.symm; subst e4
      show Go d MX10_level 57 [some (vR 53), some (vI a1), some (vI a2), some (vI a3), some (vI a4), some (vI a5), some (vJ x20), none, none, none, none, none, none, none, none, none, none, none, none, none] [vJ z25] S F1 G Q
      refine go_lstore (show decode cX10_level 57 = .ok (.lstore 8, 2) by decide +kernel) (by decide) ?_
      show Go d MX10_level 59 [some (vR 53), some (vI a1), some (vI a2), some (vI a3), some (vI a4), some (vI a5), some (vJ x20), none, some (vJ z25), none, none, none, none, none, none, none, none, none, none, none] [] S F1 G Q
      refine go_lload (show decode cX10_level 59 = .ok (.lload 8, 2) by decide +kernel) (by rfl) ?_
      refine go_lload (show decode cX10_level 61 = .ok (.lload 6, 2) by decide +kernel) (by rfl) ?_
      obtain ⟨q27, h⟩ := h
      obtain ⟨q28, h⟩ := h
      refine go_ldiv (show decode cX10_level 63 = .ok (.ldiv, 1) by decide +kernel) q27 q28 ?_
      obtain ⟨x29, x29e⟩ : ∃ x29 : Int, x29 = Int.tdiv z25 x20 := ⟨_, rfl⟩
      have h := h x29 x29e
      rw [← x29e]
      refine go_lstore (show decode cX10_level 64 = .ok (.lstore 10, 2) by decide +kernel) (by decide) ?_
      show Go d MX10_level 66 [some (vR 53), some (vI a1), some (vI a2), some (vI a3), some (vI a4), some (vI a5), some (vJ x20), none, some (vJ z25), none, some (vJ x29), none, none, none, none, none, none, none, none, none] [] S F1 G Q
      refine go_lload (show decode cX10_level 66 = .ok (.lload 8, 2) by decide +kernel) (by rfl) ?_
      refine go_lload (show decode cX10_level 68 = .ok (.lload 6, 2) by decide +kernel) (by rfl) ?_
      obtain ⟨q30, h⟩ := h
      refine go_lrem (show decode cX10_level 70 = .ok (.lrem, 1) by decide +kernel) q27 q28 q30 ?_
      obtain ⟨x31, x31e⟩ : ∃ x31 : Int, x31 = Int.tmod z25 x20 := ⟨_, rfl⟩
      have h := h x31 x31e
      rw [← x31e]
      refine go_lstore (show decode cX10_level 71 = .ok (.lstore 12, 2) by decide +kernel) (by decide) ?_
      show Go d MX10_level 73 [some (vR 53), some (vI a1), some (vI a2), some (vI a3), some (vI a4), some (vI a5), some (vJ x20), none, some (vJ z25), none, some (vJ x29), none, some (vJ x31), none, none, none, none, none, none, none] [] S F1 G Q
      refine go_lload (show decode cX10_level 73 = .ok (.lload 12, 2) by decide +kernel) (by rfl) ?_
      refine go_lconst (n := 0) (show decode cX10_level 75 = .ok (.lconst 0, 1) by decide +kernel) ?_
      show Go d MX10_level 76 [some (vR 53), some (vI a1), some (vI a2), some (vI a3), some (vI a4), some (vI a5), some (vJ x20), none, some (vJ z25), none, some (vJ x29), none, some (vJ x31), none, none, none, none, none, none, none] [vJ 0, vJ x31] S F1 G Q
      obtain ⟨ht, hf⟩ := h
      refine go_jne (tgt := 86) (show decode cX10_level 76 = .ok (.lcmp, 1) by decide +kernel) (show decode cX10_level 77 = .ok (.ifCond .ne 9, 3) by decide +kernel) (by decide) (fun hc => ?_) (fun hc => ?_)
      · have h := ht hc
        refine go_iload_n (show decode cX10_level 86 = .ok (.iload_n 2, 1) by decide +kernel) (by rfl) ?_
        refine go_lload (show decode cX10_level 87 = .ok (.lload 12, 2) by decide +kernel) (by rfl) ?_
        refine go_lconst (n := 1) (show decode cX10_level 89 = .ok (.lconst 1, 1) by decide +kernel) ?_
        show Go d MX10_level 90 [some (vR 53), some (vI a1), some (vI a2), some (vI a3), some (vI a4), some (vI a5), some (vJ x20), none, some (vJ z25), none, some (vJ x29), none, some (vJ x31), none, none, none, none, none, none, none] [vJ 1, vJ x31, vI a2] S F1 G Q
        obtain ⟨q32, h⟩ := h
        refine go_lsub (show decode cX10_level 90 = .ok (.lsub, 1) by decide +kernel) q32 ?_
        refine go_iload (show decode cX10_level 91 = .ok (.iload 4, 2) by decide +kernel) (by rfl) ?_
        refine go_iload_n (show decode cX10_level 93 = .ok (.iload_n 2, 1) by decide +kernel) (by rfl) ?_
        refine go_isub (show decode cX10_level 94 = .ok (.isub, 1) by decide +kernel) q15 ?_
        refine go_iconst (show decode cX10_level 95 = .ok (.iconst 1, 1) by decide +kernel) (by decide) ?_
        obtain ⟨q33, h⟩ := h
        refine go_iadd (show decode cX10_level 96 = .ok (.iadd, 1) by decide +kernel) q33 ?_
        refine go_i2l (show decode cX10_level 97 = .ok (.i2l, 1) by decide +kernel) ?_
        obtain ⟨q34, h⟩ := h
        obtain ⟨q35, h⟩ := h
        obtain ⟨q36, h⟩ := h
        refine go_lrem (show decode cX10_level 98 = .ok (.lrem, 1) by decide +kernel) q34 q35 q36 ?_
        obtain ⟨q37, h⟩ := h
        refine go_l2i (show decode cX10_level 99 = .ok (.l2i, 1) by decide +kernel) q37 ?_
        obtain ⟨q38, h⟩ := h
        refine go_iadd (show decode cX10_level 100 = .ok (.iadd, 1) by decide +kernel) q38 ?_
        exact R_X10_level_101 hsm h
      · have h := hf hc
        refine go_iload_n (show decode cX10_level 80 = .ok (.iload_n 2, 1) by decide +kernel) (by rfl) ?_
        refine go_iconst (show decode cX10_level 81 = .ok (.iconst 1, 1) by decide +kernel) (by decide) ?_
        obtain ⟨q39, h⟩ := h
        refine go_isub (show decode cX10_level 82 = .ok (.isub, 1) by decide +kernel) q39 ?_
        refine go_goto (tgt := 101) (show decode cX10_level 83 = .ok (.goto 18, 3) by decide +kernel) (by decide) ?_
        exact R_X10_level_101 hsm h
    · have h := hf hc
      refine go_ldc2 (show decode cX10_level 25 = .ok (.ldc2_w 174, 3) by decide +kernel) lc_X10_174 (by decide) ?_
      exact go_lret (show decode cX10_level 28 = .ok (.lreturn, 1) by decide +kernel) rfl h
def V_X10_first0_99 (d : Nat) (S : AS) (F : AF) (G : AG) (Q : AQ) (a1 : Int) (a2 : Int) (a3 : Int) (a5 : Int) (s0 : Int) (s1 : Int) : Prop :=
  (r32 (s0 - (F 53 24))) ∧
  (r64 ((s0 - (F 53 24)) + 1)) ∧
  (r64 (s1 + ((s0 - (F 53 24)) + 1))) ∧
  ∀ x4 : Int, x4 = s1 + ((s0 - (F 53 24)) + 1) →
  Q (some (vJ x4)) S F G
theorem R_X10_first0_99 {d : Nat} {S : AS} {F : AF} {G : AG} {Q : AQ} {a1 : Int} {a2 : Int} {a3 : Int} {a5 : Int} {s0 : Int} {s1 : Int} (hsm : ShM S) (h : V_X10_first0_99 d S F G Q a1 a2 a3 a5 s0 s1) : Go d MX10_first0 99 [some (vR 53), some (vI a1), some (vI a2), some (vJ a3), none, some (vJ a5), none] [vI s0, vJ s1] S F G Q := by
  unfold V_X10_first0_99 at h
  refine go_aload_n (show decode cX10_first0 99 = .ok (.aload_n 0, 1) by decide +kernel) (by rfl) ?_
  refine go_getI (show decode cX10_first0 100 = .ok (.getfield 239, 3) by decide +kernel) fl_X10_239 (Or.inl rfl) (shm_k hsm 53 (by decide) (by decide)) ?_
  obtain ⟨q1, h⟩ := h
  refine go_isub (show decode cX10_first0 103 = .ok (.isub, 1) by decide +kernel) q1 ?_
  refine go_i2l (show decode cX10_first0 104 = .ok (.i2l, 1) by decide +kernel) ?_
  refine go_lconst (n := 1) (show decode cX10_first0 105 = .ok (.lconst 1, 1) by decide +kernel) ?_
  show Go d MX10_first0 106 [some (vR 53), some (vI a1), some (vI a2), some (vJ a3), none, some (vJ a5), none] [vJ 1, vJ (s0 - (F 53 24)), vJ s1] S F G Q
  obtain ⟨q2, h⟩ := h
  refine go_ladd (show decode cX10_first0 106 = .ok (.ladd, 1) by decide +kernel) q2 ?_
  obtain ⟨q3, h⟩ := h
  refine go_ladd (show decode cX10_first0 107 = .ok (.ladd, 1) by decide +kernel) q3 ?_
  obtain ⟨x4, x4e⟩ : ∃ x4 : Int, x4 = s1 + ((s0 - (F 53 24)) + 1) := ⟨_, rfl⟩
  have h := h x4 x4e
  rw [← x4e]
  refine go_lstore (show decode cX10_first0 108 = .ok (.lstore 5, 2) by decide +kernel) (by decide) ?_
  show Go d MX10_first0 110 [some (vR 53), some (vI a1), some (vI a2), some (vJ a3), none, some (vJ x4), none] [] S F G Q
  refine go_lload (show decode cX10_first0 110 = .ok (.lload 5, 2) by decide +kernel) (by rfl) ?_
  exact go_lret (show decode cX10_first0 112 = .ok (.lreturn, 1) by decide +kernel) rfl h
def V_X10_first0_55 (d : Nat) (S : AS) (F : AF) (G : AG) (Q : AQ) (a1 : Int) (a2 : Int) (a3 : Int) (s0 : Int) : Prop :=
  ((a2 < F 53 25) →
    Q (some (vJ s0)) S F G) ∧
  ((¬ a2 < F 53 25) →
    ((F 53 27 < a2) →
      Q (some (vJ s0)) S F G) ∧
    ((¬ F 53 27 < a2) →
      ((a1 < F 53 24) →
        Q (some (vJ s0)) S F G) ∧
      ((¬ a1 < F 53 24) →
        ((a1 ≤ F 53 26) →
          V_X10_first0_99 d S F G Q a1 a2 a3 s0 a1 s0) ∧
        ((¬ a1 ≤ F 53 26) →
          V_X10_first0_99 d S F G Q a1 a2 a3 s0 (F 53 26) s0))))
theorem R_X10_first0_55 {d : Nat} {S : AS} {F : AF} {G : AG} {Q : AQ} {a1 : Int} {a2 : Int} {a3 : Int} {s0 : Int} (hsm : ShM S) (h : V_X10_first0_55 d S F G Q a1 a2 a3 s0) : Go d MX10_first0 55 [some (vR 53), some (vI a1), some (vI a2), some (vJ a3), none, none, none] [vJ s0] S F G Q := by
  unfold V_X10_first0_55 at h
  refine go_lstore (show decode cX10_first0 55 = .ok (.lstore 5, 2) by decide +kernel) (by decide) ?_
  show Go d MX10_first0 57 [some (vR 53), some (vI a1), some (vI a2), some (vJ a3), none, some (vJ s0), none] [] S F G Q
  refine go_aload_n (show decode cX10_first0 57 = .ok (.aload_n 0, 1) by decide +kernel) (by rfl) ?_
  refine go_getI (show decode cX10_first0 58 = .ok (.getfield 242, 3) by decide +kernel) fl_X10_242 (Or.inl rfl) (shm_k hsm 53 (by decide) (by decide)) ?_
  refine go_iload_n (show decode cX10_first0 61 = .ok (.iload_n 2, 1) by decide +kernel) (by rfl) ?_
  obtain ⟨ht, hf⟩ := h
  refine go_icmpgt (tgt := 110) (show decode cX10_first0 62 = .ok (.if_icmp .gt 48, 3) by decide +kernel) (by decide) (fun hc => ?_) (fun hc => ?_)
  · have h := ht hc
    refine go_lload (show decode cX10_first0 110 = .ok (.lload 5, 2) by decide +kernel) (by rfl) ?_
    exact go_lret (show decode cX10_first0 112 = .ok (.lreturn, 1) by decide +kernel) rfl h
  · have h := hf hc
    refine go_aload_n (show decode cX10_first0 65 = .ok (.aload_n 0, 1) by decide +kernel) (by rfl) ?_
    refine go_getI (show decode cX10_first0 66 = .ok (.getfield 248, 3) by decide +kernel) fl_X10_248 (Or.inl rfl) (shm_k hsm 53 (by decide) (by decide)) ?_
    refine go_iload_n (show decode cX10_first0 69 = .ok (.iload_n 2, 1) by decide +kernel) (by rfl) ?_
    obtain ⟨ht, hf⟩ := h
    refine go_icmplt (tgt := 110) (show decode cX10_first0 70 = .ok (.if_icmp .lt 40, 3) by decide +kernel) (by decide) (fun hc => ?_) (fun hc => ?_)
    · have h := ht hc
      refine go_lload (show decode cX10_first0 110 = .ok (.lload 5, 2) by decide +kernel) (by rfl) ?_
      exact go_lret (show decode cX10_first0 112 = .ok (.lreturn, 1) by decide +kernel) rfl h
    · have h := hf hc
      refine go_aload_n (show decode cX10_first0 73 = .ok (.aload_n 0, 1) by decide +kernel) (by rfl) ?_
      refine go_getI (show decode cX10_first0 74 = .ok (.getfield 239, 3) by decide +kernel) fl_X10_239 (Or.inl rfl) (shm_k hsm 53 (by decide) (by decide)) ?_
      refine go_iload_n (show decode cX10_first0 77 = .ok (.iload_n 1, 1) by decide +kernel) (by rfl) ?_
      obtain ⟨ht, hf⟩ := h
      refine go_icmpgt (tgt := 110) (show decode cX10_first0 78 = .ok (.if_icmp .gt 32, 3) by decide +kernel) (by decide) (fun hc => ?_) (fun hc => ?_)
      · have h := ht hc
        refine go_lload (show decode cX10_first0 110 = .ok (.lload 5, 2) by decide +kernel) (by rfl) ?_
        exact go_lret (show decode cX10_first0 112 = .ok (.lreturn, 1) by decide +kernel) rfl h
      · have h := hf hc
        refine go_lload (show decode cX10_first0 81 = .ok (.lload 5, 2) by decide +kernel) (by rfl) ?_
        refine go_aload_n (show decode cX10_first0 83 = .ok (.aload_n 0, 1) by decide +kernel) (by rfl) ?_
        refine go_getI (show decode cX10_first0 84 = .ok (.getfield 245, 3) by decide +kernel) fl_X10_245 (Or.inl rfl) (shm_k hsm 53 (by decide) (by decide)) ?_
        refine go_iload_n (show decode cX10_first0 87 = .ok (.iload_n 1, 1) by decide +kernel) (by rfl) ?_
        obtain ⟨ht, hf⟩ := h
        refine go_icmpge (tgt := 98) (show decode cX10_first0 88 = .ok (.if_icmp .ge 10, 3) by decide +kernel) (by decide) (fun hc => ?_) (fun hc => ?_)
        · have h := ht hc
          refine go_iload_n (show decode cX10_first0 98 = .ok (.iload_n 1, 1) by decide +kernel) (by rfl) ?_
          exact R_X10_first0_99 hsm h
        · have h := hf hc
          refine go_aload_n (show decode cX10_first0 91 = .ok (.aload_n 0, 1) by decide +kernel) (by rfl) ?_
          refine go_getI (show decode cX10_first0 92 = .ok (.getfield 245, 3) by decide +kernel) fl_X10_245 (Or.inl rfl) (shm_k hsm 53 (by decide) (by decide)) ?_
          refine go_goto (tgt := 99) (show decode cX10_first0 95 = .ok (.goto 4, 3) by decide +kernel) (by decide) ?_
          exact R_X10_first0_99 hsm h
def V_X10_first0_30 (d : Nat) (S : AS) (F : AF) (G : AG) (Q : AQ) (a1 : Int) (a2 : Int) (s0 : Int) : Prop :=
  ((s0 ≤ 0) →
    V_X10_first0_55 d S F G Q a1 a2 s0 0) ∧
  ((¬ s0 ≤ 0) →
    (r32 ((F 53 26) - (F 53 24))) ∧
    (r64 (((F 53 26) - (F 53 24)) + 1)) ∧
    (r64 (s0 * (((F 53 26) - (F 53 24)) + 1))) ∧
    V_X10_first0_55 d S F G Q a1 a2 s0 (s0 * (((F 53 26) - (F 53 24)) + 1)))
theorem R_X10_first0_30 {d : Nat} {S : AS} {F : AF} {G : AG} {Q : AQ} {a1 : Int} {a2 : Int} {s0 : Int} (hsm : ShM S) (h : V_X10_first0_30 d S F G Q a1 a2 s0) : Go d MX10_first0 30 [some (vR 53), some (vI a1), some (vI a2), none, none, none, none] [vJ s0] S F G Q := by
  unfold V_X10_first0_30 at h
  refine go_lstore_n (show decode cX10_first0 30 = .ok (.lstore_n 3, 1) by decide +kernel) (by decide) ?_
  show Go d MX10_first0 31 [some (vR 53), some (vI a1), some (vI a2), some (vJ s0), none, none, none] [] S F G Q
  refine go_lload_n (show decode cX10_first0 31 = .ok (.lload_n 3, 1) by decide +kernel) (by rfl) ?_
  refine go_lconst (n := 0) (show decode cX10_first0 32 = .ok (.lconst 0, 1) by decide +kernel) ?_
  show Go d MX10_first0 33 [some (vR 53), some (vI a1), some (vI a2), some (vJ s0), none, none, none] [vJ 0, vJ s0] S F G Q
  obtain ⟨ht, hf⟩ := h
  refine go_jle (tgt := 54) (show decode cX10_first0 33 = .ok (.lcmp, 1) by decide +kernel) (show decode cX10_first0 34 = .ok (.ifCond .le 20, 3) by decide +kernel) (by decide) (fun hc => ?_) (fun hc => ?_)
  · have h := ht hc
    refine go_lconst (n := 0) (show decode cX10_first0 54 = .ok (.lconst 0, 1) by decide +kernel) ?_
    show Go d MX10_first0 55 [some (vR 53), some (vI a1), some (vI a2), some (vJ s0), none, none, none] [vJ 0] S F G Q
    exact R_X10_first0_55 hsm h
  · have h := hf hc
    refine go_lload_n (show decode cX10_first0 37 = .ok (.lload_n 3, 1) by decide +kernel) (by rfl) ?_
    refine go_aload_n (show decode cX10_first0 38 = .ok (.aload_n 0, 1) by decide +kernel) (by rfl) ?_
    refine go_getI (show decode cX10_first0 39 = .ok (.getfield 245, 3) by decide +kernel) fl_X10_245 (Or.inl rfl) (shm_k hsm 53 (by decide) (by decide)) ?_
    refine go_aload_n (show decode cX10_first0 42 = .ok (.aload_n 0, 1) by decide +kernel) (by rfl) ?_
    refine go_getI (show decode cX10_first0 43 = .ok (.getfield 239, 3) by decide +kernel) fl_X10_239 (Or.inl rfl) (shm_k hsm 53 (by decide) (by decide)) ?_
    obtain ⟨q1, h⟩ := h
    refine go_isub (show decode cX10_first0 46 = .ok (.isub, 1) by decide +kernel) q1 ?_
    refine go_i2l (show decode cX10_first0 47 = .ok (.i2l, 1) by decide +kernel) ?_
    refine go_lconst (n := 1) (show decode cX10_first0 48 = .ok (.lconst 1, 1) by decide +kernel) ?_
    show Go d MX10_first0 49 [some (vR 53), some (vI a1), some (vI a2), some (vJ s0), none, none, none] [vJ 1, vJ ((F 53 26) - (F 53 24)), vJ s0] S F G Q
    obtain ⟨q2, h⟩ := h
    refine go_ladd (show decode cX10_first0 49 = .ok (.ladd, 1) by decide +kernel) q2 ?_
    obtain ⟨q3, h⟩ := h
    refine go_lmul (show decode cX10_first0 50 = .ok (.lmul, 1) by decide +kernel) q3 ?_
    refine go_goto (tgt := 55) (show decode cX10_first0 51 = .ok (.goto 4, 3) by decide +kernel) (by decide) ?_
    exact R_X10_first0_55 hsm h
def V_X10_first0_0 (d : Nat) (S : AS) (F : AF) (G : AG) (Q : AQ) (a1 : Int) (a2 : Int) : Prop :=
  ((a2 ≤ F 53 27) →
    (r32 (a2 - (F 53 25))) ∧
    V_X10_first0_30 d S F G Q a1 a2 (a2 - (F 53 25))) ∧
  ((¬ a2 ≤ F 53 27) →
    (r32 ((F 53 27) - (F 53 25))) ∧
    (r64 (((F 53 27) - (F 53 25)) + 1)) ∧
    V_X10_first0_30 d S F G Q a1 a2 (((F 53 27) - (F 53 25)) + 1))
theorem R_X10_first0_0 {d : Nat} {S : AS} {F : AF} {G : AG} {Q : AQ} {a1 : Int} {a2 : Int} (hsm : ShM S) (h : V_X10_first0_0 d S F G Q a1 a2) : Go d MX10_first0 0 [some (vR 53), some (vI a1), some (vI a2), none, none, none, none] [] S F G Q := by
  unfold V_X10_first0_0 at h
  refine go_aload_n (show decode cX10_first0 0 = .ok (.aload_n 0, 1) by decide +kernel) (by rfl) ?_
  refine go_getI (show decode cX10_first0 1 = .ok (.getfield 248, 3) by decide +kernel) fl_X10_248 (Or.inl rfl) (shm_k hsm 53 (by decide) (by decide)) ?_
  refine go_iload_n (show decode cX10_first0 4 = .ok (.iload_n 2, 1) by decide +kernel) (by rfl) ?_
  obtain ⟨ht, hf⟩ := h
  refine go_icmpge (tgt := 23) (show decode cX10_first0 5 = .ok (.if_icmp .ge 18, 3) by decide +kernel) (by decide) (fun hc => ?_) (fun hc => ?_)
  · have h := ht hc
    refine go_iload_n (show decode cX10_first0 23 = .ok (.iload_n 2, 1) by decide +kernel) (by rfl) ?_
    refine go_aload_n (show decode cX10_first0 24 = .ok (.aload_n 0, 1) by decide +kernel) (by rfl) ?_
    refine go_getI (show decode cX10_first0 25 = .ok (.getfield 242, 3) by decide +kernel) fl_X10_242 (Or.inl rfl) (shm_k hsm 53 (by decide) (by decide)) ?_
    obtain ⟨q1, h⟩ := h
    refine go_isub (show decode cX10_first0 28 = .ok (.isub, 1) by decide +kernel) q1 ?_
    refine go_i2l (show decode cX10_first0 29 = .ok (.i2l, 1) by decide +kernel) ?_
    exact R_X10_first0_30 hsm h
  · have h := hf hc
    refine go_aload_n (show decode cX10_first0 8 = .ok (.aload_n 0, 1) by decide +kernel) (by rfl) ?_
    refine go_getI (show decode cX10_first0 9 = .ok (.getfield 248, 3) by decide +kernel) fl_X10_248 (Or.inl rfl) (shm_k hsm 53 (by decide) (by decide)) ?_
    refine go_aload_n (show decode cX10_first0 12 = .ok (.aload_n 0, 1) by decide +kernel) (by rfl) ?_
    refine go_getI (show decode cX10_first0 13 = .ok (.getfield 242, 3) by decide +kernel) fl_X10_242 (Or.inl rfl) (shm_k hsm 53 (by decide) (by decide)) ?_
    obtain ⟨q2, h⟩ := h
    refine go_isub (show decode cX10_first0 16 = .ok (.isub, 1) by decide +kernel) q2 ?_
    refine go_i2l (show decode cX10_first0 17 = .ok (.i2l, 1) by decide +kernel) ?_
    refine go_lconst (n := 1) (show decode cX10_first0 18 = .ok (.lconst 1, 1) by decide +kernel) ?_
    show Go d MX10_first0 19 [some (vR 53), some (vI a1), some (vI a2), none, none, none, none] [vJ 1, vJ ((F 53 27) - (F 53 25))] S F G Q
    obtain ⟨q3, h⟩ := h
    refine go_ladd (show decode cX10_first0 19 = .ok (.ladd, 1) by decide +kernel) q3 ?_
    refine go_goto (tgt := 30) (show decode cX10_first0 20 = .ok (.goto 10, 3) by decide +kernel) (by decide) ?_
    exact R_X10_first0_30 hsm h
def V_X10_zone_0 (d : Nat) (S : AS) (F : AF) (G : AG) (Q : AQ) (a1 : Int) (a2 : Int) (a3 : Int) (a4 : Int) (a5 : Int) (a6 : Int) : Prop :=
  ∀ F1 : AF, F1 = fu F 53 0 0 →
  (1 ≤ d) ∧
  ∃ z7 : Int, Pu (d - 1) MX10_isIn [vJ a1, vJ 0, vJ 5] S F1 G (some (vI z7)) ∧
  ((z7 = 0) →
    Q (some (vJ (-2))) S F1 G) ∧
  ((¬ z7 = 0) →
    ∃ z13 : Int, Pu (d - 1) MX10_isRectangle [vR 53, vI a2, vI a3, vI a4, vI a5] S F1 G (some (vI z13)) ∧
    ((¬ z13 = 0) →
      ∃ z19 : Int, Pu (d - 1) MX10_isIn [vJ a6, vJ 0, vJ 3000000000000000000] S F1 G (some (vI z19)) ∧
      ((¬ z19 = 0) →
        ∃ z25 : Int, Pu (d - 1) MX10_sumOf [vR 53, vI (-1), vI a2, vI a3, vI a4, vI a5] S F1 G (some (vJ z25)) ∧
        ((z25 ≤ a6) →
          (r32 (4 * a1)) ∧
          ((0 : Int) ≤ 4 * a1) ∧
          ((4 * a1 : Int) < 24) ∧
          ∀ G30 : AG, G30 = gu G 63 (4 * a1) a2 →
          (r32 ((4 * a1) + 1)) ∧
          ((0 : Int) ≤ (4 * a1) + 1) ∧
          (((4 * a1) + 1 : Int) < 24) ∧
          ∀ G34 : AG, G34 = gu G30 63 ((4 * a1) + 1) a3 →
          (r32 ((4 * a1) + 2)) ∧
          ((0 : Int) ≤ (4 * a1) + 2) ∧
          (((4 * a1) + 2 : Int) < 24) ∧
          ∀ G38 : AG, G38 = gu G34 63 ((4 * a1) + 2) a4 →
          (r32 ((4 * a1) + 3)) ∧
          ((0 : Int) ≤ (4 * a1) + 3) ∧
          (((4 * a1) + 3 : Int) < 24) ∧
          ∀ G42 : AG, G42 = gu G38 63 ((4 * a1) + 3) a5 →
          ((0 : Int) ≤ a1) ∧
          ((a1 : Int) < 6) ∧
          ∀ G45 : AG, G45 = gu G42 64 a1 a6 →
          ∀ G46 : AG, G46 = gu G45 65 a1 1 →
          Q (some (vJ z25)) S F1 G46) ∧
        ((¬ z25 ≤ a6) →
          Q (some (vJ (-9))) S F1 G)) ∧
      ((z19 = 0) →
        Q (some (vJ (-3))) S F1 G)) ∧
    ((z13 = 0) →
      Q (some (vJ (-2))) S F1 G))
theorem R_X10_zone_0 {d : Nat} {S : AS} {F : AF} {G : AG} {Q : AQ} {a1 : Int} {a2 : Int} {a3 : Int} {a4 : Int} {a5 : Int} {a6 : Int} (hsm : ShM S) (h : V_X10_zone_0 d S F G Q a1 a2 a3 a4 a5 a6) : Go d MX10_zone 0 [some (vR 53), some (vI a1), some (vI a2), some (vI a3), some (vI a4), some (vI a5), some (vJ a6), none, none, none] [] S F G Q := by
  unfold V_X10_zone_0 at h
  refine go_aload_n (show decode cX10_zone 0 = .ok (.aload_n 0, 1) by decide +kernel) (by rfl) ?_
  refine go_iconst (show decode cX10_zone 1 = .ok (.iconst 0, 1) by decide +kernel) (by decide) ?_
  refine go_putI (show decode cX10_zone 2 = .ok (.putfield 1, 3) by decide +kernel) fl_X10_1 rfl (Or.inl rfl) (shm_k hsm 53 (by decide) (by decide)) ?_
  obtain ⟨F1, F1e⟩ : ∃ F1 : AF, F1 = fu F 53 0 0 := ⟨_, rfl⟩
  have h := h F1 F1e
  rw [← F1e]
  refine go_iload_n (show decode cX10_zone 5 = .ok (.iload_n 1, 1) by decide +kernel) (by rfl) ?_
  refine go_i2l (show decode cX10_zone 6 = .ok (.i2l, 1) by decide +kernel) ?_
  refine go_lconst (n := 0) (show decode cX10_zone 7 = .ok (.lconst 0, 1) by decide +kernel) ?_
  show Go d MX10_zone 8 [some (vR 53), some (vI a1), some (vI a2), some (vI a3), some (vI a4), some (vI a5), some (vJ a6), none, none, none] [vJ 0, vJ a1] S F1 G Q
  refine go_ldc2 (show decode cX10_zone 8 = .ok (.ldc2_w 309, 3) by decide +kernel) lc_X10_309 (by decide) ?_
  obtain ⟨q2, h⟩ := h
  obtain ⟨z7, p8, h⟩ := h
  refine go_callS (d2 := d - 1) (M2 := MX10_isIn) (n := 3) (av := [vJ a1, vJ 0, vJ 5]) (st := []) (show decode cX10_zone 11 = .ok (.invokestatic 116, 3) by decide +kernel) ml_X10_116 mt_X10_isIn mst_X10_isIn rfl (Nat.le_of_ble_eq_true rfl) (by omega) (ok_mono p8 (fun w3 S4 F5 G6 e9 => ?_))
  obtain ⟨e1, e2, e3, e4⟩ := e9
  subst e1
  replace e2 := e2.symm; subst e2
  replace e3 := e3.symm; subst e3
  replace e4 := e4.symm; subst e4
  show Go d MX10_zone 14 [some (vR 53), some (vI a1), some (vI a2), some (vI a3), some (vI a4), some (vI a5), some (vJ a6), none, none, none] [vI z7] S F1 G Q
  obtain ⟨ht, hf⟩ := h
  refine go_ifeq (tgt := 30) (show decode cX10_zone 14 = .ok (.ifCond .eq 16, 3) by decide +kernel) (by decide) (fun hc => ?_) (fun hc => ?_)
  · have h := ht hc
    refine go_ldc2 (show decode cX10_zone 30 = .ok (.ldc2_w 174, 3) by decide +kernel) lc_X10_174 (by decide) ?_
    exact go_lret (show decode cX10_zone 33 = .ok (.lreturn, 1) by decide +kernel) rfl h
  · have h := hf hc
    refine go_aload_n (show decode cX10_zone 17 = .ok (.aload_n 0, 1) by decide +kernel) (by rfl) ?_
    refine go_iload_n (show decode cX10_zone 18 = .ok (.iload_n 2, 1) by decide +kernel) (by rfl) ?_
    refine go_iload_n (show decode cX10_zone 19 = .ok (.iload_n 3, 1) by decide +kernel) (by rfl) ?_
    refine go_iload (show decode cX10_zone 20 = .ok (.iload 4, 2) by decide +kernel) (by rfl) ?_
    refine go_iload (show decode cX10_zone 22 = .ok (.iload 5, 2) by decide +kernel) (by rfl) ?_
    obtain ⟨z13, p14, h⟩ := h
    refine go_callV (d2 := d - 1) (M2 := MX10_isRectangle) (n := 4) (ci := 10) (av := [vI a2, vI a3, vI a4, vI a5]) (st := []) (show decode cX10_zone 24 = .ok (.invokevirtual 170, 3) by decide +kernel) ml_X10_170 mt_X10_isRectangle min_X10_isRectangle mse_X10_isRectangle (by decide) (shm_k hsm 53 (by decide) (by decide)) rfl (Nat.le_of_ble_eq_true rfl) (by omega) (ok_mono p14 (fun w9 S10 F11 G12 e9 => ?_))
    obtain ⟨e1, e2, e3, e4⟩ := e9
    subst e1
    replace e2 := e2.symm; subst e2
    replace e3 := e3.symm; subst e3
    replace e4 := e4.symm; subst e4
    show Go d MX10_zone 27 [some (vR 53), some (vI a1), some (vI a2), some (vI a3), some (vI a4), some (vI a5), some (vJ a6), none, none, none] [vI z13] S F1 G Q
    obtain ⟨ht, hf⟩ := h
    refine go_ifne (tgt := 34) (show decode cX10_zone 27 = .ok (.ifCond .ne 7, 3) by decide +kernel) (by decide) (fun hc => ?_) (fun hc => ?_)
    · have h := ht hc
      refine go_lload (show decode cX10_zone 34 = .ok (.lload 6, 2) by decide +kernel) (by rfl) ?_
      refine go_lconst (n := 0) (show decode cX10_zone 36 = .ok (.lconst 0, 1) by decide +kernel) ?_
      show Go d MX10_zone 37 [some (vR 53), some (vI a1), some (vI a2), some (vI a3), some (vI a4), some (vI a5), some (vJ a6), none, none, none] [vJ 0, vJ a6] S F1 G Q
      refine go_ldc2 (show decode cX10_zone 37 = .ok (.ldc2_w 198, 3) by decide +kernel) lc_X10_198 (by decide) ?_
      obtain ⟨z19, p20, h⟩ := h
      refine go_callS (d2 := d - 1) (M2 := MX10_isIn) (n := 3) (av := [vJ a6, vJ 0, vJ 3000000000000000000]) (st := []) (show decode cX10_zone 40 = .ok (.invokestatic 116, 3) by decide +kernel) ml_X10_116 mt_X10_isIn mst_X10_isIn rfl (Nat.le_of_ble_eq_true rfl) (by omega) (ok_mono p20 (fun w15 S16 F17 G18 e9 => ?_))
      obtain ⟨e1, e2, e3, e4⟩ := e9
      subst e1
      replace e2 := e2.symm; subst e2
      replace e3 := e3.symm; subst e3
      replace e4 := e4.symm; subst e4
      show Go d MX10_zone 43 [some (vR 53), some (vI a1), some (vI a2), some (vI a3), some (vI a4), some (vI a5), some (vJ a6), none, none, none] [vI z19] S F1 G Q
      obtain ⟨ht, hf⟩ := h
      refine go_ifne (tgt := 50) (show decode cX10_zone 43 = .ok (.ifCond .ne 7, 3) by decide +kernel) (by decide) (fun hc => ?_) (fun hc => ?_)
      · have h := ht hc
        refine go_aload_n (show decode cX10_zone 50 = .ok (.aload_n 0, 1) by decide +kernel) (by rfl) ?_
        refine go_iconst (show decode cX10_zone 51 = .ok (.iconst (-1), 1) by decide +kernel) (by decide) ?_
        refine go_iload_n (show decode cX10_zone 52 = .ok (.iload_n 2, 1) by decide +kernel) (by rfl) ?_
        refine go_iload_n (show decode cX10_zone 53 = .ok (.iload_n 3, 1) by decide +kernel) (by rfl) ?_
        refine go_iload (show decode cX10_zone 54 = .ok (.iload 4, 2) by decide +kernel) (by rfl) ?_
        refine go_iload (show decode cX10_zone 56 = .ok (.iload 5, 2) by decide +kernel) (by rfl) ?_
        obtain ⟨z25, p26, h⟩ := h
        refine go_callV (d2 := d - 1) (M2 := MX10_sumOf) (n := 5) (ci := 10) (av := [vI (-1), vI a2, vI a3, vI a4, vI a5]) (st := []) (show decode cX10_zone 58 = .ok (.invokevirtual 251, 3) by decide +kernel) ml_X10_251 mt_X10_sumOf min_X10_sumOf mse_X10_sumOf (by decide) (shm_k hsm 53 (by decide) (by decide)) rfl (Nat.le_of_ble_eq_true rfl) (by omega) (ok_mono p26 (fun w21 S22 F23 G24 e9 => ?_))
        obtain ⟨e1, e2, e3, e4⟩ := e9
        subst e1
        replace e2 := e2.symm; subst e2
        replace e3 := e3.symm; subst e3
        replace e4 := e4.symm; subst e4
        show Go d MX10_zone 61 [some (vR 53), some (vI a1), some (vI a2), some (vI a3), some (vI a4), some (vI a5), some (vJ a6), none, none, none] [vJ z25] S F1 G Q
        refine go_lstore (show decode cX10_zone 61 = .ok (.lstore 8, 2) by decide +kernel) (by decide) ?_
        show Go d MX10_zone 63 [some (vR 53), some (vI a1), some (vI a2), some (vI a3), some (vI a4), some (vI a5), some (vJ a6), none, some (vJ z25), none] [] S F1 G Q
        refine go_lload (show decode cX10_zone 63 = .ok (.lload 8, 2) by decide +kernel) (by rfl) ?_
        refine go_lload (show decode cX10_zone 65 = .ok (.lload 6, 2) by decide +kernel) (by rfl) ?_
        obtain ⟨ht, hf⟩ := h
        refine go_jle (tgt := 75) (show decode cX10_zone 67 = .ok (.lcmp, 1) by decide +kernel) (show decode cX10_zone 68 = .ok (.ifCond .le 7, 3) by decide +kernel) (by decide) (fun hc => ?_) (fun hc => ?_)
        · have h := ht hc
          refine go_aload_n (show decode cX10_zone 75 = .ok (.aload_n 0, 1) by decide +kernel) (by rfl) ?_
          refine go_getRc (show decode cX10_zone 76 = .ok (.getfield 55, 3) by decide +kernel) fl_X10_55 rfl (shm_k hsm 53 (by decide) (by decide)) (v := 63) (shm_r hsm 53 15 (by decide) (by decide)) ?_
          refine go_iconst (show decode cX10_zone 79 = .ok (.iconst 4, 1) by decide +kernel) (by decide) ?_
          refine go_iload_n (show decode cX10_zone 80 = .ok (.iload_n 1, 1) by decide +kernel) (by rfl) ?_
          obtain ⟨q27, h⟩ := h
          refine go_imul (show decode cX10_zone 81 = .ok (.imul, 1) by decide +kernel) q27 ?_
          refine go_iload_n (show decode cX10_zone 82 = .ok (.iload_n 2, 1) by decide +kernel) (by rfl) ?_
          obtain ⟨q28, h⟩ := h
          obtain ⟨q29, h⟩ := h
          refine go_iastore (show decode cX10_zone 83 = .ok (.iastore, 1) by decide +kernel) (shm_k hsm 63 (by decide) (by decide)) q28 (lt_n (m := 24) q29 (shm_n hsm 63 (by decide) (by decide)))  ?_
          obtain ⟨G30, G30e⟩ : ∃ G30 : AG, G30 = gu G 63 (4 * a1) a2 := ⟨_, rfl⟩
          have h := h G30 G30e
          rw [← G30e]
          refine go_aload_n (show decode cX10_zone 84 = .ok (.aload_n 0, 1) by decide +kernel) (by rfl) ?_
          refine go_getRc (show decode cX10_zone 85 = .ok (.getfield 55, 3) by decide +kernel) fl_X10_55 rfl (shm_k hsm 53 (by decide) (by decide)) (v := 63) (shm_r hsm 53 15 (by decide) (by decide)) ?_
          refine go_iconst (show decode cX10_zone 88 = .ok (.iconst 4, 1) by decide +kernel) (by decide) ?_
          refine go_iload_n (show decode cX10_zone 89 = .ok (.iload_n 1, 1) by decide +kernel) (by rfl) ?_
          refine go_imul (show decode cX10_zone 90 = .ok (.imul, 1) by decide +kernel) q27 ?_
          refine go_iconst (show decode cX10_zone 91 = .ok (.iconst 1, 1) by decide +kernel) (by decide) ?_
          obtain ⟨q31, h⟩ := h
          refine go_iadd (show decode cX10_zone 92 = .ok (.iadd, 1) by decide +kernel) q31 ?_
          refine go_iload_n (show decode cX10_zone 93 = .ok (.iload_n 3, 1) by decide +kernel) (by rfl) ?_
          obtain ⟨q32, h⟩ := h
          obtain ⟨q33, h⟩ := h
          refine go_iastore (show decode cX10_zone 94 = .ok (.iastore, 1) by decide +kernel) (shm_k hsm 63 (by decide) (by decide)) q32 (lt_n (m := 24) q33 (shm_n hsm 63 (by decide) (by decide)))  ?_
          obtain ⟨G34, G34e⟩ : ∃ G34 : AG, G34 = gu G30 63 ((4 * a1) + 1) a3 := ⟨_, rfl⟩
          have h := h G34 G34e
          rw [← G34e]
          refine go_aload_n (show decode cX10_zone 95 = .ok (.aload_n 0, 1) by decide +kernel) (by rfl) ?_
          refine go_getRc (show decode cX10_zone 96 = .ok (.getfield 55, 3) by decide +kernel) fl_X10_55 rfl (shm_k hsm 53 (by decide) (by decide)) (v := 63) (shm_r hsm 53 15 (by decide) (by decide)) ?_
          refine go_iconst (show decode cX10_zone 99 = .ok (.iconst 4, 1) by decide +kernel) (by decide) ?_
          refine go_iload_n (show decode cX10_zone 100 = .ok (.iload_n 1, 1) by decide +kernel) (by rfl) ?_
          refine go_imul (show decode cX10_zone 101 = .ok (.imul, 1) by decide +kernel) q27 ?_
          refine go_iconst (show decode cX10_zone 102 = .ok (.iconst 2, 1) by decide +kernel) (by decide) ?_
          obtain ⟨q35, h⟩ := h
          refine go_iadd (show decode cX10_zone 103 = .ok (.iadd, 1) by decide +kernel) q35 ?_
          refine go_iload (show decode cX10_zone 104 = .ok (.iload 4, 2) by decide +kernel) (by rfl) ?_
          obtain ⟨q36, h⟩ := h
          obtain ⟨q37, h⟩ := h
          refine go_iastore (show decode cX10_zone 106 = .ok (.iastore, 1) by decide +kernel) (shm_k hsm 63 (by decide) (by decide)) q36 (lt_n (m := 24) q37 (shm_n hsm 63 (by decide) (by decide)))  ?_
          obtain ⟨G38, G38e⟩ : ∃ G38 : AG, G38 = gu G34 63 ((4 * a1) + 2) a4 := ⟨_, rfl⟩
          have h := h G38 G38e
          rw [← G38e]
          refine go_aload_n (show decode cX10_zone 107 = .ok (.aload_n 0, 1) by decide +kernel) (by rfl) ?_
          refine go_getRc (show decode cX10_zone 108 = .ok (.getfield 55, 3) by decide +kernel) fl_X10_55 rfl (shm_k hsm 53 (by decide) (by decide)) (v := 63) (shm_r hsm 53 15 (by decide) (by decide)) ?_
          refine go_iconst (show decode cX10_zone 111 = .ok (.iconst 4, 1) by decide +kernel) (by decide) ?_
          refine go_iload_n (show decode cX10_zone 112 = .ok (.iload_n 1, 1) by decide +kernel) (by rfl) ?_
          refine go_imul (show decode cX10_zone 113 = .ok (.imul, 1) by decide +kernel) q27 ?_
          refine go_iconst (show decode cX10_zone 114 = .ok (.iconst 3, 1) by decide +kernel) (by decide) ?_
          obtain ⟨q39, h⟩ := h
          refine go_iadd (show decode cX10_zone 115 = .ok (.iadd, 1) by decide +kernel) q39 ?_
          refine go_iload (show decode cX10_zone 116 = .ok (.iload 5, 2) by decide +kernel) (by rfl) ?_
          obtain ⟨q40, h⟩ := h
          obtain ⟨q41, h⟩ := h
          refine go_iastore (show decode cX10_zone 118 = .ok (.iastore, 1) by decide +kernel) (shm_k hsm 63 (by decide) (by decide)) q40 (lt_n (m := 24) q41 (shm_n hsm 63 (by decide) (by decide)))  ?_
          obtain ⟨G42, G42e⟩ : ∃ G42 : AG, G42 = gu G38 63 ((4 * a1) + 3) a5 := ⟨_, rfl⟩
          have h := h G42 G42e
          rw [← G42e]
          refine go_aload_n (show decode cX10_zone 119 = .ok (.aload_n 0, 1) by decide +kernel) (by rfl) ?_
          refine go_getRc (show decode cX10_zone 120 = .ok (.getfield 58, 3) by decide +kernel) fl_X10_58 rfl (shm_k hsm 53 (by decide) (by decide)) (v := 64) (shm_r hsm 53 16 (by decide) (by decide)) ?_
          refine go_iload_n (show decode cX10_zone 123 = .ok (.iload_n 1, 1) by decide +kernel) (by rfl) ?_
          refine go_lload (show decode cX10_zone 124 = .ok (.lload 6, 2) by decide +kernel) (by rfl) ?_
          obtain ⟨q43, h⟩ := h
          obtain ⟨q44, h⟩ := h
          refine go_lastore (show decode cX10_zone 126 = .ok (.lastore, 1) by decide +kernel) (shm_k hsm 64 (by decide) (by decide)) q43 (lt_n (m := 6) q44 (shm_n hsm 64 (by decide) (by decide)))  ?_
          obtain ⟨G45, G45e⟩ : ∃ G45 : AG, G45 = gu G42 64 a1 a6 := ⟨_, rfl⟩
          have h := h G45 G45e
          rw [← G45e]
          refine go_aload_n (show decode cX10_zone 127 = .ok (.aload_n 0, 1) by decide +kernel) (by rfl) ?_
          refine go_getRc (show decode cX10_zone 128 = .ok (.getfield 61, 3) by decide +kernel) fl_X10_61 rfl (shm_k hsm 53 (by decide) (by decide)) (v := 65) (shm_r hsm 53 17 (by decide) (by decide)) ?_
          refine go_iload_n (show decode cX10_zone 131 = .ok (.iload_n 1, 1) by decide +kernel) (by rfl) ?_
          refine go_iconst (show decode cX10_zone 132 = .ok (.iconst 1, 1) by decide +kernel) (by decide) ?_
          refine go_zastore (show decode cX10_zone 133 = .ok (.bastore, 1) by decide +kernel) (shm_k hsm 65 (by decide) (by decide)) q43 (lt_n (m := 6) q44 (shm_n hsm 65 (by decide) (by decide))) (by decide) ?_
          obtain ⟨G46, G46e⟩ : ∃ G46 : AG, G46 = gu G45 65 a1 1 := ⟨_, rfl⟩
          have h := h G46 G46e
          rw [← G46e]
          refine go_lload (show decode cX10_zone 134 = .ok (.lload 8, 2) by decide +kernel) (by rfl) ?_
          exact go_lret (show decode cX10_zone 136 = .ok (.lreturn, 1) by decide +kernel) rfl h
        · have h := hf hc
          refine go_ldc2 (show decode cX10_zone 71 = .ok (.ldc2_w 196, 3) by decide +kernel) lc_X10_196 (by decide) ?_
          exact go_lret (show decode cX10_zone 74 = .ok (.lreturn, 1) by decide +kernel) rfl h
      · have h := hf hc
        refine go_ldc2 (show decode cX10_zone 46 = .ok (.ldc2_w 120, 3) by decide +kernel) lc_X10_120 (by decide) ?_
        exact go_lret (show decode cX10_zone 49 = .ok (.lreturn, 1) by decide +kernel) rfl h
    · have h := hf hc
      refine go_ldc2 (show decode cX10_zone 30 = .ok (.ldc2_w 174, 3) by decide +kernel) lc_X10_174 (by decide) ?_
      exact go_lret (show decode cX10_zone 33 = .ok (.lreturn, 1) by decide +kernel) rfl h
def V_X10_zoneAt_0 (d : Nat) (S : AS) (F : AF) (G : AG) (Q : AQ) (a1 : Int) (a2 : Int) : Prop :=
  ∀ F1 : AF, F1 = fu F 53 0 0 →
  (1 ≤ d) ∧
  ∃ z7 : Int, Pu (d - 1) MX10_isIn [vJ a1, vJ 0, vJ 5] S F1 G (some (vI z7)) ∧
  ((z7 = 0) →
    Q (some (vJ (-2))) S F1 G) ∧
  ((¬ z7 = 0) →
    ∃ z13 : Int, Pu (d - 1) MX10_isIn [vJ a2, vJ 0, vJ 5] S F1 G (some (vI z13)) ∧
    ((¬ z13 = 0) →
      ((0 : Int) ≤ a1) ∧
      ((a1 : Int) < 6) ∧
      ((¬ G 65 a1 = 0) →
        ((4 ≤ a2) →
          ((¬ a2 = 4) →
            ∃ z21 : Int, Pu (d - 1) MX10_zoned [vR 53, vI a1] S F1 G (some (vJ z21)) ∧
            ((z21 ≤ G 64 a1) →
              (r64 ((G 64 a1) - z21)) ∧
              Q (some (vJ ((G 64 a1) - z21))) S F1 G) ∧
            ((¬ z21 ≤ G 64 a1) →
              Q (some (vJ 0)) S F1 G)) ∧
          ((a2 = 4) →
            Q (some (vJ (G 64 a1))) S F1 G)) ∧
        ((¬ 4 ≤ a2) →
          (r32 (4 * a1)) ∧
          (r32 ((4 * a1) + a2)) ∧
          ((0 : Int) ≤ (4 * a1) + a2) ∧
          (((4 * a1) + a2 : Int) < 24) ∧
          Q (some (vJ (G 63 ((4 * a1) + a2)))) S F1 G)) ∧
      ((G 65 a1 = 0) →
        Q (some (vJ (-1))) S F1 G)) ∧
    ((z13 = 0) →
      Q (some (vJ (-2))) S F1 G))
theorem R_X10_zoneAt_0 {d : Nat} {S : AS} {F : AF} {G : AG} {Q : AQ} {a1 : Int} {a2 : Int} (hsm : ShM S) (h : V_X10_zoneAt_0 d S F G Q a1 a2) : Go d MX10_zoneAt 0 [some (vR 53), some (vI a1), some (vI a2), none, none] [] S F G Q := by
  unfold V_X10_zoneAt_0 at h
  refine go_aload_n (show decode cX10_zoneAt 0 = .ok (.aload_n 0, 1) by decide +kernel) (by rfl) ?_
  refine go_iconst (show decode cX10_zoneAt 1 = .ok (.iconst 0, 1) by decide +kernel) (by decide) ?_
  refine go_putI (show decode cX10_zoneAt 2 = .ok (.putfield 1, 3) by decide +kernel) fl_X10_1 rfl (Or.inl rfl) (shm_k hsm 53 (by decide) (by decide)) ?_
  obtain ⟨F1, F1e⟩ : ∃ F1 : AF, F1 = fu F 53 0 0 := ⟨_, rfl⟩
  have h := h F1 F1e
  rw [← F1e]
  refine go_iload_n (show decode cX10_zoneAt 5 = .ok (.iload_n 1, 1) by decide +kernel) (by rfl) ?_
  refine go_i2l (show decode cX10_zoneAt 6 = .ok (.i2l, 1) by decide +kernel) ?_
  refine go_lconst (n := 0) (show decode cX10_zoneAt 7 = .ok (.lconst 0, 1) by decide +kernel) ?_
  show Go d MX10_zoneAt 8 [some (vR 53), some (vI a1), some (vI a2), none, none] [vJ 0, vJ a1] S F1 G Q
  refine go_ldc2 (show decode cX10_zoneAt 8 = .ok (.ldc2_w 309, 3) by decide +kernel) lc_X10_309 (by decide) ?_
  obtain ⟨q2, h⟩ := h
  obtain ⟨z7, p8, h⟩ := h
  refine go_callS (d2 := d - 1) (M2 := MX10_isIn) (n := 3) (av := [vJ a1, vJ 0, vJ 5]) (st := []) (show decode cX10_zoneAt 11 = .ok (.invokestatic 116, 3) by decide +kernel) ml_X10_116 mt_X10_isIn mst_X10_isIn rfl (Nat.le_of_ble_eq_true rfl) (by omega) (ok_mono p8 (fun w3 S4 F5 G6 e9 => ?_))
  obtain ⟨e1, e2, e3, e4⟩ := e9
  subst e1
  replace e2 := e2.symm; subst e2
  replace e3 := e3.symm; subst e3
  replace e4 := e4.symm; subst e4
  show Go d MX10_zoneAt 14 [some (vR 53), some (vI a1), some (vI a2), none, none] [vI z7] S F1 G Q
  obtain ⟨ht, hf⟩ := h
  refine go_ifeq (tgt := 29) (show decode cX10_zoneAt 14 = .ok (.ifCond .eq 15, 3) by decide +kernel) (by decide) (fun hc => ?_) (fun hc => ?_)
  · have h := ht hc
    refine go_ldc2 (show decode cX10_zoneAt 29 = .ok (.ldc2_w 174, 3) by decide +kernel) lc_X10_174 (by decide) ?_
    exact go_lret (show decode cX10_zoneAt 32 = .ok (.lreturn, 1) by decide +kernel) rfl h
  · have h := hf hc
    refine go_iload_n (show decode cX10_zoneAt 17 = .ok (.iload_n 2, 1) by decide +kernel) (by rfl) ?_
    refine go_i2l (show decode cX10_zoneAt 18 = .ok (.i2l, 1) by decide +kernel) ?_
    refine go_lconst (n := 0) (show decode cX10_zoneAt 19 = .ok (.lconst 0, 1) by decide +kernel) ?_
    show Go d MX10_zoneAt 20 [some (vR 53), some (vI a1), some (vI a2), none, none] [vJ 0, vJ a2] S F1 G Q
    refine go_ldc2 (show decode cX10_zoneAt 20 = .ok (.ldc2_w 309, 3) by decide +kernel) lc_X10_309 (by decide) ?_
    obtain ⟨z13, p14, h⟩ := h
    refine go_callS (d2 := d - 1) (M2 := MX10_isIn) (n := 3) (av := [vJ a2, vJ 0, vJ 5]) (st := []) (show decode cX10_zoneAt 23 = .ok (.invokestatic 116, 3) by decide +kernel) ml_X10_116 mt_X10_isIn mst_X10_isIn rfl (Nat.le_of_ble_eq_true rfl) (by omega) (ok_mono p14 (fun w9 S10 F11 G12 e9 => ?_))
    obtain ⟨e1, e2, e3, e4⟩ := e9
    subst e1
    replace e2 := e2.symm; subst e2
    replace e3 := e3.symm; subst e3
    replace e4 := e4.symm; subst e4
    show Go d MX10_zoneAt 26 [some (vR 53), some (vI a1), some (vI a2), none, none] [vI z13] S F1 G Q
    obtain ⟨ht, hf⟩ := h
    refine go_ifne (tgt := 33) (show decode cX10_zoneAt 26 = .ok (.ifCond .ne 7, 3) by decide +kernel) (by decide) (fun hc => ?_) (fun hc => ?_)
    · have h := ht hc
      refine go_aload_n (show decode cX10_zoneAt 33 = .ok (.aload_n 0, 1) by decide +kernel) (by rfl) ?_
      refine go_getRc (show decode cX10_zoneAt 34 = .ok (.getfield 61, 3) by decide +kernel) fl_X10_61 rfl (shm_k hsm 53 (by decide) (by decide)) (v := 65) (shm_r hsm 53 17 (by decide) (by decide)) ?_
      refine go_iload_n (show decode cX10_zoneAt 37 = .ok (.iload_n 1, 1) by decide +kernel) (by rfl) ?_
      obtain ⟨q15, h⟩ := h
      obtain ⟨q16, h⟩ := h
      refine go_zaload (show decode cX10_zoneAt 38 = .ok (.baload, 1) by decide +kernel) (shm_k hsm 65 (by decide) (by decide)) q15 (lt_n (m := 6) q16 (shm_n hsm 65 (by decide) (by decide))) ?_
      obtain ⟨ht, hf⟩ := h
      refine go_ifne (tgt := 46) (show decode cX10_zoneAt 39 = .ok (.ifCond .ne 7, 3) by decide +kernel) (by decide) (fun hc => ?_) (fun hc => ?_)
      · have h := ht hc
        refine go_iload_n (show decode cX10_zoneAt 46 = .ok (.iload_n 2, 1) by decide +kernel) (by rfl) ?_
        refine go_iconst (show decode cX10_zoneAt 47 = .ok (.iconst 4, 1) by decide +kernel) (by decide) ?_
        obtain ⟨ht, hf⟩ := h
        refine go_icmpge (tgt := 63) (show decode cX10_zoneAt 48 = .ok (.if_icmp .ge 15, 3) by decide +kernel) (by decide) (fun hc => ?_) (fun hc => ?_)
        · have h := ht hc
          refine go_iload_n (show decode cX10_zoneAt 63 = .ok (.iload_n 2, 1) by decide +kernel) (by rfl) ?_
          refine go_iconst (show decode cX10_zoneAt 64 = .ok (.iconst 4, 1) by decide +kernel) (by decide) ?_
          obtain ⟨ht, hf⟩ := h
          refine go_icmpne (tgt := 75) (show decode cX10_zoneAt 65 = .ok (.if_icmp .ne 10, 3) by decide +kernel) (by decide) (fun hc => ?_) (fun hc => ?_)
          · have h := ht hc
            refine go_aload_n (show decode cX10_zoneAt 75 = .ok (.aload_n 0, 1) by decide +kernel) (by rfl) ?_
            refine go_iload_n (show decode cX10_zoneAt 76 = .ok (.iload_n 1, 1) by decide +kernel) (by rfl) ?_
            obtain ⟨z21, p22, h⟩ := h
            refine go_callV (d2 := d - 1) (M2 := MX10_zoned) (n := 1) (ci := 10) (av := [vI a1]) (st := []) (show decode cX10_zoneAt 77 = .ok (.invokevirtual 188, 3) by decide +kernel) ml_X10_188 mt_X10_zoned min_X10_zoned mse_X10_zoned (by decide) (shm_k hsm 53 (by decide) (by decide)) rfl (Nat.le_of_ble_eq_true rfl) (by omega) (ok_mono p22 (fun w17 S18 F19 G20 e9 => ?_))
            obtain ⟨e1, e2, e3, e4⟩ := e9
            subst e1
            replace e2 := e2.symm; subst e2
            replace e3 := e3.symm; subst e3
            replace e4 := e4.symm; subst e4
            show Go d MX10_zoneAt 80 [some (vR 53), some (vI a1), some (vI a2), none, none] [vJ z21] S F1 G Q
            refine go_lstore_n (show decode cX10_zoneAt 80 = .ok (.lstore_n 3, 1) by decide +kernel) (by decide) ?_
            show Go d MX10_zoneAt 81 [some (vR 53), some (vI a1), some (vI a2), some (vJ z21), none] [] S F1 G Q
            refine go_lload_n (show decode cX10_zoneAt 81 = .ok (.lload_n 3, 1) by decide +kernel) (by rfl) ?_
            refine go_aload_n (show decode cX10_zoneAt 82 = .ok (.aload_n 0, 1) by decide +kernel) (by rfl) ?_
            refine go_getRc (show decode cX10_zoneAt 83 = .ok (.getfield 58, 3) by decide +kernel) fl_X10_58 rfl (shm_k hsm 53 (by decide) (by decide)) (v := 64) (shm_r hsm 53 16 (by decide) (by decide)) ?_
            refine go_iload_n (show decode cX10_zoneAt 86 = .ok (.iload_n 1, 1) by decide +kernel) (by rfl) ?_
            refine go_laload (show decode cX10_zoneAt 87 = .ok (.laload, 1) by decide +kernel) (shm_k hsm 64 (by decide) (by decide)) q15 (lt_n (m := 6) q16 (shm_n hsm 64 (by decide) (by decide))) ?_
            obtain ⟨ht, hf⟩ := h
            refine go_jle (tgt := 96) (show decode cX10_zoneAt 88 = .ok (.lcmp, 1) by decide +kernel) (show decode cX10_zoneAt 89 = .ok (.ifCond .le 7, 3) by decide +kernel) (by decide) (fun hc => ?_) (fun hc => ?_)
            · have h := ht hc
              refine go_aload_n (show decode cX10_zoneAt 96 = .ok (.aload_n 0, 1) by decide +kernel) (by rfl) ?_
              refine go_getRc (show decode cX10_zoneAt 97 = .ok (.getfield 58, 3) by decide +kernel) fl_X10_58 rfl (shm_k hsm 53 (by decide) (by decide)) (v := 64) (shm_r hsm 53 16 (by decide) (by decide)) ?_
              refine go_iload_n (show decode cX10_zoneAt 100 = .ok (.iload_n 1, 1) by decide +kernel) (by rfl) ?_
              refine go_laload (show decode cX10_zoneAt 101 = .ok (.laload, 1) by decide +kernel) (shm_k hsm 64 (by decide) (by decide)) q15 (lt_n (m := 6) q16 (shm_n hsm 64 (by decide) (by decide))) ?_
              refine go_lload_n (show decode cX10_zoneAt 102 = .ok (.lload_n 3, 1) by decide +kernel) (by rfl) ?_
              obtain ⟨q23, h⟩ := h
              refine go_lsub (show decode cX10_zoneAt 103 = .ok (.lsub, 1) by decide +kernel) q23 ?_
              exact go_lret (show decode cX10_zoneAt 104 = .ok (.lreturn, 1) by decide +kernel) rfl h
            · have h := hf hc
              refine go_lconst (n := 0) (show decode cX10_zoneAt 92 = .ok (.lconst 0, 1) by decide +kernel) ?_
              show Go d MX10_zoneAt 93 [some (vR 53), some (vI a1), some (vI a2), some (vJ z21), none] [vJ 0] S F1 G Q
              refine go_goto (tgt := 104) (show decode cX10_zoneAt 93 = .ok (.goto 11, 3) by decide +kernel) (by decide) ?_
              exact go_lret (show decode cX10_zoneAt 104 = .ok (.lreturn, 1) by decide +kernel) rfl h
          · have h := hf hc
            refine go_aload_n (show decode cX10_zoneAt 68 = .ok (.aload_n 0, 1) by decide +kernel) (by rfl) ?_
            refine go_getRc (show decode cX10_zoneAt 69 = .ok (.getfield 58, 3) by decide +kernel) fl_X10_58 rfl (shm_k hsm 53 (by decide) (by decide)) (v := 64) (shm_r hsm 53 16 (by decide) (by decide)) ?_
            refine go_iload_n (show decode cX10_zoneAt 72 = .ok (.iload_n 1, 1) by decide +kernel) (by rfl) ?_
            refine go_laload (show decode cX10_zoneAt 73 = .ok (.laload, 1) by decide +kernel) (shm_k hsm 64 (by decide) (by decide)) q15 (lt_n (m := 6) q16 (shm_n hsm 64 (by decide) (by decide))) ?_
            exact go_lret (show decode cX10_zoneAt 74 = .ok (.lreturn, 1) by decide +kernel) rfl h
        · have h := hf hc
          refine go_aload_n (show decode cX10_zoneAt 51 = .ok (.aload_n 0, 1) by decide +kernel) (by rfl) ?_
          refine go_getRc (show decode cX10_zoneAt 52 = .ok (.getfield 55, 3) by decide +kernel) fl_X10_55 rfl (shm_k hsm 53 (by decide) (by decide)) (v := 63) (shm_r hsm 53 15 (by decide) (by decide)) ?_
          refine go_iconst (show decode cX10_zoneAt 55 = .ok (.iconst 4, 1) by decide +kernel) (by decide) ?_
          refine go_iload_n (show decode cX10_zoneAt 56 = .ok (.iload_n 1, 1) by decide +kernel) (by rfl) ?_
          obtain ⟨q24, h⟩ := h
          refine go_imul (show decode cX10_zoneAt 57 = .ok (.imul, 1) by decide +kernel) q24 ?_
          refine go_iload_n (show decode cX10_zoneAt 58 = .ok (.iload_n 2, 1) by decide +kernel) (by rfl) ?_
          obtain ⟨q25, h⟩ := h
          refine go_iadd (show decode cX10_zoneAt 59 = .ok (.iadd, 1) by decide +kernel) q25 ?_
          obtain ⟨q26, h⟩ := h
          obtain ⟨q27, h⟩ := h
          refine go_iaload (show decode cX10_zoneAt 60 = .ok (.iaload, 1) by decide +kernel) (shm_k hsm 63 (by decide) (by decide)) q26 (lt_n (m := 24) q27 (shm_n hsm 63 (by decide) (by decide))) ?_
          refine go_i2l (show decode cX10_zoneAt 61 = .ok (.i2l, 1) by decide +kernel) ?_
          exact go_lret (show decode cX10_zoneAt 62 = .ok (.lreturn, 1) by decide +kernel) rfl h
      · have h := hf hc
        refine go_ldc2 (show decode cX10_zoneAt 42 = .ok (.ldc2_w 311, 3) by decide +kernel) lc_X10_311 (by decide) ?_
        exact go_lret (show decode cX10_zoneAt 45 = .ok (.lreturn, 1) by decide +kernel) rfl h
    · have h := hf hc
      refine go_ldc2 (show decode cX10_zoneAt 29 = .ok (.ldc2_w 174, 3) by decide +kernel) lc_X10_174 (by decide) ?_
      exact go_lret (show decode cX10_zoneAt 32 = .ok (.lreturn, 1) by decide +kernel) rfl h
def V_X10_begin_55 (d : Nat) (S : AS) (F : AF) (G : AG) (Q : AQ) (a1 : Int) : Prop :=
  ((3 ≤ a1) →
    ((0 : Int) ≤ F 53 11) ∧
    ((F 53 11 : Int) < 8) ∧
    ∀ G3 : AG, G3 = gu G 61 (F 53 11) 0 →
    (r32 ((F 53 11) + 1)) ∧
    ∀ F5 : AF, F5 = fu F 53 11 ((F 53 11) + 1) →
    Q (some (vI (F5 53 11))) S F5 G3) ∧
  ((¬ 3 ≤ a1) →
    (r32 (3 * (F 53 11))) ∧
    (r32 ((3 * (F 53 11)) + a1)) ∧
    ((0 : Int) ≤ a1) ∧
    ((a1 : Int) < 3) ∧
    ((0 : Int) ≤ (3 * (F 53 11)) + a1) ∧
    (((3 * (F 53 11)) + a1 : Int) < 24) ∧
    ∀ G12 : AG, G12 = gu G 60 ((3 * (F 53 11)) + a1) (G 59 a1) →
    (r32 (a1 + 1)) ∧
    Go d MX10_begin 55 [some (vR 53), some (vI (a1 + 1))] [] S F G12 Q)
theorem R_X10_begin_55 {d : Nat} {S : AS} {F : AF} {G : AG} {Q : AQ} {a1 : Int} (hsm : ShM S) (h : V_X10_begin_55 d S F G Q a1) : Go d MX10_begin 55 [some (vR 53), some (vI a1)] [] S F G Q := by
  unfold V_X10_begin_55 at h
  refine go_iload_n (show decode cX10_begin 55 = .ok (.iload_n 1, 1) by decide +kernel) (by rfl) ?_
  refine go_iconst (show decode cX10_begin 56 = .ok (.iconst 3, 1) by decide +kernel) (by decide) ?_
  obtain ⟨ht, hf⟩ := h
  refine go_icmpge (tgt := 85) (show decode cX10_begin 57 = .ok (.if_icmp .ge 28, 3) by decide +kernel) (by decide) (fun hc => ?_) (fun hc => ?_)
  · have h := ht hc
    refine go_aload_n (show decode cX10_begin 85 = .ok (.aload_n 0, 1) by decide +kernel) (by rfl) ?_
    refine go_getRc (show decode cX10_begin 86 = .ok (.getfield 49, 3) by decide +kernel) fl_X10_49 rfl (shm_k hsm 53 (by decide) (by decide)) (v := 61) (shm_r hsm 53 12 (by decide) (by decide)) ?_
    refine go_aload_n (show decode cX10_begin 89 = .ok (.aload_n 0, 1) by decide +kernel) (by rfl) ?_
    refine go_getI (show decode cX10_begin 90 = .ok (.getfield 108, 3) by decide +kernel) fl_X10_108 (Or.inl rfl) (shm_k hsm 53 (by decide) (by decide)) ?_
    refine go_iconst (show decode cX10_begin 93 = .ok (.iconst 0, 1) by decide +kernel) (by decide) ?_
    obtain ⟨q1, h⟩ := h
    obtain ⟨q2, h⟩ := h
    refine go_iastore (show decode cX10_begin 94 = .ok (.iastore, 1) by decide +kernel) (shm_k hsm 61 (by decide) (by decide)) q1 (lt_n (m := 8) q2 (shm_n hsm 61 (by decide) (by decide)))  ?_
    obtain ⟨G3, G3e⟩ : ∃ G3 : AG, G3 = gu G 61 (F 53 11) 0 := ⟨_, rfl⟩
    have h := h G3 G3e
    rw [← G3e]
    refine go_aload_n (show decode cX10_begin 95 = .ok (.aload_n 0, 1) by decide +kernel) (by rfl) ?_
    refine go_dup (show decode cX10_begin 96 = .ok (.dup, 1) by decide +kernel) ?_
    refine go_getI (show decode cX10_begin 97 = .ok (.getfield 108, 3) by decide +kernel) fl_X10_108 (Or.inl rfl) (shm_k hsm 53 (by decide) (by decide)) ?_
    refine go_iconst (show decode cX10_begin 100 = .ok (.iconst 1, 1) by decide +kernel) (by decide) ?_
    obtain ⟨q4, h⟩ := h
    refine go_iadd (show decode cX10_begin 101 = .ok (.iadd, 1) by decide +kernel) q4 ?_
    refine go_putI (show decode cX10_begin 102 = .ok (.putfield 108, 3) by decide +kernel) fl_X10_108 rfl (Or.inl rfl) (shm_k hsm 53 (by decide) (by decide)) ?_
    obtain ⟨F5, F5e⟩ : ∃ F5 : AF, F5 = fu F 53 11 ((F 53 11) + 1) := ⟨_, rfl⟩
    have h := h F5 F5e
    rw [← F5e]
    refine go_aload_n (show decode cX10_begin 105 = .ok (.aload_n 0, 1) by decide +kernel) (by rfl) ?_
    refine go_getI (show decode cX10_begin 106 = .ok (.getfield 108, 3) by decide +kernel) fl_X10_108 (Or.inl rfl) (shm_k hsm 53 (by decide) (by decide)) ?_
    exact go_iret (show decode cX10_begin 109 = .ok (.ireturn, 1) by decide +kernel) rfl h
  · have h := hf hc
    refine go_aload_n (show decode cX10_begin 60 = .ok (.aload_n 0, 1) by decide +kernel) (by rfl) ?_
    refine go_getRc (show decode cX10_begin 61 = .ok (.getfield 46, 3) by decide +kernel) fl_X10_46 rfl (shm_k hsm 53 (by decide) (by decide)) (v := 60) (shm_r hsm 53 10 (by decide) (by decide)) ?_
    refine go_iconst (show decode cX10_begin 64 = .ok (.iconst 3, 1) by decide +kernel) (by decide) ?_
    refine go_aload_n (show decode cX10_begin 65 = .ok (.aload_n 0, 1) by decide +kernel) (by rfl) ?_
    refine go_getI (show decode cX10_begin 66 = .ok (.getfield 108, 3) by decide +kernel) fl_X10_108 (Or.inl rfl) (shm_k hsm 53 (by decide) (by decide)) ?_
    obtain ⟨q6, h⟩ := h
    refine go_imul (show decode cX10_begin 69 = .ok (.imul, 1) by decide +kernel) q6 ?_
    refine go_iload_n (show decode cX10_begin 70 = .ok (.iload_n 1, 1) by decide +kernel) (by rfl) ?_
    obtain ⟨q7, h⟩ := h
    refine go_iadd (show decode cX10_begin 71 = .ok (.iadd, 1) by decide +kernel) q7 ?_
    refine go_aload_n (show decode cX10_begin 72 = .ok (.aload_n 0, 1) by decide +kernel) (by rfl) ?_
    refine go_getRc (show decode cX10_begin 73 = .ok (.getfield 43, 3) by decide +kernel) fl_X10_43 rfl (shm_k hsm 53 (by decide) (by decide)) (v := 59) (shm_r hsm 53 9 (by decide) (by decide)) ?_
    refine go_iload_n (show decode cX10_begin 76 = .ok (.iload_n 1, 1) by decide +kernel) (by rfl) ?_
    obtain ⟨q8, h⟩ := h
    obtain ⟨q9, h⟩ := h
    refine go_laload (show decode cX10_begin 77 = .ok (.laload, 1) by decide +kernel) (shm_k hsm 59 (by decide) (by decide)) q8 (lt_n (m := 3) q9 (shm_n hsm 59 (by decide) (by decide))) ?_
    obtain ⟨q10, h⟩ := h
    obtain ⟨q11, h⟩ := h
    refine go_lastore (show decode cX10_begin 78 = .ok (.lastore, 1) by decide +kernel) (shm_k hsm 60 (by decide) (by decide)) q10 (lt_n (m := 24) q11 (shm_n hsm 60 (by decide) (by decide)))  ?_
    obtain ⟨G12, G12e⟩ : ∃ G12 : AG, G12 = gu G 60 ((3 * (F 53 11)) + a1) (G 59 a1) := ⟨_, rfl⟩
    have h := h G12 G12e
    rw [← G12e]
    obtain ⟨q13, h⟩ := h
    refine go_iinc (show decode cX10_begin 79 = .ok (.iinc 1 1, 3) by decide +kernel) (by rfl) q13 (by decide) ?_
    show Go d MX10_begin 82 [some (vR 53), some (vI (a1 + 1))] [] S F G12 Q
    refine go_goto (tgt := 55) (show decode cX10_begin 82 = .ok (.goto (-27), 3) by decide +kernel) (by decide) ?_
    exact h
def V_X10_begin_19 (d : Nat) (S : AS) (F : AF) (G : AG) (Q : AQ) (a1 : Int) : Prop :=
  ((6912 ≤ a1) →
    Go d MX10_begin 55 [some (vR 53), some (vI 0)] [] S F G Q) ∧
  ((¬ 6912 ≤ a1) →
    (r32 (6912 * (F 53 11))) ∧
    (r32 ((6912 * (F 53 11)) + a1)) ∧
    ((0 : Int) ≤ a1) ∧
    ((a1 : Int) < 6912) ∧
    ((0 : Int) ≤ (6912 * (F 53 11)) + a1) ∧
    (((6912 * (F 53 11)) + a1 : Int) < 55296) ∧
    ∀ G7 : AG, G7 = gu G 58 ((6912 * (F 53 11)) + a1) (G 57 a1) →
    (r32 (a1 + 1)) ∧
    Go d MX10_begin 19 [some (vR 53), some (vI (a1 + 1))] [] S F G7 Q)
theorem R_X10_begin_19 {d : Nat} {S : AS} {F : AF} {G : AG} {Q : AQ} {a1 : Int} (hsm : ShM S) (h : V_X10_begin_19 d S F G Q a1) : Go d MX10_begin 19 [some (vR 53), some (vI a1)] [] S F G Q := by
  unfold V_X10_begin_19 at h
  refine go_iload_n (show decode cX10_begin 19 = .ok (.iload_n 1, 1) by decide +kernel) (by rfl) ?_
  refine go_sipush (show decode cX10_begin 20 = .ok (.sipush 6912, 3) by decide +kernel) (by decide) ?_
  obtain ⟨ht, hf⟩ := h
  refine go_icmpge (tgt := 53) (show decode cX10_begin 23 = .ok (.if_icmp .ge 30, 3) by decide +kernel) (by decide) (fun hc => ?_) (fun hc => ?_)
  · have h := ht hc
    refine go_iconst (show decode cX10_begin 53 = .ok (.iconst 0, 1) by decide +kernel) (by decide) ?_
    refine go_istore_n (show decode cX10_begin 54 = .ok (.istore_n 1, 1) by decide +kernel) (by decide) ?_
    show Go d MX10_begin 55 [some (vR 53), some (vI 0)] [] S F G Q
    exact h
  · have h := hf hc
    refine go_aload_n (show decode cX10_begin 26 = .ok (.aload_n 0, 1) by decide +kernel) (by rfl) ?_
    refine go_getRc (show decode cX10_begin 27 = .ok (.getfield 40, 3) by decide +kernel) fl_X10_40 rfl (shm_k hsm 53 (by decide) (by decide)) (v := 58) (shm_r hsm 53 8 (by decide) (by decide)) ?_
    refine go_sipush (show decode cX10_begin 30 = .ok (.sipush 6912, 3) by decide +kernel) (by decide) ?_
    refine go_aload_n (show decode cX10_begin 33 = .ok (.aload_n 0, 1) by decide +kernel) (by rfl) ?_
    refine go_getI (show decode cX10_begin 34 = .ok (.getfield 108, 3) by decide +kernel) fl_X10_108 (Or.inl rfl) (shm_k hsm 53 (by decide) (by decide)) ?_
    obtain ⟨q1, h⟩ := h
    refine go_imul (show decode cX10_begin 37 = .ok (.imul, 1) by decide +kernel) q1 ?_
    refine go_iload_n (show decode cX10_begin 38 = .ok (.iload_n 1, 1) by decide +kernel) (by rfl) ?_
    obtain ⟨q2, h⟩ := h
    refine go_iadd (show decode cX10_begin 39 = .ok (.iadd, 1) by decide +kernel) q2 ?_
    refine go_aload_n (show decode cX10_begin 40 = .ok (.aload_n 0, 1) by decide +kernel) (by rfl) ?_
    refine go_getRc (show decode cX10_begin 41 = .ok (.getfield 35, 3) by decide +kernel) fl_X10_35 rfl (shm_k hsm 53 (by decide) (by decide)) (v := 57) (shm_r hsm 53 7 (by decide) (by decide)) ?_
    refine go_iload_n (show decode cX10_begin 44 = .ok (.iload_n 1, 1) by decide +kernel) (by rfl) ?_
    obtain ⟨q3, h⟩ := h
    obtain ⟨q4, h⟩ := h
    refine go_laload (show decode cX10_begin 45 = .ok (.laload, 1) by decide +kernel) (shm_k hsm 57 (by decide) (by decide)) q3 (lt_n (m := 6912) q4 (shm_n hsm 57 (by decide) (by decide))) ?_
    obtain ⟨q5, h⟩ := h
    obtain ⟨q6, h⟩ := h
    refine go_lastore (show decode cX10_begin 46 = .ok (.lastore, 1) by decide +kernel) (shm_k hsm 58 (by decide) (by decide)) q5 (lt_n (m := 55296) q6 (shm_n hsm 58 (by decide) (by decide)))  ?_
    obtain ⟨G7, G7e⟩ : ∃ G7 : AG, G7 = gu G 58 ((6912 * (F 53 11)) + a1) (G 57 a1) := ⟨_, rfl⟩
    have h := h G7 G7e
    rw [← G7e]
    obtain ⟨q8, h⟩ := h
    refine go_iinc (show decode cX10_begin 47 = .ok (.iinc 1 1, 3) by decide +kernel) (by rfl) q8 (by decide) ?_
    show Go d MX10_begin 50 [some (vR 53), some (vI (a1 + 1))] [] S F G7 Q
    refine go_goto (tgt := 19) (show decode cX10_begin 50 = .ok (.goto (-31), 3) by decide +kernel) (by decide) ?_
    exact h
def V_X10_begin_0 (d : Nat) (S : AS) (F : AF) (G : AG) (Q : AQ)  : Prop :=
  ∀ F1 : AF, F1 = fu F 53 0 0 →
  ((¬ F1 53 11 = 8) →
    Go d MX10_begin 19 [some (vR 53), some (vI 0)] [] S F1 G Q) ∧
  ((F1 53 11 = 8) →
    Q (some (vI (-4))) S F1 G)
theorem R_X10_begin_0 {d : Nat} {S : AS} {F : AF} {G : AG} {Q : AQ}  (hsm : ShM S) (h : V_X10_begin_0 d S F G Q ) : Go d MX10_begin 0 [some (vR 53), none] [] S F G Q := by
  unfold V_X10_begin_0 at h
  refine go_aload_n (show decode cX10_begin 0 = .ok (.aload_n 0, 1) by decide +kernel) (by rfl) ?_
  refine go_iconst (show decode cX10_begin 1 = .ok (.iconst 0, 1) by decide +kernel) (by decide) ?_
  refine go_putI (show decode cX10_begin 2 = .ok (.putfield 1, 3) by decide +kernel) fl_X10_1 rfl (Or.inl rfl) (shm_k hsm 53 (by decide) (by decide)) ?_
  obtain ⟨F1, F1e⟩ : ∃ F1 : AF, F1 = fu F 53 0 0 := ⟨_, rfl⟩
  have h := h F1 F1e
  rw [← F1e]
  refine go_aload_n (show decode cX10_begin 5 = .ok (.aload_n 0, 1) by decide +kernel) (by rfl) ?_
  refine go_getI (show decode cX10_begin 6 = .ok (.getfield 108, 3) by decide +kernel) fl_X10_108 (Or.inl rfl) (shm_k hsm 53 (by decide) (by decide)) ?_
  refine go_bipush (show decode cX10_begin 9 = .ok (.bipush 8, 2) by decide +kernel) (by decide) ?_
  obtain ⟨ht, hf⟩ := h
  refine go_icmpne (tgt := 17) (show decode cX10_begin 11 = .ok (.if_icmp .ne 6, 3) by decide +kernel) (by decide) (fun hc => ?_) (fun hc => ?_)
  · have h := ht hc
    refine go_iconst (show decode cX10_begin 17 = .ok (.iconst 0, 1) by decide +kernel) (by decide) ?_
    refine go_istore_n (show decode cX10_begin 18 = .ok (.istore_n 1, 1) by decide +kernel) (by decide) ?_
    show Go d MX10_begin 19 [some (vR 53), some (vI 0)] [] S F1 G Q
    exact h
  · have h := hf hc
    refine go_bipush (show decode cX10_begin 14 = .ok (.bipush (-4), 2) by decide +kernel) (by decide) ?_
    exact go_iret (show decode cX10_begin 16 = .ok (.ireturn, 1) by decide +kernel) rfl h
def V_X10_commit_0 (d : Nat) (S : AS) (F : AF) (G : AG) (Q : AQ)  : Prop :=
  ∀ F1 : AF, F1 = fu F 53 0 0 →
  ((¬ F1 53 11 = 0) →
    (r32 ((F1 53 11) - 1)) ∧
    ∀ F3 : AF, F3 = fu F1 53 11 ((F1 53 11) - 1) →
    ((F3 53 11 ≤ 0) →
      Q (some (vI (F3 53 11))) S F3 G) ∧
    ((¬ F3 53 11 ≤ 0) →
      (r32 ((F3 53 11) - 1)) ∧
      ((0 : Int) ≤ (F3 53 11) - 1) ∧
      (((F3 53 11) - 1 : Int) < 8) ∧
      ((0 : Int) ≤ F3 53 11) ∧
      ((F3 53 11 : Int) < 8) ∧
      (r32 ((G 61 ((F3 53 11) - 1)) + (G 61 (F3 53 11)))) ∧
      ∀ G10 : AG, G10 = gu G 61 ((F3 53 11) - 1) ((G 61 ((F3 53 11) - 1)) + (G 61 (F3 53 11))) →
      Q (some (vI (F3 53 11))) S F3 G10)) ∧
  ((F1 53 11 = 0) →
    Q (some (vI (-8))) S F1 G)
theorem R_X10_commit_0 {d : Nat} {S : AS} {F : AF} {G : AG} {Q : AQ}  (hsm : ShM S) (h : V_X10_commit_0 d S F G Q ) : Go d MX10_commit 0 [some (vR 53)] [] S F G Q := by
  unfold V_X10_commit_0 at h
  refine go_aload_n (show decode cX10_commit 0 = .ok (.aload_n 0, 1) by decide +kernel) (by rfl) ?_
  refine go_iconst (show decode cX10_commit 1 = .ok (.iconst 0, 1) by decide +kernel) (by decide) ?_
  refine go_putI (show decode cX10_commit 2 = .ok (.putfield 1, 3) by decide +kernel) fl_X10_1 rfl (Or.inl rfl) (shm_k hsm 53 (by decide) (by decide)) ?_
  obtain ⟨F1, F1e⟩ : ∃ F1 : AF, F1 = fu F 53 0 0 := ⟨_, rfl⟩
  have h := h F1 F1e
  rw [← F1e]
  refine go_aload_n (show decode cX10_commit 5 = .ok (.aload_n 0, 1) by decide +kernel) (by rfl) ?_
  refine go_getI (show decode cX10_commit 6 = .ok (.getfield 108, 3) by decide +kernel) fl_X10_108 (Or.inl rfl) (shm_k hsm 53 (by decide) (by decide)) ?_
  obtain ⟨ht, hf⟩ := h
  refine go_ifne (tgt := 15) (show decode cX10_commit 9 = .ok (.ifCond .ne 6, 3) by decide +kernel) (by decide) (fun hc => ?_) (fun hc => ?_)
  · have h := ht hc
    refine go_aload_n (show decode cX10_commit 15 = .ok (.aload_n 0, 1) by decide +kernel) (by rfl) ?_
    refine go_dup (show decode cX10_commit 16 = .ok (.dup, 1) by decide +kernel) ?_
    refine go_getI (show decode cX10_commit 17 = .ok (.getfield 108, 3) by decide +kernel) fl_X10_108 (Or.inl rfl) (shm_k hsm 53 (by decide) (by decide)) ?_
    refine go_iconst (show decode cX10_commit 20 = .ok (.iconst 1, 1) by decide +kernel) (by decide) ?_
    obtain ⟨q2, h⟩ := h
    refine go_isub (show decode cX10_commit 21 = .ok (.isub, 1) by decide +kernel) q2 ?_
    refine go_putI (show decode cX10_commit 22 = .ok (.putfield 108, 3) by decide +kernel) fl_X10_108 rfl (Or.inl rfl) (shm_k hsm 53 (by decide) (by decide)) ?_
    obtain ⟨F3, F3e⟩ : ∃ F3 : AF, F3 = fu F1 53 11 ((F1 53 11) - 1) := ⟨_, rfl⟩
    have h := h F3 F3e
    rw [← F3e]
    refine go_aload_n (show decode cX10_commit 25 = .ok (.aload_n 0, 1) by decide +kernel) (by rfl) ?_
    refine go_getI (show decode cX10_commit 26 = .ok (.getfield 108, 3) by decide +kernel) fl_X10_108 (Or.inl rfl) (shm_k hsm 53 (by decide) (by decide)) ?_
    obtain ⟨ht, hf⟩ := h
    refine go_ifle (tgt := 55) (show decode cX10_commit 29 = .ok (.ifCond .le 26, 3) by decide +kernel) (by decide) (fun hc => ?_) (fun hc => ?_)
    · have h := ht hc
      refine go_aload_n (show decode cX10_commit 55 = .ok (.aload_n 0, 1) by decide +kernel) (by rfl) ?_
      refine go_getI (show decode cX10_commit 56 = .ok (.getfield 108, 3) by decide +kernel) fl_X10_108 (Or.inl rfl) (shm_k hsm 53 (by decide) (by decide)) ?_
      exact go_iret (show decode cX10_commit 59 = .ok (.ireturn, 1) by decide +kernel) rfl h
    · have h := hf hc
      refine go_aload_n (show decode cX10_commit 32 = .ok (.aload_n 0, 1) by decide +kernel) (by rfl) ?_
      refine go_getRc (show decode cX10_commit 33 = .ok (.getfield 49, 3) by decide +kernel) fl_X10_49 rfl (shm_k hsm 53 (by decide) (by decide)) (v := 61) (shm_r hsm 53 12 (by decide) (by decide)) ?_
      refine go_aload_n (show decode cX10_commit 36 = .ok (.aload_n 0, 1) by decide +kernel) (by rfl) ?_
      refine go_getI (show decode cX10_commit 37 = .ok (.getfield 108, 3) by decide +kernel) fl_X10_108 (Or.inl rfl) (shm_k hsm 53 (by decide) (by decide)) ?_
      refine go_iconst (show decode cX10_commit 40 = .ok (.iconst 1, 1) by decide +kernel) (by decide) ?_
      obtain ⟨q4, h⟩ := h
      refine go_isub (show decode cX10_commit 41 = .ok (.isub, 1) by decide +kernel) q4 ?_
      refine go_dup2 (show decode cX10_commit 42 = .ok (.dup2, 1) by decide +kernel) ?_
      obtain ⟨q5, h⟩ := h
      obtain ⟨q6, h⟩ := h
      refine go_iaload (show decode cX10_commit 43 = .ok (.iaload, 1) by decide +kernel) (shm_k hsm 61 (by decide) (by decide)) q5 (lt_n (m := 8) q6 (shm_n hsm 61 (by decide) (by decide))) ?_
      refine go_aload_n (show decode cX10_commit 44 = .ok (.aload_n 0, 1) by decide +kernel) (by rfl) ?_
      refine go_getRc (show decode cX10_commit 45 = .ok (.getfield 49, 3) by decide +kernel) fl_X10_49 rfl (shm_k hsm 53 (by decide) (by decide)) (v := 61) (shm_r hsm 53 12 (by decide) (by decide)) ?_
      refine go_aload_n (show decode cX10_commit 48 = .ok (.aload_n 0, 1) by decide +kernel) (by rfl) ?_
      refine go_getI (show decode cX10_commit 49 = .ok (.getfield 108, 3) by decide +kernel) fl_X10_108 (Or.inl rfl) (shm_k hsm 53 (by decide) (by decide)) ?_
      obtain ⟨q7, h⟩ := h
      obtain ⟨q8, h⟩ := h
      refine go_iaload (show decode cX10_commit 52 = .ok (.iaload, 1) by decide +kernel) (shm_k hsm 61 (by decide) (by decide)) q7 (lt_n (m := 8) q8 (shm_n hsm 61 (by decide) (by decide))) ?_
      obtain ⟨q9, h⟩ := h
      refine go_iadd (show decode cX10_commit 53 = .ok (.iadd, 1) by decide +kernel) q9 ?_
      refine go_iastore (show decode cX10_commit 54 = .ok (.iastore, 1) by decide +kernel) (shm_k hsm 61 (by decide) (by decide)) q5 (lt_n (m := 8) q6 (shm_n hsm 61 (by decide) (by decide)))  ?_
      obtain ⟨G10, G10e⟩ : ∃ G10 : AG, G10 = gu G 61 ((F3 53 11) - 1) ((G 61 ((F3 53 11) - 1)) + (G 61 (F3 53 11))) := ⟨_, rfl⟩
      have h := h G10 G10e
      rw [← G10e]
      refine go_aload_n (show decode cX10_commit 55 = .ok (.aload_n 0, 1) by decide +kernel) (by rfl) ?_
      refine go_getI (show decode cX10_commit 56 = .ok (.getfield 108, 3) by decide +kernel) fl_X10_108 (Or.inl rfl) (shm_k hsm 53 (by decide) (by decide)) ?_
      exact go_iret (show decode cX10_commit 59 = .ok (.ireturn, 1) by decide +kernel) rfl h
  · have h := hf hc
    refine go_bipush (show decode cX10_commit 12 = .ok (.bipush (-8), 2) by decide +kernel) (by decide) ?_
    exact go_iret (show decode cX10_commit 14 = .ok (.ireturn, 1) by decide +kernel) rfl h
def V_X10_cancel_128 (d : Nat) (S : AS) (F : AF) (G : AG) (Q : AQ) (a1 : Int) (s0 : Int) : Prop :=
  ∀ F1 : AF, F1 = fu F 53 14 s0 →
  ((0 : Int) ≤ F1 53 11) ∧
  ((F1 53 11 : Int) < 8) ∧
  Q (some (vI (G 61 (F1 53 11)))) S F1 G
theorem R_X10_cancel_128 {d : Nat} {S : AS} {F : AF} {G : AG} {Q : AQ} {a1 : Int} {s0 : Int} (hsm : ShM S) (h : V_X10_cancel_128 d S F G Q a1 s0) : Go d MX10_cancel 128 [some (vR 53), some (vI a1)] [vI s0, vR 53] S F G Q := by
  unfold V_X10_cancel_128 at h
  refine go_putI (show decode cX10_cancel 128 = .ok (.putfield 111, 3) by decide +kernel) fl_X10_111 rfl (Or.inl rfl) (shm_k hsm 53 (by decide) (by decide)) ?_
  obtain ⟨F1, F1e⟩ : ∃ F1 : AF, F1 = fu F 53 14 s0 := ⟨_, rfl⟩
  have h := h F1 F1e
  rw [← F1e]
  refine go_aload_n (show decode cX10_cancel 131 = .ok (.aload_n 0, 1) by decide +kernel) (by rfl) ?_
  refine go_getRc (show decode cX10_cancel 132 = .ok (.getfield 49, 3) by decide +kernel) fl_X10_49 rfl (shm_k hsm 53 (by decide) (by decide)) (v := 61) (shm_r hsm 53 12 (by decide) (by decide)) ?_
  refine go_aload_n (show decode cX10_cancel 135 = .ok (.aload_n 0, 1) by decide +kernel) (by rfl) ?_
  refine go_getI (show decode cX10_cancel 136 = .ok (.getfield 108, 3) by decide +kernel) fl_X10_108 (Or.inl rfl) (shm_k hsm 53 (by decide) (by decide)) ?_
  obtain ⟨q2, h⟩ := h
  obtain ⟨q3, h⟩ := h
  refine go_iaload (show decode cX10_cancel 139 = .ok (.iaload, 1) by decide +kernel) (shm_k hsm 61 (by decide) (by decide)) q2 (lt_n (m := 8) q3 (shm_n hsm 61 (by decide) (by decide))) ?_
  exact go_iret (show decode cX10_cancel 140 = .ok (.ireturn, 1) by decide +kernel) rfl h
def V_X10_cancel_63 (d : Nat) (S : AS) (F : AF) (G : AG) (Q : AQ) (a1 : Int) : Prop :=
  ((3 ≤ a1) →
    ((0 : Int) ≤ F 53 11) ∧
    ((F 53 11 : Int) < 8) ∧
    ((G 61 (F 53 11) ≤ F 53 14) →
      (r32 ((F 53 14) - (G 61 (F 53 11)))) ∧
      V_X10_cancel_128 d S F G Q a1 ((F 53 14) - (G 61 (F 53 11)))) ∧
    ((¬ G 61 (F 53 11) ≤ F 53 14) →
      V_X10_cancel_128 d S F G Q a1 0)) ∧
  ((¬ 3 ≤ a1) →
    (r32 (3 * (F 53 11))) ∧
    (r32 ((3 * (F 53 11)) + a1)) ∧
    ((0 : Int) ≤ (3 * (F 53 11)) + a1) ∧
    (((3 * (F 53 11)) + a1 : Int) < 24) ∧
    ((0 : Int) ≤ a1) ∧
    ((a1 : Int) < 3) ∧
    ∀ G10 : AG, G10 = gu G 59 a1 (G 60 ((3 * (F 53 11)) + a1)) →
    (r32 (a1 + 1)) ∧
    Go d MX10_cancel 63 [some (vR 53), some (vI (a1 + 1))] [] S F G10 Q)
theorem R_X10_cancel_63 {d : Nat} {S : AS} {F : AF} {G : AG} {Q : AQ} {a1 : Int} (hsm : ShM S) (h : V_X10_cancel_63 d S F G Q a1) : Go d MX10_cancel 63 [some (vR 53), some (vI a1)] [] S F G Q := by
  unfold V_X10_cancel_63 at h
  refine go_iload_n (show decode cX10_cancel 63 = .ok (.iload_n 1, 1) by decide +kernel) (by rfl) ?_
  refine go_iconst (show decode cX10_cancel 64 = .ok (.iconst 3, 1) by decide +kernel) (by decide) ?_
  obtain ⟨ht, hf⟩ := h
  refine go_icmpge (tgt := 93) (show decode cX10_cancel 65 = .ok (.if_icmp .ge 28, 3) by decide +kernel) (by decide) (fun hc => ?_) (fun hc => ?_)
  · have h := ht hc
    refine go_aload_n (show decode cX10_cancel 93 = .ok (.aload_n 0, 1) by decide +kernel) (by rfl) ?_
    refine go_aload_n (show decode cX10_cancel 94 = .ok (.aload_n 0, 1) by decide +kernel) (by rfl) ?_
    refine go_getRc (show decode cX10_cancel 95 = .ok (.getfield 49, 3) by decide +kernel) fl_X10_49 rfl (shm_k hsm 53 (by decide) (by decide)) (v := 61) (shm_r hsm 53 12 (by decide) (by decide)) ?_
    refine go_aload_n (show decode cX10_cancel 98 = .ok (.aload_n 0, 1) by decide +kernel) (by rfl) ?_
    refine go_getI (show decode cX10_cancel 99 = .ok (.getfield 108, 3) by decide +kernel) fl_X10_108 (Or.inl rfl) (shm_k hsm 53 (by decide) (by decide)) ?_
    obtain ⟨q1, h⟩ := h
    obtain ⟨q2, h⟩ := h
    refine go_iaload (show decode cX10_cancel 102 = .ok (.iaload, 1) by decide +kernel) (shm_k hsm 61 (by decide) (by decide)) q1 (lt_n (m := 8) q2 (shm_n hsm 61 (by decide) (by decide))) ?_
    refine go_aload_n (show decode cX10_cancel 103 = .ok (.aload_n 0, 1) by decide +kernel) (by rfl) ?_
    refine go_getI (show decode cX10_cancel 104 = .ok (.getfield 111, 3) by decide +kernel) fl_X10_111 (Or.inl rfl) (shm_k hsm 53 (by decide) (by decide)) ?_
    obtain ⟨ht, hf⟩ := h
    refine go_icmple (tgt := 114) (show decode cX10_cancel 107 = .ok (.if_icmp .le 7, 3) by decide +kernel) (by decide) (fun hc => ?_) (fun hc => ?_)
    · have h := ht hc
      refine go_aload_n (show decode cX10_cancel 114 = .ok (.aload_n 0, 1) by decide +kernel) (by rfl) ?_
      refine go_getI (show decode cX10_cancel 115 = .ok (.getfield 111, 3) by decide +kernel) fl_X10_111 (Or.inl rfl) (shm_k hsm 53 (by decide) (by decide)) ?_
      refine go_aload_n (show decode cX10_cancel 118 = .ok (.aload_n 0, 1) by decide +kernel) (by rfl) ?_
      refine go_getRc (show decode cX10_cancel 119 = .ok (.getfield 49, 3) by decide +kernel) fl_X10_49 rfl (shm_k hsm 53 (by decide) (by decide)) (v := 61) (shm_r hsm 53 12 (by decide) (by decide)) ?_
      refine go_aload_n (show decode cX10_cancel 122 = .ok (.aload_n 0, 1) by decide +kernel) (by rfl) ?_
      refine go_getI (show decode cX10_cancel 123 = .ok (.getfield 108, 3) by decide +kernel) fl_X10_108 (Or.inl rfl) (shm_k hsm 53 (by decide) (by decide)) ?_
      refine go_iaload (show decode cX10_cancel 126 = .ok (.iaload, 1) by decide +kernel) (shm_k hsm 61 (by decide) (by decide)) q1 (lt_n (m := 8) q2 (shm_n hsm 61 (by decide) (by decide))) ?_
      obtain ⟨q3, h⟩ := h
      refine go_isub (show decode cX10_cancel 127 = .ok (.isub, 1) by decide +kernel) q3 ?_
      exact R_X10_cancel_128 hsm h
    · have h := hf hc
      refine go_iconst (show decode cX10_cancel 110 = .ok (.iconst 0, 1) by decide +kernel) (by decide) ?_
      refine go_goto (tgt := 128) (show decode cX10_cancel 111 = .ok (.goto 17, 3) by decide +kernel) (by decide) ?_
      exact R_X10_cancel_128 hsm h
  · have h := hf hc
    refine go_aload_n (show decode cX10_cancel 68 = .ok (.aload_n 0, 1) by decide +kernel) (by rfl) ?_
    refine go_getRc (show decode cX10_cancel 69 = .ok (.getfield 43, 3) by decide +kernel) fl_X10_43 rfl (shm_k hsm 53 (by decide) (by decide)) (v := 59) (shm_r hsm 53 9 (by decide) (by decide)) ?_
    refine go_iload_n (show decode cX10_cancel 72 = .ok (.iload_n 1, 1) by decide +kernel) (by rfl) ?_
    refine go_aload_n (show decode cX10_cancel 73 = .ok (.aload_n 0, 1) by decide +kernel) (by rfl) ?_
    refine go_getRc (show decode cX10_cancel 74 = .ok (.getfield 46, 3) by decide +kernel) fl_X10_46 rfl (shm_k hsm 53 (by decide) (by decide)) (v := 60) (shm_r hsm 53 10 (by decide) (by decide)) ?_
    refine go_iconst (show decode cX10_cancel 77 = .ok (.iconst 3, 1) by decide +kernel) (by decide) ?_
    refine go_aload_n (show decode cX10_cancel 78 = .ok (.aload_n 0, 1) by decide +kernel) (by rfl) ?_
    refine go_getI (show decode cX10_cancel 79 = .ok (.getfield 108, 3) by decide +kernel) fl_X10_108 (Or.inl rfl) (shm_k hsm 53 (by decide) (by decide)) ?_
    obtain ⟨q4, h⟩ := h
    refine go_imul (show decode cX10_cancel 82 = .ok (.imul, 1) by decide +kernel) q4 ?_
    refine go_iload_n (show decode cX10_cancel 83 = .ok (.iload_n 1, 1) by decide +kernel) (by rfl) ?_
    obtain ⟨q5, h⟩ := h
    refine go_iadd (show decode cX10_cancel 84 = .ok (.iadd, 1) by decide +kernel) q5 ?_
    obtain ⟨q6, h⟩ := h
    obtain ⟨q7, h⟩ := h
    refine go_laload (show decode cX10_cancel 85 = .ok (.laload, 1) by decide +kernel) (shm_k hsm 60 (by decide) (by decide)) q6 (lt_n (m := 24) q7 (shm_n hsm 60 (by decide) (by decide))) ?_
    obtain ⟨q8, h⟩ := h
    obtain ⟨q9, h⟩ := h
    refine go_lastore (show decode cX10_cancel 86 = .ok (.lastore, 1) by decide +kernel) (shm_k hsm 59 (by decide) (by decide)) q8 (lt_n (m := 3) q9 (shm_n hsm 59 (by decide) (by decide)))  ?_
    obtain ⟨G10, G10e⟩ : ∃ G10 : AG, G10 = gu G 59 a1 (G 60 ((3 * (F 53 11)) + a1)) := ⟨_, rfl⟩
    have h := h G10 G10e
    rw [← G10e]
    obtain ⟨q11, h⟩ := h
    refine go_iinc (show decode cX10_cancel 87 = .ok (.iinc 1 1, 3) by decide +kernel) (by rfl) q11 (by decide) ?_
    show Go d MX10_cancel 90 [some (vR 53), some (vI (a1 + 1))] [] S F G10 Q
    refine go_goto (tgt := 63) (show decode cX10_cancel 90 = .ok (.goto (-27), 3) by decide +kernel) (by decide) ?_
    exact h
def V_X10_cancel_27 (d : Nat) (S : AS) (F : AF) (G : AG) (Q : AQ) (a1 : Int) : Prop :=
  ((6912 ≤ a1) →
    Go d MX10_cancel 63 [some (vR 53), some (vI 0)] [] S F G Q) ∧
  ((¬ 6912 ≤ a1) →
    (r32 (6912 * (F 53 11))) ∧
    (r32 ((6912 * (F 53 11)) + a1)) ∧
    ((0 : Int) ≤ (6912 * (F 53 11)) + a1) ∧
    (((6912 * (F 53 11)) + a1 : Int) < 55296) ∧
    ((0 : Int) ≤ a1) ∧
    ((a1 : Int) < 6912) ∧
    ∀ G7 : AG, G7 = gu G 57 a1 (G 58 ((6912 * (F 53 11)) + a1)) →
    (r32 (a1 + 1)) ∧
    Go d MX10_cancel 27 [some (vR 53), some (vI (a1 + 1))] [] S F G7 Q)
theorem R_X10_cancel_27 {d : Nat} {S : AS} {F : AF} {G : AG} {Q : AQ} {a1 : Int} (hsm : ShM S) (h : V_X10_cancel_27 d S F G Q a1) : Go d MX10_cancel 27 [some (vR 53), some (vI a1)] [] S F G Q := by
  unfold V_X10_cancel_27 at h
  refine go_iload_n (show decode cX10_cancel 27 = .ok (.iload_n 1, 1) by decide +kernel) (by rfl) ?_
  refine go_sipush (show decode cX10_cancel 28 = .ok (.sipush 6912, 3) by decide +kernel) (by decide) ?_
  obtain ⟨ht, hf⟩ := h
  refine go_icmpge (tgt := 61) (show decode cX10_cancel 31 = .ok (.if_icmp .ge 30, 3) by decide +kernel) (by decide) (fun hc => ?_) (fun hc => ?_)
  · have h := ht hc
    refine go_iconst (show decode cX10_cancel 61 = .ok (.iconst 0, 1) by decide +kernel) (by decide) ?_
    refine go_istore_n (show decode cX10_cancel 62 = .ok (.istore_n 1, 1) by decide +kernel) (by decide) ?_
    show Go d MX10_cancel 63 [some (vR 53), some (vI 0)] [] S F G Q
    exact h
  · have h := hf hc
    refine go_aload_n (show decode cX10_cancel 34 = .ok (.aload_n 0, 1) by decide +kernel) (by rfl) ?_
    refine go_getRc (show decode cX10_cancel 35 = .ok (.getfield 35, 3) by decide +kernel) fl_X10_35 rfl (shm_k hsm 53 (by decide) (by decide)) (v := 57) (shm_r hsm 53 7 (by decide) (by decide)) ?_
    refine go_iload_n (show decode cX10_cancel 38 = .ok (.iload_n 1, 1) by decide +kernel) (by rfl) ?_
    refine go_aload_n (show decode cX10_cancel 39 = .ok (.aload_n 0, 1) by decide +kernel) (by rfl) ?_
    refine go_getRc (show decode cX10_cancel 40 = .ok (.getfield 40, 3) by decide +kernel) fl_X10_40 rfl (shm_k hsm 53 (by decide) (by decide)) (v := 58) (shm_r hsm 53 8 (by decide) (by decide)) ?_
    refine go_sipush (show decode cX10_cancel 43 = .ok (.sipush 6912, 3) by decide +kernel) (by decide) ?_
    refine go_aload_n (show decode cX10_cancel 46 = .ok (.aload_n 0, 1) by decide +kernel) (by rfl) ?_
    refine go_getI (show decode cX10_cancel 47 = .ok (.getfield 108, 3) by decide +kernel) fl_X10_108 (Or.inl rfl) (shm_k hsm 53 (by decide) (by decide)) ?_
    obtain ⟨q1, h⟩ := h
    refine go_imul (show decode cX10_cancel 50 = .ok (.imul, 1) by decide +kernel) q1 ?_
    refine go_iload_n (show decode cX10_cancel 51 = .ok (.iload_n 1, 1) by decide +kernel) (by rfl) ?_
    obtain ⟨q2, h⟩ := h
    refine go_iadd (show decode cX10_cancel 52 = .ok (.iadd, 1) by decide +kernel) q2 ?_
    obtain ⟨q3, h⟩ := h
    obtain ⟨q4, h⟩ := h
    refine go_laload (show decode cX10_cancel 53 = .ok (.laload, 1) by decide +kernel) (shm_k hsm 58 (by decide) (by decide)) q3 (lt_n (m := 55296) q4 (shm_n hsm 58 (by decide) (by decide))) ?_
    obtain ⟨q5, h⟩ := h
    obtain ⟨q6, h⟩ := h
    refine go_lastore (show decode cX10_cancel 54 = .ok (.lastore, 1) by decide +kernel) (shm_k hsm 57 (by decide) (by decide)) q5 (lt_n (m := 6912) q6 (shm_n hsm 57 (by decide) (by decide)))  ?_
    obtain ⟨G7, G7e⟩ : ∃ G7 : AG, G7 = gu G 57 a1 (G 58 ((6912 * (F 53 11)) + a1)) := ⟨_, rfl⟩
    have h := h G7 G7e
    rw [← G7e]
    obtain ⟨q8, h⟩ := h
    refine go_iinc (show decode cX10_cancel 55 = .ok (.iinc 1 1, 3) by decide +kernel) (by rfl) q8 (by decide) ?_
    show Go d MX10_cancel 58 [some (vR 53), some (vI (a1 + 1))] [] S F G7 Q
    refine go_goto (tgt := 27) (show decode cX10_cancel 58 = .ok (.goto (-31), 3) by decide +kernel) (by decide) ?_
    exact h
def V_X10_cancel_0 (d : Nat) (S : AS) (F : AF) (G : AG) (Q : AQ)  : Prop :=
  ∀ F1 : AF, F1 = fu F 53 0 0 →
  ((¬ F1 53 11 = 0) →
    (r32 ((F1 53 11) - 1)) ∧
    ∀ F3 : AF, F3 = fu F1 53 11 ((F1 53 11) - 1) →
    Go d MX10_cancel 27 [some (vR 53), some (vI 0)] [] S F3 G Q) ∧
  ((F1 53 11 = 0) →
    Q (some (vI (-8))) S F1 G)
theorem R_X10_cancel_0 {d : Nat} {S : AS} {F : AF} {G : AG} {Q : AQ}  (hsm : ShM S) (h : V_X10_cancel_0 d S F G Q ) : Go d MX10_cancel 0 [some (vR 53), none] [] S F G Q := by
  unfold V_X10_cancel_0 at h
  refine go_aload_n (show decode cX10_cancel 0 = .ok (.aload_n 0, 1) by decide +kernel) (by rfl) ?_
  refine go_iconst (show decode cX10_cancel 1 = .ok (.iconst 0, 1) by decide +kernel) (by decide) ?_
  refine go_putI (show decode cX10_cancel 2 = .ok (.putfield 1, 3) by decide +kernel) fl_X10_1 rfl (Or.inl rfl) (shm_k hsm 53 (by decide) (by decide)) ?_
  obtain ⟨F1, F1e⟩ : ∃ F1 : AF, F1 = fu F 53 0 0 := ⟨_, rfl⟩
  have h := h F1 F1e
  rw [← F1e]
  refine go_aload_n (show decode cX10_cancel 5 = .ok (.aload_n 0, 1) by decide +kernel) (by rfl) ?_
  refine go_getI (show decode cX10_cancel 6 = .ok (.getfield 108, 3) by decide +kernel) fl_X10_108 (Or.inl rfl) (shm_k hsm 53 (by decide) (by decide)) ?_
  obtain ⟨ht, hf⟩ := h
  refine go_ifne (tgt := 15) (show decode cX10_cancel 9 = .ok (.ifCond .ne 6, 3) by decide +kernel) (by decide) (fun hc => ?_) (fun hc => ?_)
  · have h := ht hc
    refine go_aload_n (show decode cX10_cancel 15 = .ok (.aload_n 0, 1) by decide +kernel) (by rfl) ?_
    refine go_dup (show decode cX10_cancel 16 = .ok (.dup, 1) by decide +kernel) ?_
    refine go_getI (show decode cX10_cancel 17 = .ok (.getfield 108, 3) by decide +kernel) fl_X10_108 (Or.inl rfl) (shm_k hsm 53 (by decide) (by decide)) ?_
    refine go_iconst (show decode cX10_cancel 20 = .ok (.iconst 1, 1) by decide +kernel) (by decide) ?_
    obtain ⟨q2, h⟩ := h
    refine go_isub (show decode cX10_cancel 21 = .ok (.isub, 1) by decide +kernel) q2 ?_
    refine go_putI (show decode cX10_cancel 22 = .ok (.putfield 108, 3) by decide +kernel) fl_X10_108 rfl (Or.inl rfl) (shm_k hsm 53 (by decide) (by decide)) ?_
    obtain ⟨F3, F3e⟩ : ∃ F3 : AF, F3 = fu F1 53 11 ((F1 53 11) - 1) := ⟨_, rfl⟩
    have h := h F3 F3e
    rw [← F3e]
    refine go_iconst (show decode cX10_cancel 25 = .ok (.iconst 0, 1) by decide +kernel) (by decide) ?_
    refine go_istore_n (show decode cX10_cancel 26 = .ok (.istore_n 1, 1) by decide +kernel) (by decide) ?_
    show Go d MX10_cancel 27 [some (vR 53), some (vI 0)] [] S F3 G Q
    exact h
  · have h := hf hc
    refine go_bipush (show decode cX10_cancel 12 = .ok (.bipush (-8), 2) by decide +kernel) (by decide) ?_
    exact go_iret (show decode cX10_cancel 14 = .ok (.ireturn, 1) by decide +kernel) rfl h
def V_X10_feed_77 (d : Nat) (S : AS) (F : AF) (G : AG) (Q : AQ) (a1 : Int) (a2 : Int) (a3 : Int) (a4 : Int) (a5 : Int) (a6 : Int) (s0 : Int) : Prop :=
  (r32 (Int.tdiv a6 4)) ∧
  (r32 (Int.tmod a6 4)) ∧
  (r32 (8 * (Int.tmod a6 4))) ∧
  (r32 (24 - (8 * (Int.tmod a6 4)))) ∧
  ((0 : Int) ≤ F 53 34) ∧
  ((F 53 34 : Int) < 500) ∧
  (-128 ≤ iB (bShr s0 (24 - (8 * (Int.tmod a6 4)))) ∧ iB (bShr s0 (24 - (8 * (Int.tmod a6 4)))) < 128) ∧
  ∀ G8 : AG, G8 = gu G 72 (F 53 34) (iB (bShr s0 (24 - (8 * (Int.tmod a6 4))))) →
  (r32 ((F 53 34) + 1)) ∧
  ∀ F10 : AF, F10 = fu F 53 34 ((F 53 34) + 1) →
  (r32 (a6 + 1)) ∧
  Go d MX10_feed 24 [some (vR 53), some (vI a1), some (vI a2), some (vI a3), some (vI a4), some (vI a5), some (vI (a6 + 1)), none] [] S F10 G8 Q
theorem R_X10_feed_77 {d : Nat} {S : AS} {F : AF} {G : AG} {Q : AQ} {a1 : Int} {a2 : Int} {a3 : Int} {a4 : Int} {a5 : Int} {a6 : Int} {s0 : Int} (hsm : ShM S) (h : V_X10_feed_77 d S F G Q a1 a2 a3 a4 a5 a6 s0) : Go d MX10_feed 77 [some (vR 53), some (vI a1), some (vI a2), some (vI a3), some (vI a4), some (vI a5), some (vI a6), none] [vI s0] S F G Q := by
  unfold V_X10_feed_77 at h
  refine go_istore (show decode cX10_feed 77 = .ok (.istore 7, 2) by decide +kernel) (by decide) ?_
  show Go d MX10_feed 79 [some (vR 53), some (vI a1), some (vI a2), some (vI a3), some (vI a4), some (vI a5), some (vI a6), some (vI s0)] [] S F G Q
  refine go_aload_n (show decode cX10_feed 79 = .ok (.aload_n 0, 1) by decide +kernel) (by rfl) ?_
  refine go_getRc (show decode cX10_feed 80 = .ok (.getfield 83, 3) by decide +kernel) fl_X10_83 rfl (shm_k hsm 53 (by decide) (by decide)) (v := 72) (shm_r hsm 53 33 (by decide) (by decide)) ?_
  refine go_aload_n (show decode cX10_feed 83 = .ok (.aload_n 0, 1) by decide +kernel) (by rfl) ?_
  refine go_getI (show decode cX10_feed 84 = .ok (.getfield 313, 3) by decide +kernel) fl_X10_313 (Or.inl rfl) (shm_k hsm 53 (by decide) (by decide)) ?_
  refine go_iload (show decode cX10_feed 87 = .ok (.iload 7, 2) by decide +kernel) (by rfl) ?_
  refine go_bipush (show decode cX10_feed 89 = .ok (.bipush 24, 2) by decide +kernel) (by decide) ?_
  refine go_bipush (show decode cX10_feed 91 = .ok (.bipush 8, 2) by decide +kernel) (by decide) ?_
  refine go_iload (show decode cX10_feed 93 = .ok (.iload 6, 2) by decide +kernel) (by rfl) ?_
  refine go_iconst (show decode cX10_feed 95 = .ok (.iconst 4, 1) by decide +kernel) (by decide) ?_
  obtain ⟨q1, h⟩ := h
  obtain ⟨q2, h⟩ := h
  refine go_irem (show decode cX10_feed 96 = .ok (.irem, 1) by decide +kernel) (by decide) q1 q2 ?_
  obtain ⟨q3, h⟩ := h
  refine go_imul (show decode cX10_feed 97 = .ok (.imul, 1) by decide +kernel) q3 ?_
  obtain ⟨q4, h⟩ := h
  refine go_isub (show decode cX10_feed 98 = .ok (.isub, 1) by decide +kernel) q4 ?_
  refine go_ishr (show decode cX10_feed 99 = .ok (.ishr, 1) by decide +kernel) ?_
  refine go_i2b (show decode cX10_feed 100 = .ok (.i2b, 1) by decide +kernel) ?_
  obtain ⟨q5, h⟩ := h
  obtain ⟨q6, h⟩ := h
  obtain ⟨q7, h⟩ := h
  refine go_bastore (show decode cX10_feed 101 = .ok (.bastore, 1) by decide +kernel) (shm_k hsm 72 (by decide) (by decide)) q5 (lt_n (m := 500) q6 (shm_n hsm 72 (by decide) (by decide))) q7 ?_
  obtain ⟨G8, G8e⟩ : ∃ G8 : AG, G8 = gu G 72 (F 53 34) (iB (bShr s0 (24 - (8 * (Int.tmod a6 4))))) := ⟨_, rfl⟩
  have h := h G8 G8e
  rw [← G8e]
  refine go_aload_n (show decode cX10_feed 102 = .ok (.aload_n 0, 1) by decide +kernel) (by rfl) ?_
  refine go_dup (show decode cX10_feed 103 = .ok (.dup, 1) by decide +kernel) ?_
  refine go_getI (show decode cX10_feed 104 = .ok (.getfield 313, 3) by decide +kernel) fl_X10_313 (Or.inl rfl) (shm_k hsm 53 (by decide) (by decide)) ?_
  refine go_iconst (show decode cX10_feed 107 = .ok (.iconst 1, 1) by decide +kernel) (by decide) ?_
  obtain ⟨q9, h⟩ := h
  refine go_iadd (show decode cX10_feed 108 = .ok (.iadd, 1) by decide +kernel) q9 ?_
  refine go_putI (show decode cX10_feed 109 = .ok (.putfield 313, 3) by decide +kernel) fl_X10_313 rfl (Or.inl rfl) (shm_k hsm 53 (by decide) (by decide)) ?_
  obtain ⟨F10, F10e⟩ : ∃ F10 : AF, F10 = fu F 53 34 ((F 53 34) + 1) := ⟨_, rfl⟩
  have h := h F10 F10e
  rw [← F10e]
  obtain ⟨q11, h⟩ := h
  refine go_iinc (show decode cX10_feed 112 = .ok (.iinc 6 1, 3) by decide +kernel) (by rfl) q11 (by decide) ?_
  show Go d MX10_feed 115 [some (vR 53), some (vI a1), some (vI a2), some (vI a3), some (vI a4), some (vI a5), some (vI (a6 + 1)), some (vI s0)] [] S F10 G8 Q
  refine go_goto (tgt := 24) (show decode cX10_feed 115 = .ok (.goto (-91), 3) by decide +kernel) (by decide) ?_
  refine go_clr 7 ?_
  exact h
def V_X10_feed_24 (d : Nat) (S : AS) (F : AF) (G : AG) (Q : AQ) (a1 : Int) (a2 : Int) (a3 : Int) (a4 : Int) (a5 : Int) (a6 : Int) : Prop :=
  ((20 ≤ a6) →
    Q (some (vI (F 53 34))) S F G) ∧
  ((¬ 20 ≤ a6) →
    ((4 ≤ a6) →
      ((8 ≤ a6) →
        ((12 ≤ a6) →
          ((16 ≤ a6) →
            V_X10_feed_77 d S F G Q a1 a2 a3 a4 a5 a6 a5) ∧
          ((¬ 16 ≤ a6) →
            V_X10_feed_77 d S F G Q a1 a2 a3 a4 a5 a6 a4)) ∧
        ((¬ 12 ≤ a6) →
          V_X10_feed_77 d S F G Q a1 a2 a3 a4 a5 a6 a3)) ∧
      ((¬ 8 ≤ a6) →
        V_X10_feed_77 d S F G Q a1 a2 a3 a4 a5 a6 a2)) ∧
    ((¬ 4 ≤ a6) →
      V_X10_feed_77 d S F G Q a1 a2 a3 a4 a5 a6 a1))
theorem R_X10_feed_24 {d : Nat} {S : AS} {F : AF} {G : AG} {Q : AQ} {a1 : Int} {a2 : Int} {a3 : Int} {a4 : Int} {a5 : Int} {a6 : Int} (hsm : ShM S) (h : V_X10_feed_24 d S F G Q a1 a2 a3 a4 a5 a6) : Go d MX10_feed 24 [some (vR 53), some (vI a1), some (vI a2), some (vI a3), some (vI a4), some (vI a5), some (vI a6), none] [] S F G Q := by
  unfold V_X10_feed_24 at h
  refine go_iload (show decode cX10_feed 24 = .ok (.iload 6, 2) by decide +kernel) (by rfl) ?_
  refine go_bipush (show decode cX10_feed 26 = .ok (.bipush 20, 2) by decide +kernel) (by decide) ?_
  obtain ⟨ht, hf⟩ := h
  refine go_icmpge (tgt := 118) (show decode cX10_feed 28 = .ok (.if_icmp .ge 90, 3) by decide +kernel) (by decide) (fun hc => ?_) (fun hc => ?_)
  · have h := ht hc
    refine go_aload_n (show decode cX10_feed 118 = .ok (.aload_n 0, 1) by decide +kernel) (by rfl) ?_
    refine go_getI (show decode cX10_feed 119 = .ok (.getfield 313, 3) by decide +kernel) fl_X10_313 (Or.inl rfl) (shm_k hsm 53 (by decide) (by decide)) ?_
    exact go_iret (show decode cX10_feed 122 = .ok (.ireturn, 1) by decide +kernel) rfl h
  · have h := hf hc
    refine go_iload (show decode cX10_feed 31 = .ok (.iload 6, 2) by decide +kernel) (by rfl) ?_
    refine go_iconst (show decode cX10_feed 33 = .ok (.iconst 4, 1) by decide +kernel) (by decide) ?_
    obtain ⟨ht, hf⟩ := h
    refine go_icmpge (tgt := 41) (show decode cX10_feed 34 = .ok (.if_icmp .ge 7, 3) by decide +kernel) (by decide) (fun hc => ?_) (fun hc => ?_)
    · have h := ht hc
      refine go_iload (show decode cX10_feed 41 = .ok (.iload 6, 2) by decide +kernel) (by rfl) ?_
      refine go_bipush (show decode cX10_feed 43 = .ok (.bipush 8, 2) by decide +kernel) (by decide) ?_
      obtain ⟨ht, hf⟩ := h
      refine go_icmpge (tgt := 52) (show decode cX10_feed 45 = .ok (.if_icmp .ge 7, 3) by decide +kernel) (by decide) (fun hc => ?_) (fun hc => ?_)
      · have h := ht hc
        refine go_iload (show decode cX10_feed 52 = .ok (.iload 6, 2) by decide +kernel) (by rfl) ?_
        refine go_bipush (show decode cX10_feed 54 = .ok (.bipush 12, 2) by decide +kernel) (by decide) ?_
        obtain ⟨ht, hf⟩ := h
        refine go_icmpge (tgt := 63) (show decode cX10_feed 56 = .ok (.if_icmp .ge 7, 3) by decide +kernel) (by decide) (fun hc => ?_) (fun hc => ?_)
        · have h := ht hc
          refine go_iload (show decode cX10_feed 63 = .ok (.iload 6, 2) by decide +kernel) (by rfl) ?_
          refine go_bipush (show decode cX10_feed 65 = .ok (.bipush 16, 2) by decide +kernel) (by decide) ?_
          obtain ⟨ht, hf⟩ := h
          refine go_icmpge (tgt := 75) (show decode cX10_feed 67 = .ok (.if_icmp .ge 8, 3) by decide +kernel) (by decide) (fun hc => ?_) (fun hc => ?_)
          · have h := ht hc
            refine go_iload (show decode cX10_feed 75 = .ok (.iload 5, 2) by decide +kernel) (by rfl) ?_
            exact R_X10_feed_77 hsm h
          · have h := hf hc
            refine go_iload (show decode cX10_feed 70 = .ok (.iload 4, 2) by decide +kernel) (by rfl) ?_
            refine go_goto (tgt := 77) (show decode cX10_feed 72 = .ok (.goto 5, 3) by decide +kernel) (by decide) ?_
            exact R_X10_feed_77 hsm h
        · have h := hf hc
          refine go_iload_n (show decode cX10_feed 59 = .ok (.iload_n 3, 1) by decide +kernel) (by rfl) ?_
          refine go_goto (tgt := 77) (show decode cX10_feed 60 = .ok (.goto 17, 3) by decide +kernel) (by decide) ?_
          exact R_X10_feed_77 hsm h
      · have h := hf hc
        refine go_iload_n (show decode cX10_feed 48 = .ok (.iload_n 2, 1) by decide +kernel) (by rfl) ?_
        refine go_goto (tgt := 77) (show decode cX10_feed 49 = .ok (.goto 28, 3) by decide +kernel) (by decide) ?_
        exact R_X10_feed_77 hsm h
    · have h := hf hc
      refine go_iload_n (show decode cX10_feed 37 = .ok (.iload_n 1, 1) by decide +kernel) (by rfl) ?_
      refine go_goto (tgt := 77) (show decode cX10_feed 38 = .ok (.goto 39, 3) by decide +kernel) (by decide) ?_
      exact R_X10_feed_77 hsm h
def V_X10_feed_0 (d : Nat) (S : AS) (F : AF) (G : AG) (Q : AQ) (a1 : Int) (a2 : Int) (a3 : Int) (a4 : Int) (a5 : Int) : Prop :=
  ∀ F1 : AF, F1 = fu F 53 0 0 →
  (r32 ((F1 53 34) + 20)) ∧
  (((F1 53 34) + 20 ≤ 500) →
    Go d MX10_feed 24 [some (vR 53), some (vI a1), some (vI a2), some (vI a3), some (vI a4), some (vI a5), some (vI 0), none] [] S F1 G Q) ∧
  ((¬ (F1 53 34) + 20 ≤ 500) →
    Q (some (vI (-4))) S F1 G)
theorem R_X10_feed_0 {d : Nat} {S : AS} {F : AF} {G : AG} {Q : AQ} {a1 : Int} {a2 : Int} {a3 : Int} {a4 : Int} {a5 : Int} (hsm : ShM S) (h : V_X10_feed_0 d S F G Q a1 a2 a3 a4 a5) : Go d MX10_feed 0 [some (vR 53), some (vI a1), some (vI a2), some (vI a3), some (vI a4), some (vI a5), none, none] [] S F G Q := by
  unfold V_X10_feed_0 at h
  refine go_aload_n (show decode cX10_feed 0 = .ok (.aload_n 0, 1) by decide +kernel) (by rfl) ?_
  refine go_iconst (show decode cX10_feed 1 = .ok (.iconst 0, 1) by decide +kernel) (by decide) ?_
  refine go_putI (show decode cX10_feed 2 = .ok (.putfield 1, 3) by decide +kernel) fl_X10_1 rfl (Or.inl rfl) (shm_k hsm 53 (by decide) (by decide)) ?_
  obtain ⟨F1, F1e⟩ : ∃ F1 : AF, F1 = fu F 53 0 0 := ⟨_, rfl⟩
  have h := h F1 F1e
  rw [← F1e]
  refine go_aload_n (show decode cX10_feed 5 = .ok (.aload_n 0, 1) by decide +kernel) (by rfl) ?_
  refine go_getI (show decode cX10_feed 6 = .ok (.getfield 313, 3) by decide +kernel) fl_X10_313 (Or.inl rfl) (shm_k hsm 53 (by decide) (by decide)) ?_
  refine go_bipush (show decode cX10_feed 9 = .ok (.bipush 20, 2) by decide +kernel) (by decide) ?_
  obtain ⟨q2, h⟩ := h
  refine go_iadd (show decode cX10_feed 11 = .ok (.iadd, 1) by decide +kernel) q2 ?_
  refine go_sipush (show decode cX10_feed 12 = .ok (.sipush 500, 3) by decide +kernel) (by decide) ?_
  obtain ⟨ht, hf⟩ := h
  refine go_icmple (tgt := 21) (show decode cX10_feed 15 = .ok (.if_icmp .le 6, 3) by decide +kernel) (by decide) (fun hc => ?_) (fun hc => ?_)
  · have h := ht hc
    refine go_iconst (show decode cX10_feed 21 = .ok (.iconst 0, 1) by decide +kernel) (by decide) ?_
    refine go_istore (show decode cX10_feed 22 = .ok (.istore 6, 2) by decide +kernel) (by decide) ?_
    show Go d MX10_feed 24 [some (vR 53), some (vI a1), some (vI a2), some (vI a3), some (vI a4), some (vI a5), some (vI 0), none] [] S F1 G Q
    exact h
  · have h := hf hc
    refine go_bipush (show decode cX10_feed 18 = .ok (.bipush (-4), 2) by decide +kernel) (by decide) ?_
    exact go_iret (show decode cX10_feed 20 = .ok (.ireturn, 1) by decide +kernel) rfl h
def V_X10_run_88 (d : Nat) (S : AS) (F : AF) (G : AG) (Q : AQ) (a1 : Int) (a2 : Int) : Prop :=
  ((F 53 41 ≤ a2) →
    Q (some (vI (F 53 41))) S F G) ∧
  ((¬ F 53 41 ≤ a2) →
    (1 ≤ d) ∧
    Ok (d - 1) MX10_does [vR 53, vI a2] S F G (fun w2 S3 F4 G5 =>
    S3 = S ∧
    ∃ z6 : Int, w2 = some (vJ z6) ∧
    ((z6 < 0) →
      (r32 (z6)) ∧
      ∀ F8 : AF, F8 = fu F4 53 39 z6 →
      Q (some (vI a2)) S F8 G5) ∧
    ((¬ z6 < 0) →
      (r32 (a2 + 1)) ∧
      Go d MX10_run 88 [some (vR 53), some (vI a1), some (vI (a2 + 1)), none, none] [] S F4 G5 Q)))
theorem R_X10_run_88 {d : Nat} {S : AS} {F : AF} {G : AG} {Q : AQ} {a1 : Int} {a2 : Int} (hsm : ShM S) (h : V_X10_run_88 d S F G Q a1 a2) : Go d MX10_run 88 [some (vR 53), some (vI a1), some (vI a2), none, none] [] S F G Q := by
  unfold V_X10_run_88 at h
  refine go_iload_n (show decode cX10_run 88 = .ok (.iload_n 2, 1) by decide +kernel) (by rfl) ?_
  refine go_aload_n (show decode cX10_run 89 = .ok (.aload_n 0, 1) by decide +kernel) (by rfl) ?_
  refine go_getI (show decode cX10_run 90 = .ok (.getfield 366, 3) by decide +kernel) fl_X10_366 (Or.inl rfl) (shm_k hsm 53 (by decide) (by decide)) ?_
  obtain ⟨ht, hf⟩ := h
  refine go_icmpge (tgt := 125) (show decode cX10_run 93 = .ok (.if_icmp .ge 32, 3) by decide +kernel) (by decide) (fun hc => ?_) (fun hc => ?_)
  · have h := ht hc
    refine go_aload_n (show decode cX10_run 125 = .ok (.aload_n 0, 1) by decide +kernel) (by rfl) ?_
    refine go_getI (show decode cX10_run 126 = .ok (.getfield 366, 3) by decide +kernel) fl_X10_366 (Or.inl rfl) (shm_k hsm 53 (by decide) (by decide)) ?_
    exact go_iret (show decode cX10_run 129 = .ok (.ireturn, 1) by decide +kernel) rfl h
  · have h := hf hc
    refine go_aload_n (show decode cX10_run 96 = .ok (.aload_n 0, 1) by decide +kernel) (by rfl) ?_
    refine go_iload_n (show decode cX10_run 97 = .ok (.iload_n 2, 1) by decide +kernel) (by rfl) ?_
    obtain ⟨q1, h⟩ := h
    refine go_callV (d2 := d - 1) (M2 := MX10_does) (n := 1) (ci := 10) (av := [vI a2]) (st := []) (show decode cX10_run 98 = .ok (.invokevirtual 400, 3) by decide +kernel) ml_X10_400 mt_X10_does min_X10_does mse_X10_does (by decide) (shm_k hsm 53 (by decide) (by decide)) rfl (Nat.le_of_ble_eq_true rfl) (by omega) (ok_mono h (fun w2 S3 F4 G5 h => ?_))
    obtain ⟨e8, h⟩ := h
    replace e8 := e8.symm; subst e8
    obtain ⟨z6, e9, h⟩ := h
    subst e9
    show Go d MX10_run 101 [some (vR 53), some (vI a1), some (vI a2), none, none] [vJ z6] S F4 G5 Q
    refine go_lstore_n (show decode cX10_run 101 = .ok (.lstore_n 3, 1) by decide +kernel) (by decide) ?_
    show Go d MX10_run 102 [some (vR 53), some (vI a1), some (vI a2), some (vJ z6), none] [] S F4 G5 Q
    refine go_lload_n (show decode cX10_run 102 = .ok (.lload_n 3, 1) by decide +kernel) (by rfl) ?_
    refine go_lconst (n := 0) (show decode cX10_run 103 = .ok (.lconst 0, 1) by decide +kernel) ?_
    show Go d MX10_run 104 [some (vR 53), some (vI a1), some (vI a2), some (vJ z6), none] [vJ 0, vJ z6] S F4 G5 Q
    obtain ⟨ht, hf⟩ := h
    refine go_jlt (tgt := 111) (show decode cX10_run 104 = .ok (.lcmp, 1) by decide +kernel) (show decode cX10_run 105 = .ok (.ifCond .lt 6, 3) by decide +kernel) (by decide) (fun hc => ?_) (fun hc => ?_)
    · have h := ht hc
      refine go_aload_n (show decode cX10_run 111 = .ok (.aload_n 0, 1) by decide +kernel) (by rfl) ?_
      refine go_lload_n (show decode cX10_run 112 = .ok (.lload_n 3, 1) by decide +kernel) (by rfl) ?_
      obtain ⟨q7, h⟩ := h
      refine go_l2i (show decode cX10_run 113 = .ok (.l2i, 1) by decide +kernel) q7 ?_
      refine go_putI (show decode cX10_run 114 = .ok (.putfield 390, 3) by decide +kernel) fl_X10_390 rfl (Or.inl rfl) (shm_k hsm 53 (by decide) (by decide)) ?_
      obtain ⟨F8, F8e⟩ : ∃ F8 : AF, F8 = fu F4 53 39 z6 := ⟨_, rfl⟩
      have h := h F8 F8e
      rw [← F8e]
      refine go_iload_n (show decode cX10_run 117 = .ok (.iload_n 2, 1) by decide +kernel) (by rfl) ?_
      exact go_iret (show decode cX10_run 118 = .ok (.ireturn, 1) by decide +kernel) rfl h
    · have h := hf hc
      refine go_goto (tgt := 119) (show decode cX10_run 108 = .ok (.goto 11, 3) by decide +kernel) (by decide) ?_
      obtain ⟨q9, h⟩ := h
      refine go_iinc (show decode cX10_run 119 = .ok (.iinc 2 1, 3) by decide +kernel) (by rfl) q9 (by decide) ?_
      show Go d MX10_run 122 [some (vR 53), some (vI a1), some (vI (a2 + 1)), some (vJ z6), none] [] S F4 G5 Q
      refine go_goto (tgt := 88) (show decode cX10_run 122 = .ok (.goto (-34), 3) by decide +kernel) (by decide) ?_
      refine go_clr 3 ?_
      exact h
def V_X10_run_57 (d : Nat) (S : AS) (F : AF) (G : AG) (Q : AQ) (a1 : Int) : Prop :=
  (1 ≤ d) ∧
  Ok (d - 1) MX10_isOver [vR 53] S F G (fun w2 S3 F4 G5 =>
  S3 = S ∧
  ∃ z6 : Int, w2 = some (vI z6) ∧
  ((¬ z6 = 0) →
    ((F4 53 37 = 0) →
      Go d MX10_run 88 [some (vR 53), some (vI a1), some (vI 0), none, none] [] S F4 G5 Q) ∧
    ((¬ F4 53 37 = 0) →
      (r32 ((-30) - (F4 53 37))) ∧
      Q (some (vI ((-30) - (F4 53 37)))) S F4 G5)) ∧
  ((z6 = 0) →
    Ok (d - 1) MX10_readAct [vR 53] S F4 G5 (fun w8 S9 F10 G11 =>
    S9 = S ∧
    w8 = none ∧
    Go d MX10_run 57 [some (vR 53), some (vI a1), none, none, none] [] S F10 G11 Q)))
theorem R_X10_run_57 {d : Nat} {S : AS} {F : AF} {G : AG} {Q : AQ} {a1 : Int} (hsm : ShM S) (h : V_X10_run_57 d S F G Q a1) : Go d MX10_run 57 [some (vR 53), some (vI a1), none, none, none] [] S F G Q := by
  unfold V_X10_run_57 at h
  refine go_aload_n (show decode cX10_run 57 = .ok (.aload_n 0, 1) by decide +kernel) (by rfl) ?_
  obtain ⟨q1, h⟩ := h
  refine go_callV (d2 := d - 1) (M2 := MX10_isOver) (n := 0) (ci := 10) (av := []) (st := []) (show decode cX10_run 58 = .ok (.invokevirtual 393, 3) by decide +kernel) ml_X10_393 mt_X10_isOver min_X10_isOver mse_X10_isOver (by decide) (shm_k hsm 53 (by decide) (by decide)) rfl (Nat.le_of_ble_eq_true rfl) (by omega) (ok_mono h (fun w2 S3 F4 G5 h => ?_))
  obtain ⟨e8, h⟩ := h
  replace e8 := e8.symm; subst e8
  obtain ⟨z6, e9, h⟩ := h
  subst e9
  show Go d MX10_run 61 [some (vR 53), some (vI a1), none, none, none] [vI z6] S F4 G5 Q
  obtain ⟨ht, hf⟩ := h
  refine go_ifne (tgt := 71) (show decode cX10_run 61 = .ok (.ifCond .ne 10, 3) by decide +kernel) (by decide) (fun hc => ?_) (fun hc => ?_)
  · have h := ht hc
    refine go_aload_n (show decode cX10_run 71 = .ok (.aload_n 0, 1) by decide +kernel) (by rfl) ?_
    refine go_getI (show decode cX10_run 72 = .ok (.getfield 322, 3) by decide +kernel) fl_X10_322 (Or.inl rfl) (shm_k hsm 53 (by decide) (by decide)) ?_
    obtain ⟨ht, hf⟩ := h
    refine go_ifeq (tgt := 86) (show decode cX10_run 75 = .ok (.ifCond .eq 11, 3) by decide +kernel) (by decide) (fun hc => ?_) (fun hc => ?_)
    · have h := ht hc
      refine go_iconst (show decode cX10_run 86 = .ok (.iconst 0, 1) by decide +kernel) (by decide) ?_
      refine go_istore_n (show decode cX10_run 87 = .ok (.istore_n 2, 1) by decide +kernel) (by decide) ?_
      show Go d MX10_run 88 [some (vR 53), some (vI a1), some (vI 0), none, none] [] S F4 G5 Q
      exact h
    · have h := hf hc
      refine go_bipush (show decode cX10_run 78 = .ok (.bipush (-30), 2) by decide +kernel) (by decide) ?_
      refine go_aload_n (show decode cX10_run 80 = .ok (.aload_n 0, 1) by decide +kernel) (by rfl) ?_
      refine go_getI (show decode cX10_run 81 = .ok (.getfield 322, 3) by decide +kernel) fl_X10_322 (Or.inl rfl) (shm_k hsm 53 (by decide) (by decide)) ?_
      obtain ⟨q7, h⟩ := h
      refine go_isub (show decode cX10_run 84 = .ok (.isub, 1) by decide +kernel) q7 ?_
      exact go_iret (show decode cX10_run 85 = .ok (.ireturn, 1) by decide +kernel) rfl h
  · have h := hf hc
    refine go_aload_n (show decode cX10_run 64 = .ok (.aload_n 0, 1) by decide +kernel) (by rfl) ?_
    refine go_callV (d2 := d - 1) (M2 := MX10_readAct) (n := 0) (ci := 10) (av := []) (st := []) (show decode cX10_run 65 = .ok (.invokevirtual 397, 3) by decide +kernel) ml_X10_397 mt_X10_readAct min_X10_readAct mse_X10_readAct (by decide) (shm_k hsm 53 (by decide) (by decide)) rfl (Nat.le_of_ble_eq_true rfl) (by omega) (ok_mono h (fun w8 S9 F10 G11 h => ?_))
    obtain ⟨e8, h⟩ := h
    replace e8 := e8.symm; subst e8
    obtain ⟨e9, h⟩ := h
    subst e9
    show Go d MX10_run 68 [some (vR 53), some (vI a1), none, none, none] [] S F10 G11 Q
    refine go_goto (tgt := 57) (show decode cX10_run 68 = .ok (.goto (-11), 3) by decide +kernel) (by decide) ?_
    exact h
def V_X10_run_0 (d : Nat) (S : AS) (F : AF) (G : AG) (Q : AQ) (a1 : Int) : Prop :=
  ∀ F1 : AF, F1 = fu F 53 0 0 →
  (1 ≤ d) ∧
  ∃ z7 : Int, Pu (d - 1) MX10_isIn [vJ a1, vJ 0, vJ (F1 53 34)] S F1 G (some (vI z7)) ∧
  ((¬ z7 = 0) →
    ∀ F9 : AF, F9 = fu F1 53 34 0 →
    ∀ F10 : AF, F10 = fu F9 53 35 a1 →
    ∀ F11 : AF, F11 = fu F10 53 36 0 →
    ∀ F12 : AF, F12 = fu F11 53 37 0 →
    ∀ F13 : AF, F13 = fu F12 53 38 (-1) →
    ∀ F14 : AF, F14 = fu F13 53 39 0 →
    ∀ F15 : AF, F15 = fu F14 53 41 0 →
    Go d MX10_run 57 [some (vR 53), some (vI a1), none, none, none] [] S F15 G Q) ∧
  ((z7 = 0) →
    Q (some (vI (-3))) S F1 G)
theorem R_X10_run_0 {d : Nat} {S : AS} {F : AF} {G : AG} {Q : AQ} {a1 : Int} (hsm : ShM S) (h : V_X10_run_0 d S F G Q a1) : Go d MX10_run 0 [some (vR 53), some (vI a1), none, none, none] [] S F G Q := by
  unfold V_X10_run_0 at h
  refine go_aload_n (show decode cX10_run 0 = .ok (.aload_n 0, 1) by decide +kernel) (by rfl) ?_
  refine go_iconst (show decode cX10_run 1 = .ok (.iconst 0, 1) by decide +kernel) (by decide) ?_
  refine go_putI (show decode cX10_run 2 = .ok (.putfield 1, 3) by decide +kernel) fl_X10_1 rfl (Or.inl rfl) (shm_k hsm 53 (by decide) (by decide)) ?_
  obtain ⟨F1, F1e⟩ : ∃ F1 : AF, F1 = fu F 53 0 0 := ⟨_, rfl⟩
  have h := h F1 F1e
  rw [← F1e]
  refine go_iload_n (show decode cX10_run 5 = .ok (.iload_n 1, 1) by decide +kernel) (by rfl) ?_
  refine go_i2l (show decode cX10_run 6 = .ok (.i2l, 1) by decide +kernel) ?_
  refine go_lconst (n := 0) (show decode cX10_run 7 = .ok (.lconst 0, 1) by decide +kernel) ?_
  show Go d MX10_run 8 [some (vR 53), some (vI a1), none, none, none] [vJ 0, vJ a1] S F1 G Q
  refine go_aload_n (show decode cX10_run 8 = .ok (.aload_n 0, 1) by decide +kernel) (by rfl) ?_
  refine go_getI (show decode cX10_run 9 = .ok (.getfield 313, 3) by decide +kernel) fl_X10_313 (Or.inl rfl) (shm_k hsm 53 (by decide) (by decide)) ?_
  refine go_i2l (show decode cX10_run 12 = .ok (.i2l, 1) by decide +kernel) ?_
  obtain ⟨q2, h⟩ := h
  obtain ⟨z7, p8, h⟩ := h
  refine go_callS (d2 := d - 1) (M2 := MX10_isIn) (n := 3) (av := [vJ a1, vJ 0, vJ (F1 53 34)]) (st := []) (show decode cX10_run 13 = .ok (.invokestatic 116, 3) by decide +kernel) ml_X10_116 mt_X10_isIn mst_X10_isIn rfl (Nat.le_of_ble_eq_true rfl) (by omega) (ok_mono p8 (fun w3 S4 F5 G6 e9 => ?_))
  obtain ⟨e1, e2, e3, e4⟩ := e9
  subst e1
  replace e2 := e2.symm; subst e2
  replace e3 := e3.symm; subst e3
  replace e4 := e4.symm; subst e4
  show Go d MX10_run 16 [some (vR 53), some (vI a1), none, none, none] [vI z7] S F1 G Q
  obtain ⟨ht, hf⟩ := h
  refine go_ifne (tgt := 22) (show decode cX10_run 16 = .ok (.ifCond .ne 6, 3) by decide +kernel) (by decide) (fun hc => ?_) (fun hc => ?_)
  · have h := ht hc
    refine go_aload_n (show decode cX10_run 22 = .ok (.aload_n 0, 1) by decide +kernel) (by rfl) ?_
    refine go_iconst (show decode cX10_run 23 = .ok (.iconst 0, 1) by decide +kernel) (by decide) ?_
    refine go_putI (show decode cX10_run 24 = .ok (.putfield 313, 3) by decide +kernel) fl_X10_313 rfl (Or.inl rfl) (shm_k hsm 53 (by decide) (by decide)) ?_
    obtain ⟨F9, F9e⟩ : ∃ F9 : AF, F9 = fu F1 53 34 0 := ⟨_, rfl⟩
    have h := h F9 F9e
    rw [← F9e]
    refine go_aload_n (show decode cX10_run 27 = .ok (.aload_n 0, 1) by decide +kernel) (by rfl) ?_
    refine go_iload_n (show decode cX10_run 28 = .ok (.iload_n 1, 1) by decide +kernel) (by rfl) ?_
    refine go_putI (show decode cX10_run 29 = .ok (.putfield 319, 3) by decide +kernel) fl_X10_319 rfl (Or.inl rfl) (shm_k hsm 53 (by decide) (by decide)) ?_
    obtain ⟨F10, F10e⟩ : ∃ F10 : AF, F10 = fu F9 53 35 a1 := ⟨_, rfl⟩
    have h := h F10 F10e
    rw [← F10e]
    refine go_aload_n (show decode cX10_run 32 = .ok (.aload_n 0, 1) by decide +kernel) (by rfl) ?_
    refine go_iconst (show decode cX10_run 33 = .ok (.iconst 0, 1) by decide +kernel) (by decide) ?_
    refine go_putI (show decode cX10_run 34 = .ok (.putfield 316, 3) by decide +kernel) fl_X10_316 rfl (Or.inl rfl) (shm_k hsm 53 (by decide) (by decide)) ?_
    obtain ⟨F11, F11e⟩ : ∃ F11 : AF, F11 = fu F10 53 36 0 := ⟨_, rfl⟩
    have h := h F11 F11e
    rw [← F11e]
    refine go_aload_n (show decode cX10_run 37 = .ok (.aload_n 0, 1) by decide +kernel) (by rfl) ?_
    refine go_iconst (show decode cX10_run 38 = .ok (.iconst 0, 1) by decide +kernel) (by decide) ?_
    refine go_putI (show decode cX10_run 39 = .ok (.putfield 322, 3) by decide +kernel) fl_X10_322 rfl (Or.inl rfl) (shm_k hsm 53 (by decide) (by decide)) ?_
    obtain ⟨F12, F12e⟩ : ∃ F12 : AF, F12 = fu F11 53 37 0 := ⟨_, rfl⟩
    have h := h F12 F12e
    rw [← F12e]
    refine go_aload_n (show decode cX10_run 42 = .ok (.aload_n 0, 1) by decide +kernel) (by rfl) ?_
    refine go_iconst (show decode cX10_run 43 = .ok (.iconst (-1), 1) by decide +kernel) (by decide) ?_
    refine go_putI (show decode cX10_run 44 = .ok (.putfield 87, 3) by decide +kernel) fl_X10_87 rfl (Or.inl rfl) (shm_k hsm 53 (by decide) (by decide)) ?_
    obtain ⟨F13, F13e⟩ : ∃ F13 : AF, F13 = fu F12 53 38 (-1) := ⟨_, rfl⟩
    have h := h F13 F13e
    rw [← F13e]
    refine go_aload_n (show decode cX10_run 47 = .ok (.aload_n 0, 1) by decide +kernel) (by rfl) ?_
    refine go_iconst (show decode cX10_run 48 = .ok (.iconst 0, 1) by decide +kernel) (by decide) ?_
    refine go_putI (show decode cX10_run 49 = .ok (.putfield 390, 3) by decide +kernel) fl_X10_390 rfl (Or.inl rfl) (shm_k hsm 53 (by decide) (by decide)) ?_
    obtain ⟨F14, F14e⟩ : ∃ F14 : AF, F14 = fu F13 53 39 0 := ⟨_, rfl⟩
    have h := h F14 F14e
    rw [← F14e]
    refine go_aload_n (show decode cX10_run 52 = .ok (.aload_n 0, 1) by decide +kernel) (by rfl) ?_
    refine go_iconst (show decode cX10_run 53 = .ok (.iconst 0, 1) by decide +kernel) (by decide) ?_
    refine go_putI (show decode cX10_run 54 = .ok (.putfield 366, 3) by decide +kernel) fl_X10_366 rfl (Or.inl rfl) (shm_k hsm 53 (by decide) (by decide)) ?_
    obtain ⟨F15, F15e⟩ : ∃ F15 : AF, F15 = fu F14 53 41 0 := ⟨_, rfl⟩
    have h := h F15 F15e
    rw [← F15e]
    exact h
  · have h := hf hc
    refine go_bipush (show decode cX10_run 19 = .ok (.bipush (-3), 2) by decide +kernel) (by decide) ?_
    exact go_iret (show decode cX10_run 21 = .ok (.ireturn, 1) by decide +kernel) rfl h
def V_X10_isOver_0 (d : Nat) (S : AS) (F : AF) (G : AG) (Q : AQ)  : Prop :=
  (1 ≤ d) ∧
  Ok (d - 1) MX10_blanks [vR 53] S F G (fun w2 S3 F4 G5 =>
  S3 = S ∧
  w2 = none ∧
  ((¬ F4 53 37 = 0) →
    Q (some (vI 1)) S F4 G5) ∧
  ((F4 53 37 = 0) →
    ∃ z10 : Int, Pu (d - 1) MX10_peek [vR 53] S F4 G5 (some (vI z10)) ∧
    ((¬ z10 = -1) →
      Q (some (vI 0)) S F4 G5) ∧
    ((z10 = -1) →
      Q (some (vI 1)) S F4 G5)))
theorem R_X10_isOver_0 {d : Nat} {S : AS} {F : AF} {G : AG} {Q : AQ}  (hsm : ShM S) (h : V_X10_isOver_0 d S F G Q ) : Go d MX10_isOver 0 [some (vR 53)] [] S F G Q := by
  unfold V_X10_isOver_0 at h
  refine go_aload_n (show decode cX10_isOver 0 = .ok (.aload_n 0, 1) by decide +kernel) (by rfl) ?_
  obtain ⟨q1, h⟩ := h
  refine go_callV (d2 := d - 1) (M2 := MX10_blanks) (n := 0) (ci := 10) (av := []) (st := []) (show decode cX10_isOver 1 = .ok (.invokevirtual 329, 3) by decide +kernel) ml_X10_329 mt_X10_blanks min_X10_blanks mse_X10_blanks (by decide) (shm_k hsm 53 (by decide) (by decide)) rfl (Nat.le_of_ble_eq_true rfl) (by omega) (ok_mono h (fun w2 S3 F4 G5 h => ?_))
  obtain ⟨e8, h⟩ := h
  replace e8 := e8.symm; subst e8
  obtain ⟨e9, h⟩ := h
  subst e9
  show Go d MX10_isOver 4 [some (vR 53)] [] S F4 G5 Q
  refine go_aload_n (show decode cX10_isOver 4 = .ok (.aload_n 0, 1) by decide +kernel) (by rfl) ?_
  refine go_getI (show decode cX10_isOver 5 = .ok (.getfield 322, 3) by decide +kernel) fl_X10_322 (Or.inl rfl) (shm_k hsm 53 (by decide) (by decide)) ?_
  obtain ⟨ht, hf⟩ := h
  refine go_ifne (tgt := 19) (show decode cX10_isOver 8 = .ok (.ifCond .ne 11, 3) by decide +kernel) (by decide) (fun hc => ?_) (fun hc => ?_)
  · have h := ht hc
    refine go_iconst (show decode cX10_isOver 19 = .ok (.iconst 1, 1) by decide +kernel) (by decide) ?_
    refine go_goto (tgt := 24) (show decode cX10_isOver 20 = .ok (.goto 4, 3) by decide +kernel) (by decide) ?_
    exact go_zret (show decode cX10_isOver 24 = .ok (.ireturn, 1) by decide +kernel) rfl (by decide) h
  · have h := hf hc
    refine go_aload_n (show decode cX10_isOver 11 = .ok (.aload_n 0, 1) by decide +kernel) (by rfl) ?_
    obtain ⟨z10, p11, h⟩ := h
    refine go_callV (d2 := d - 1) (M2 := MX10_peek) (n := 0) (ci := 10) (av := []) (st := []) (show decode cX10_isOver 12 = .ok (.invokevirtual 325, 3) by decide +kernel) ml_X10_325 mt_X10_peek min_X10_peek mse_X10_peek (by decide) (shm_k hsm 53 (by decide) (by decide)) rfl (Nat.le_of_ble_eq_true rfl) (by omega) (ok_mono p11 (fun w6 S7 F8 G9 e9 => ?_))
    obtain ⟨e1, e2, e3, e4⟩ := e9
    subst e1
    replace e2 := e2.symm; subst e2
    replace e3 := e3.symm; subst e3
    replace e4 := e4.symm; subst e4
    show Go d MX10_isOver 15 [some (vR 53)] [vI z10] S F4 G5 Q
    refine go_iconst (show decode cX10_isOver 15 = .ok (.iconst (-1), 1) by decide +kernel) (by decide) ?_
    obtain ⟨ht, hf⟩ := h
    refine go_icmpne (tgt := 23) (show decode cX10_isOver 16 = .ok (.if_icmp .ne 7, 3) by decide +kernel) (by decide) (fun hc => ?_) (fun hc => ?_)
    · have h := ht hc
      refine go_iconst (show decode cX10_isOver 23 = .ok (.iconst 0, 1) by decide +kernel) (by decide) ?_
      exact go_zret (show decode cX10_isOver 24 = .ok (.ireturn, 1) by decide +kernel) rfl (by decide) h
    · have h := hf hc
      refine go_iconst (show decode cX10_isOver 19 = .ok (.iconst 1, 1) by decide +kernel) (by decide) ?_
      refine go_goto (tgt := 24) (show decode cX10_isOver 20 = .ok (.goto 4, 3) by decide +kernel) (by decide) ?_
      exact go_zret (show decode cX10_isOver 24 = .ok (.ireturn, 1) by decide +kernel) rfl (by decide) h
def V_X10_blanks_0 (d : Nat) (S : AS) (F : AF) (G : AG) (Q : AQ)  : Prop :=
  (1 ≤ d) ∧
  ∃ z6 : Int, Pu (d - 1) MX10_peek [vR 53] S F G (some (vI z6)) ∧
  ((¬ z6 = 32) →
    Q none S F G) ∧
  ((z6 = 32) →
    (r32 ((F 53 36) + 1)) ∧
    ∀ F9 : AF, F9 = fu F 53 36 ((F 53 36) + 1) →
    Go d MX10_blanks 0 [some (vR 53)] [] S F9 G Q)
theorem R_X10_blanks_0 {d : Nat} {S : AS} {F : AF} {G : AG} {Q : AQ}  (hsm : ShM S) (h : V_X10_blanks_0 d S F G Q ) : Go d MX10_blanks 0 [some (vR 53)] [] S F G Q := by
  unfold V_X10_blanks_0 at h
  refine go_aload_n (show decode cX10_blanks 0 = .ok (.aload_n 0, 1) by decide +kernel) (by rfl) ?_
  obtain ⟨q1, h⟩ := h
  obtain ⟨z6, p7, h⟩ := h
  refine go_callV (d2 := d - 1) (M2 := MX10_peek) (n := 0) (ci := 10) (av := []) (st := []) (show decode cX10_blanks 1 = .ok (.invokevirtual 325, 3) by decide +kernel) ml_X10_325 mt_X10_peek min_X10_peek mse_X10_peek (by decide) (shm_k hsm 53 (by decide) (by decide)) rfl (Nat.le_of_ble_eq_true rfl) (by omega) (ok_mono p7 (fun w2 S3 F4 G5 e9 => ?_))
  obtain ⟨e1, e2, e3, e4⟩ := e9
  subst e1
  replace e2 := e2.symm; subst e2
  replace e3 := e3.symm; subst e3
  replace e4 := e4.symm; subst e4
  show Go d MX10_blanks 4 [some (vR 53)] [vI z6] S F G Q
  refine go_bipush (show decode cX10_blanks 4 = .ok (.bipush 32, 2) by decide +kernel) (by decide) ?_
  obtain ⟨ht, hf⟩ := h
  refine go_icmpne (tgt := 22) (show decode cX10_blanks 6 = .ok (.if_icmp .ne 16, 3) by decide +kernel) (by decide) (fun hc => ?_) (fun hc => ?_)
  · have h := ht hc
    exact go_vret (show decode cX10_blanks 22 = .ok (.return_, 1) by decide +kernel) rfl h
  · have h := hf hc
    refine go_aload_n (show decode cX10_blanks 9 = .ok (.aload_n 0, 1) by decide +kernel) (by rfl) ?_
    refine go_dup (show decode cX10_blanks 10 = .ok (.dup, 1) by decide +kernel) ?_
    refine go_getI (show decode cX10_blanks 11 = .ok (.getfield 316, 3) by decide +kernel) fl_X10_316 (Or.inl rfl) (shm_k hsm 53 (by decide) (by decide)) ?_
    refine go_iconst (show decode cX10_blanks 14 = .ok (.iconst 1, 1) by decide +kernel) (by decide) ?_
    obtain ⟨q8, h⟩ := h
    refine go_iadd (show decode cX10_blanks 15 = .ok (.iadd, 1) by decide +kernel) q8 ?_
    refine go_putI (show decode cX10_blanks 16 = .ok (.putfield 316, 3) by decide +kernel) fl_X10_316 rfl (Or.inl rfl) (shm_k hsm 53 (by decide) (by decide)) ?_
    obtain ⟨F9, F9e⟩ : ∃ F9 : AF, F9 = fu F 53 36 ((F 53 36) + 1) := ⟨_, rfl⟩
    have h := h F9 F9e
    rw [← F9e]
    refine go_goto (tgt := 0) (show decode cX10_blanks 19 = .ok (.goto (-19), 3) by decide +kernel) (by decide) ?_
    exact h
def V_X10_peek_0 (d : Nat) (S : AS) (F : AF) (G : AG) (Q : AQ)  : Prop :=
  ((F 53 35 ≤ F 53 36) →
    Q (some (vI (-1))) S F G) ∧
  ((¬ F 53 35 ≤ F 53 36) →
    ((0 : Int) ≤ F 53 36) ∧
    ((F 53 36 : Int) < 500) ∧
    Q (some (vI (bAnd (G 72 (F 53 36)) 255))) S F G)
theorem R_X10_peek_0 {d : Nat} {S : AS} {F : AF} {G : AG} {Q : AQ}  (hsm : ShM S) (h : V_X10_peek_0 d S F G Q ) : Go d MX10_peek 0 [some (vR 53)] [] S F G Q := by
  unfold V_X10_peek_0 at h
  refine go_aload_n (show decode cX10_peek 0 = .ok (.aload_n 0, 1) by decide +kernel) (by rfl) ?_
  refine go_getI (show decode cX10_peek 1 = .ok (.getfield 316, 3) by decide +kernel) fl_X10_316 (Or.inl rfl) (shm_k hsm 53 (by decide) (by decide)) ?_
  refine go_aload_n (show decode cX10_peek 4 = .ok (.aload_n 0, 1) by decide +kernel) (by rfl) ?_
  refine go_getI (show decode cX10_peek 5 = .ok (.getfield 319, 3) by decide +kernel) fl_X10_319 (Or.inl rfl) (shm_k hsm 53 (by decide) (by decide)) ?_
  obtain ⟨ht, hf⟩ := h
  refine go_icmpge (tgt := 27) (show decode cX10_peek 8 = .ok (.if_icmp .ge 19, 3) by decide +kernel) (by decide) (fun hc => ?_) (fun hc => ?_)
  · have h := ht hc
    refine go_iconst (show decode cX10_peek 27 = .ok (.iconst (-1), 1) by decide +kernel) (by decide) ?_
    exact go_iret (show decode cX10_peek 28 = .ok (.ireturn, 1) by decide +kernel) rfl h
  · have h := hf hc
    refine go_aload_n (show decode cX10_peek 11 = .ok (.aload_n 0, 1) by decide +kernel) (by rfl) ?_
    refine go_getRc (show decode cX10_peek 12 = .ok (.getfield 83, 3) by decide +kernel) fl_X10_83 rfl (shm_k hsm 53 (by decide) (by decide)) (v := 72) (shm_r hsm 53 33 (by decide) (by decide)) ?_
    refine go_aload_n (show decode cX10_peek 15 = .ok (.aload_n 0, 1) by decide +kernel) (by rfl) ?_
    refine go_getI (show decode cX10_peek 16 = .ok (.getfield 316, 3) by decide +kernel) fl_X10_316 (Or.inl rfl) (shm_k hsm 53 (by decide) (by decide)) ?_
    obtain ⟨q1, h⟩ := h
    obtain ⟨q2, h⟩ := h
    refine go_baload (show decode cX10_peek 19 = .ok (.baload, 1) by decide +kernel) (shm_k hsm 72 (by decide) (by decide)) q1 (lt_n (m := 500) q2 (shm_n hsm 72 (by decide) (by decide))) ?_
    refine go_sipush (show decode cX10_peek 20 = .ok (.sipush 255, 3) by decide +kernel) (by decide) ?_
    refine go_iand (show decode cX10_peek 23 = .ok (.iand, 1) by decide +kernel) ?_
    refine go_goto (tgt := 28) (show decode cX10_peek 24 = .ok (.goto 4, 3) by decide +kernel) (by decide) ?_
    exact go_iret (show decode cX10_peek 28 = .ok (.ireturn, 1) by decide +kernel) rfl h
def V_X10_readAct_242 (d : Nat) (S : AS) (F : AF) (G : AG) (Q : AQ) (a1 : Int) (a2 : Int) (a3 : Int) : Prop :=
  (r32 ((F 53 36) + 1)) ∧
  ∀ F2 : AF, F2 = fu F 53 36 ((F 53 36) + 1) →
  (r32 ((F2 53 41) + 1)) ∧
  ∀ F4 : AF, F4 = fu F2 53 41 ((F2 53 41) + 1) →
  Q none S F4 G
theorem R_X10_readAct_242 {d : Nat} {S : AS} {F : AF} {G : AG} {Q : AQ} {a1 : Int} {a2 : Int} {a3 : Int} (hsm : ShM S) (h : V_X10_readAct_242 d S F G Q a1 a2 a3) : Go d MX10_readAct 242 [some (vR 53), some (vI a1), some (vI a2), some (vI a3), none, none] [] S F G Q := by
  unfold V_X10_readAct_242 at h
  refine go_aload_n (show decode cX10_readAct 242 = .ok (.aload_n 0, 1) by decide +kernel) (by rfl) ?_
  refine go_dup (show decode cX10_readAct 243 = .ok (.dup, 1) by decide +kernel) ?_
  refine go_getI (show decode cX10_readAct 244 = .ok (.getfield 316, 3) by decide +kernel) fl_X10_316 (Or.inl rfl) (shm_k hsm 53 (by decide) (by decide)) ?_
  refine go_iconst (show decode cX10_readAct 247 = .ok (.iconst 1, 1) by decide +kernel) (by decide) ?_
  obtain ⟨q1, h⟩ := h
  refine go_iadd (show decode cX10_readAct 248 = .ok (.iadd, 1) by decide +kernel) q1 ?_
  refine go_putI (show decode cX10_readAct 249 = .ok (.putfield 316, 3) by decide +kernel) fl_X10_316 rfl (Or.inl rfl) (shm_k hsm 53 (by decide) (by decide)) ?_
  obtain ⟨F2, F2e⟩ : ∃ F2 : AF, F2 = fu F 53 36 ((F 53 36) + 1) := ⟨_, rfl⟩
  have h := h F2 F2e
  rw [← F2e]
  refine go_aload_n (show decode cX10_readAct 252 = .ok (.aload_n 0, 1) by decide +kernel) (by rfl) ?_
  refine go_dup (show decode cX10_readAct 253 = .ok (.dup, 1) by decide +kernel) ?_
  refine go_getI (show decode cX10_readAct 254 = .ok (.getfield 366, 3) by decide +kernel) fl_X10_366 (Or.inl rfl) (shm_k hsm 53 (by decide) (by decide)) ?_
  refine go_iconst (show decode cX10_readAct 257 = .ok (.iconst 1, 1) by decide +kernel) (by decide) ?_
  obtain ⟨q3, h⟩ := h
  refine go_iadd (show decode cX10_readAct 258 = .ok (.iadd, 1) by decide +kernel) q3 ?_
  refine go_putI (show decode cX10_readAct 259 = .ok (.putfield 366, 3) by decide +kernel) fl_X10_366 rfl (Or.inl rfl) (shm_k hsm 53 (by decide) (by decide)) ?_
  obtain ⟨F4, F4e⟩ : ∃ F4 : AF, F4 = fu F2 53 41 ((F2 53 41) + 1) := ⟨_, rfl⟩
  have h := h F4 F4e
  rw [← F4e]
  exact go_vret (show decode cX10_readAct 262 = .ok (.return_, 1) by decide +kernel) rfl h
def V_X10_readAct_213 (d : Nat) (S : AS) (F : AF) (G : AG) (Q : AQ) (a1 : Int) (a2 : Int) (a3 : Int) : Prop :=
  (1 ≤ d) ∧
  Ok (d - 1) MX10_blanks [vR 53] S F G (fun w2 S3 F4 G5 =>
  S3 = S ∧
  w2 = none ∧
  ((¬ F4 53 37 = 0) →
    V_X10_readAct_242 d S F4 G5 Q a1 a2 a3) ∧
  ((F4 53 37 = 0) →
    ∃ z10 : Int, Pu (d - 1) MX10_peek [vR 53] S F4 G5 (some (vI z10)) ∧
    ((z10 = 59) →
      V_X10_readAct_242 d S F4 G5 Q a1 a2 a3) ∧
    ((¬ z10 = 59) →
      Ok (d - 1) MX10_fails [vR 53, vI 1, vI (F4 53 36)] S F4 G5 (fun w12 S13 F14 G15 =>
      S13 = S ∧
      w12 = none ∧
      V_X10_readAct_242 d S F14 G15 Q a1 a2 a3))))
theorem R_X10_readAct_213 {d : Nat} {S : AS} {F : AF} {G : AG} {Q : AQ} {a1 : Int} {a2 : Int} {a3 : Int} (hsm : ShM S) (h : V_X10_readAct_213 d S F G Q a1 a2 a3) : Go d MX10_readAct 213 [some (vR 53), some (vI a1), some (vI a2), some (vI a3), none, none] [] S F G Q := by
  unfold V_X10_readAct_213 at h
  refine go_aload_n (show decode cX10_readAct 213 = .ok (.aload_n 0, 1) by decide +kernel) (by rfl) ?_
  obtain ⟨q1, h⟩ := h
  refine go_callV (d2 := d - 1) (M2 := MX10_blanks) (n := 0) (ci := 10) (av := []) (st := []) (show decode cX10_readAct 214 = .ok (.invokevirtual 329, 3) by decide +kernel) ml_X10_329 mt_X10_blanks min_X10_blanks mse_X10_blanks (by decide) (shm_k hsm 53 (by decide) (by decide)) rfl (Nat.le_of_ble_eq_true rfl) (by omega) (ok_mono h (fun w2 S3 F4 G5 h => ?_))
  obtain ⟨e8, h⟩ := h
  replace e8 := e8.symm; subst e8
  obtain ⟨e9, h⟩ := h
  subst e9
  show Go d MX10_readAct 217 [some (vR 53), some (vI a1), some (vI a2), some (vI a3), none, none] [] S F4 G5 Q
  refine go_aload_n (show decode cX10_readAct 217 = .ok (.aload_n 0, 1) by decide +kernel) (by rfl) ?_
  refine go_getI (show decode cX10_readAct 218 = .ok (.getfield 322, 3) by decide +kernel) fl_X10_322 (Or.inl rfl) (shm_k hsm 53 (by decide) (by decide)) ?_
  obtain ⟨ht, hf⟩ := h
  refine go_ifne (tgt := 242) (show decode cX10_readAct 221 = .ok (.ifCond .ne 21, 3) by decide +kernel) (by decide) (fun hc => ?_) (fun hc => ?_)
  · have h := ht hc
    exact R_X10_readAct_242 hsm h
  · have h := hf hc
    refine go_aload_n (show decode cX10_readAct 224 = .ok (.aload_n 0, 1) by decide +kernel) (by rfl) ?_
    obtain ⟨z10, p11, h⟩ := h
    refine go_callV (d2 := d - 1) (M2 := MX10_peek) (n := 0) (ci := 10) (av := []) (st := []) (show decode cX10_readAct 225 = .ok (.invokevirtual 325, 3) by decide +kernel) ml_X10_325 mt_X10_peek min_X10_peek mse_X10_peek (by decide) (shm_k hsm 53 (by decide) (by decide)) rfl (Nat.le_of_ble_eq_true rfl) (by omega) (ok_mono p11 (fun w6 S7 F8 G9 e9 => ?_))
    obtain ⟨e1, e2, e3, e4⟩ := e9
    subst e1
    replace e2 := e2.symm; subst e2
    replace e3 := e3.symm; subst e3
    replace e4 := e4.symm; subst e4
    show Go d MX10_readAct 228 [some (vR 53), some (vI a1), some (vI a2), some (vI a3), none, none] [vI z10] S F4 G5 Q
    refine go_bipush (show decode cX10_readAct 228 = .ok (.bipush 59, 2) by decide +kernel) (by decide) ?_
    obtain ⟨ht, hf⟩ := h
    refine go_icmpeq (tgt := 242) (show decode cX10_readAct 230 = .ok (.if_icmp .eq 12, 3) by decide +kernel) (by decide) (fun hc => ?_) (fun hc => ?_)
    · have h := ht hc
      exact R_X10_readAct_242 hsm h
    · have h := hf hc
      refine go_aload_n (show decode cX10_readAct 233 = .ok (.aload_n 0, 1) by decide +kernel) (by rfl) ?_
      refine go_iconst (show decode cX10_readAct 234 = .ok (.iconst 1, 1) by decide +kernel) (by decide) ?_
      refine go_aload_n (show decode cX10_readAct 235 = .ok (.aload_n 0, 1) by decide +kernel) (by rfl) ?_
      refine go_getI (show decode cX10_readAct 236 = .ok (.getfield 316, 3) by decide +kernel) fl_X10_316 (Or.inl rfl) (shm_k hsm 53 (by decide) (by decide)) ?_
      refine go_callV (d2 := d - 1) (M2 := MX10_fails) (n := 2) (ci := 10) (av := [vI 1, vI (F4 53 36)]) (st := []) (show decode cX10_readAct 239 = .ok (.invokevirtual 360, 3) by decide +kernel) ml_X10_360 mt_X10_fails min_X10_fails mse_X10_fails (by decide) (shm_k hsm 53 (by decide) (by decide)) rfl (Nat.le_of_ble_eq_true rfl) (by omega) (ok_mono h (fun w12 S13 F14 G15 h => ?_))
      obtain ⟨e8, h⟩ := h
      replace e8 := e8.symm; subst e8
      obtain ⟨e9, h⟩ := h
      subst e9
      show Go d MX10_readAct 242 [some (vR 53), some (vI a1), some (vI a2), some (vI a3), none, none] [] S F14 G15 Q
      exact R_X10_readAct_242 hsm h
def V_X10_readAct_212 (d : Nat) (S : AS) (F : AF) (G : AG) (Q : AQ) (a1 : Int) (a2 : Int) (a3 : Int) (a4 : Int) (s0 : Int) (s1 : Int) (s2 : Nat) : Prop :=
  ((0 : Int) ≤ s1) ∧
  ((s1 : Int) < (sN S s2 : Int)) ∧
  ∀ G3 : AG, G3 = gu G s2 s1 s0 →
  V_X10_readAct_213 d S F G3 Q a1 a2 a3
theorem R_X10_readAct_212 {d : Nat} {S : AS} {F : AF} {G : AG} {Q : AQ} {a1 : Int} {a2 : Int} {a3 : Int} {a4 : Int} {s0 : Int} {s1 : Int} {s2 : Nat} (hsm : ShM S) (hs2 : AtJ S s2) (h : V_X10_readAct_212 d S F G Q a1 a2 a3 a4 s0 s1 s2) : Go d MX10_readAct 212 [some (vR 53), some (vI a1), some (vI a2), some (vI a3), some (vJ a4), none] [vJ s0, vI s1, vR s2] S F G Q := by
  unfold V_X10_readAct_212 at h
  obtain ⟨q1, h⟩ := h
  obtain ⟨q2, h⟩ := h
  refine go_lastore (show decode cX10_readAct 212 = .ok (.lastore, 1) by decide +kernel) hs2 q1 q2  ?_
  obtain ⟨G3, G3e⟩ : ∃ G3 : AG, G3 = gu G s2 s1 s0 := ⟨_, rfl⟩
  have h := h G3 G3e
  rw [← G3e]
  refine go_clr 4 ?_
  exact R_X10_readAct_213 hsm h
def V_X10_readAct_187 (d : Nat) (S : AS) (F : AF) (G : AG) (Q : AQ) (a1 : Int) (a2 : Int) (a3 : Int) (s0 : Int) (s1 : Int) : Prop :=
  (1 ≤ d) ∧
  Ok (d - 1) MX10_numeral [vR 53, vJ s1, vJ s0] S F G (fun w2 S3 F4 G5 =>
  S3 = S ∧
  ∃ z6 : Int, w2 = some (vJ z6) ∧
  (r32 (a2 + 6)) ∧
  ((a3 = 0) →
    V_X10_readAct_212 d S F4 G5 Q a1 a2 a3 z6 z6 (a2 + 6) 73) ∧
  ((¬ a3 = 0) →
    (r64 (-z6)) ∧
    V_X10_readAct_212 d S F4 G5 Q a1 a2 a3 z6 (-z6) (a2 + 6) 73))
theorem R_X10_readAct_187 {d : Nat} {S : AS} {F : AF} {G : AG} {Q : AQ} {a1 : Int} {a2 : Int} {a3 : Int} {s0 : Int} {s1 : Int} (hsm : ShM S) (h : V_X10_readAct_187 d S F G Q a1 a2 a3 s0 s1) : Go d MX10_readAct 187 [some (vR 53), some (vI a1), some (vI a2), some (vI a3), none, none] [vJ s0, vJ s1, vR 53] S F G Q := by
  unfold V_X10_readAct_187 at h
  obtain ⟨q1, h⟩ := h
  refine go_callV (d2 := d - 1) (M2 := MX10_numeral) (n := 2) (ci := 10) (av := [vJ s1, vJ s0]) (st := []) (show decode cX10_readAct 187 = .ok (.invokevirtual 369, 3) by decide +kernel) ml_X10_369 mt_X10_numeral min_X10_numeral mse_X10_numeral (by decide) (shm_k hsm 53 (by decide) (by decide)) rfl (Nat.le_of_ble_eq_true rfl) (by omega) (ok_mono h (fun w2 S3 F4 G5 h => ?_))
  obtain ⟨e8, h⟩ := h
  replace e8 := e8.symm; subst e8
  obtain ⟨z6, e9, h⟩ := h
  subst e9
  show Go d MX10_readAct 190 [some (vR 53), some (vI a1), some (vI a2), some (vI a3), none, none] [vJ z6] S F4 G5 Q
  refine go_lstore (show decode cX10_readAct 190 = .ok (.lstore 4, 2) by decide +kernel) (by decide) ?_
  show Go d MX10_readAct 192 [some (vR 53), some (vI a1), some (vI a2), some (vI a3), some (vJ z6), none] [] S F4 G5 Q
  refine go_aload_n (show decode cX10_readAct 192 = .ok (.aload_n 0, 1) by decide +kernel) (by rfl) ?_
  refine go_getRc (show decode cX10_readAct 193 = .ok (.getfield 90, 3) by decide +kernel) fl_X10_90 rfl (shm_k hsm 53 (by decide) (by decide)) (v := 73) (shm_r hsm 53 40 (by decide) (by decide)) ?_
  refine go_iload_n (show decode cX10_readAct 196 = .ok (.iload_n 2, 1) by decide +kernel) (by rfl) ?_
  refine go_bipush (show decode cX10_readAct 197 = .ok (.bipush 6, 2) by decide +kernel) (by decide) ?_
  obtain ⟨q7, h⟩ := h
  refine go_iadd (show decode cX10_readAct 199 = .ok (.iadd, 1) by decide +kernel) q7 ?_
  refine go_iload_n (show decode cX10_readAct 200 = .ok (.iload_n 3, 1) by decide +kernel) (by rfl) ?_
  obtain ⟨ht, hf⟩ := h
  refine go_ifeq (tgt := 210) (show decode cX10_readAct 201 = .ok (.ifCond .eq 9, 3) by decide +kernel) (by decide) (fun hc => ?_) (fun hc => ?_)
  · have h := ht hc
    refine go_lload (show decode cX10_readAct 210 = .ok (.lload 4, 2) by decide +kernel) (by rfl) ?_
    exact R_X10_readAct_212 hsm (at_73 hsm) h
  · have h := hf hc
    refine go_lload (show decode cX10_readAct 204 = .ok (.lload 4, 2) by decide +kernel) (by rfl) ?_
    obtain ⟨q8, h⟩ := h
    refine go_lneg (show decode cX10_readAct 206 = .ok (.lneg, 1) by decide +kernel) q8 ?_
    refine go_goto (tgt := 212) (show decode cX10_readAct 207 = .ok (.goto 5, 3) by decide +kernel) (by decide) ?_
    exact R_X10_readAct_212 hsm (at_73 hsm) h
def V_X10_readAct_167 (d : Nat) (S : AS) (F : AF) (G : AG) (Q : AQ) (a1 : Int) (a2 : Int) (a3 : Int) : Prop :=
  ((2 ≤ a1) →
    V_X10_readAct_213 d S F G Q a1 a2 a3) ∧
  ((¬ 2 ≤ a1) →
    ((¬ a1 = 0) →
      V_X10_readAct_187 d S F G Q a1 a2 a3 3000000000000000000 1) ∧
    ((a1 = 0) →
      V_X10_readAct_187 d S F G Q a1 a2 a3 1000000000 1))
theorem R_X10_readAct_167 {d : Nat} {S : AS} {F : AF} {G : AG} {Q : AQ} {a1 : Int} {a2 : Int} {a3 : Int} (hsm : ShM S) (h : V_X10_readAct_167 d S F G Q a1 a2 a3) : Go d MX10_readAct 167 [some (vR 53), some (vI a1), some (vI a2), some (vI a3), none, none] [] S F G Q := by
  unfold V_X10_readAct_167 at h
  refine go_iload_n (show decode cX10_readAct 167 = .ok (.iload_n 1, 1) by decide +kernel) (by rfl) ?_
  refine go_iconst (show decode cX10_readAct 168 = .ok (.iconst 2, 1) by decide +kernel) (by decide) ?_
  obtain ⟨ht, hf⟩ := h
  refine go_icmpge (tgt := 213) (show decode cX10_readAct 169 = .ok (.if_icmp .ge 44, 3) by decide +kernel) (by decide) (fun hc => ?_) (fun hc => ?_)
  · have h := ht hc
    exact R_X10_readAct_213 hsm h
  · have h := hf hc
    refine go_aload_n (show decode cX10_readAct 172 = .ok (.aload_n 0, 1) by decide +kernel) (by rfl) ?_
    refine go_lconst (n := 1) (show decode cX10_readAct 173 = .ok (.lconst 1, 1) by decide +kernel) ?_
    show Go d MX10_readAct 174 [some (vR 53), some (vI a1), some (vI a2), some (vI a3), none, none] [vJ 1, vR 53] S F G Q
    refine go_iload_n (show decode cX10_readAct 174 = .ok (.iload_n 1, 1) by decide +kernel) (by rfl) ?_
    obtain ⟨ht, hf⟩ := h
    refine go_ifne (tgt := 184) (show decode cX10_readAct 175 = .ok (.ifCond .ne 9, 3) by decide +kernel) (by decide) (fun hc => ?_) (fun hc => ?_)
    · have h := ht hc
      refine go_ldc2 (show decode cX10_readAct 184 = .ok (.ldc2_w 198, 3) by decide +kernel) lc_X10_198 (by decide) ?_
      exact R_X10_readAct_187 hsm h
    · have h := hf hc
      refine go_ldc2 (show decode cX10_readAct 178 = .ok (.ldc2_w 178, 3) by decide +kernel) lc_X10_178 (by decide) ?_
      refine go_goto (tgt := 187) (show decode cX10_readAct 181 = .ok (.goto 6, 3) by decide +kernel) (by decide) ?_
      exact R_X10_readAct_187 hsm h
def V_X10_readAct_152 (d : Nat) (S : AS) (F : AF) (G : AG) (Q : AQ) (a1 : Int) (a2 : Int) (a3 : Int) (s0 : Int) : Prop :=
  ((s0 = 0) →
    V_X10_readAct_167 d S F G Q a1 a2 s0) ∧
  ((¬ s0 = 0) →
    (r32 ((F 53 36) + 1)) ∧
    ∀ F2 : AF, F2 = fu F 53 36 ((F 53 36) + 1) →
    V_X10_readAct_167 d S F2 G Q a1 a2 s0)
theorem R_X10_readAct_152 {d : Nat} {S : AS} {F : AF} {G : AG} {Q : AQ} {a1 : Int} {a2 : Int} {a3 : Int} {s0 : Int} (hsm : ShM S) (h : V_X10_readAct_152 d S F G Q a1 a2 a3 s0) : Go d MX10_readAct 152 [some (vR 53), some (vI a1), some (vI a2), some (vI a3), none, none] [vI s0] S F G Q := by
  unfold V_X10_readAct_152 at h
  refine go_istore_n (show decode cX10_readAct 152 = .ok (.istore_n 3, 1) by decide +kernel) (by decide) ?_
  show Go d MX10_readAct 153 [some (vR 53), some (vI a1), some (vI a2), some (vI s0), none, none] [] S F G Q
  refine go_iload_n (show decode cX10_readAct 153 = .ok (.iload_n 3, 1) by decide +kernel) (by rfl) ?_
  obtain ⟨ht, hf⟩ := h
  refine go_ifeq (tgt := 167) (show decode cX10_readAct 154 = .ok (.ifCond .eq 13, 3) by decide +kernel) (by decide) (fun hc => ?_) (fun hc => ?_)
  · have h := ht hc
    exact R_X10_readAct_167 hsm h
  · have h := hf hc
    refine go_aload_n (show decode cX10_readAct 157 = .ok (.aload_n 0, 1) by decide +kernel) (by rfl) ?_
    refine go_dup (show decode cX10_readAct 158 = .ok (.dup, 1) by decide +kernel) ?_
    refine go_getI (show decode cX10_readAct 159 = .ok (.getfield 316, 3) by decide +kernel) fl_X10_316 (Or.inl rfl) (shm_k hsm 53 (by decide) (by decide)) ?_
    refine go_iconst (show decode cX10_readAct 162 = .ok (.iconst 1, 1) by decide +kernel) (by decide) ?_
    obtain ⟨q1, h⟩ := h
    refine go_iadd (show decode cX10_readAct 163 = .ok (.iadd, 1) by decide +kernel) q1 ?_
    refine go_putI (show decode cX10_readAct 164 = .ok (.putfield 316, 3) by decide +kernel) fl_X10_316 rfl (Or.inl rfl) (shm_k hsm 53 (by decide) (by decide)) ?_
    obtain ⟨F2, F2e⟩ : ∃ F2 : AF, F2 = fu F 53 36 ((F 53 36) + 1) := ⟨_, rfl⟩
    have h := h F2 F2e
    rw [← F2e]
    exact R_X10_readAct_167 hsm h
def V_X10_readAct_151 (d : Nat) (S : AS) (F : AF) (G : AG) (Q : AQ) (a1 : Int) (a2 : Int) (a3 : Int) : Prop :=
  V_X10_readAct_152 d S F G Q a1 a2 a3 0
theorem R_X10_readAct_151 {d : Nat} {S : AS} {F : AF} {G : AG} {Q : AQ} {a1 : Int} {a2 : Int} {a3 : Int} (hsm : ShM S) (h : V_X10_readAct_151 d S F G Q a1 a2 a3) : Go d MX10_readAct 151 [some (vR 53), some (vI a1), some (vI a2), some (vI a3), none, none] [] S F G Q := by
  unfold V_X10_readAct_151 at h
  refine go_iconst (show decode cX10_readAct 151 = .ok (.iconst 0, 1) by decide +kernel) (by decide) ?_
  exact R_X10_readAct_152 hsm h
def V_X10_readAct_123 (d : Nat) (S : AS) (F : AF) (G : AG) (Q : AQ) (a1 : Int) (a2 : Int) (a3 : Int) : Prop :=
  (1 ≤ d) ∧
  Ok (d - 1) MX10_blanks [vR 53] S F G (fun w2 S3 F4 G5 =>
  S3 = S ∧
  w2 = none ∧
  ((¬ a1 = 0) →
    V_X10_readAct_151 d S F4 G5 Q a1 a2 a3) ∧
  ((a1 = 0) →
    ((¬ F4 53 37 = 0) →
      V_X10_readAct_151 d S F4 G5 Q a1 a2 a3) ∧
    ((F4 53 37 = 0) →
      ∃ z10 : Int, Pu (d - 1) MX10_peek [vR 53] S F4 G5 (some (vI z10)) ∧
      ((¬ z10 = 45) →
        V_X10_readAct_151 d S F4 G5 Q a1 a2 a3) ∧
      ((z10 = 45) →
        V_X10_readAct_152 d S F4 G5 Q a1 a2 a3 1))))
theorem R_X10_readAct_123 {d : Nat} {S : AS} {F : AF} {G : AG} {Q : AQ} {a1 : Int} {a2 : Int} {a3 : Int} (hsm : ShM S) (h : V_X10_readAct_123 d S F G Q a1 a2 a3) : Go d MX10_readAct 123 [some (vR 53), some (vI a1), some (vI a2), some (vI a3), none, none] [] S F G Q := by
  unfold V_X10_readAct_123 at h
  refine go_aload_n (show decode cX10_readAct 123 = .ok (.aload_n 0, 1) by decide +kernel) (by rfl) ?_
  obtain ⟨q1, h⟩ := h
  refine go_callV (d2 := d - 1) (M2 := MX10_blanks) (n := 0) (ci := 10) (av := []) (st := []) (show decode cX10_readAct 124 = .ok (.invokevirtual 329, 3) by decide +kernel) ml_X10_329 mt_X10_blanks min_X10_blanks mse_X10_blanks (by decide) (shm_k hsm 53 (by decide) (by decide)) rfl (Nat.le_of_ble_eq_true rfl) (by omega) (ok_mono h (fun w2 S3 F4 G5 h => ?_))
  obtain ⟨e8, h⟩ := h
  replace e8 := e8.symm; subst e8
  obtain ⟨e9, h⟩ := h
  subst e9
  show Go d MX10_readAct 127 [some (vR 53), some (vI a1), some (vI a2), some (vI a3), none, none] [] S F4 G5 Q
  refine go_iload_n (show decode cX10_readAct 127 = .ok (.iload_n 1, 1) by decide +kernel) (by rfl) ?_
  obtain ⟨ht, hf⟩ := h
  refine go_ifne (tgt := 151) (show decode cX10_readAct 128 = .ok (.ifCond .ne 23, 3) by decide +kernel) (by decide) (fun hc => ?_) (fun hc => ?_)
  · have h := ht hc
    exact R_X10_readAct_151 hsm h
  · have h := hf hc
    refine go_aload_n (show decode cX10_readAct 131 = .ok (.aload_n 0, 1) by decide +kernel) (by rfl) ?_
    refine go_getI (show decode cX10_readAct 132 = .ok (.getfield 322, 3) by decide +kernel) fl_X10_322 (Or.inl rfl) (shm_k hsm 53 (by decide) (by decide)) ?_
    obtain ⟨ht, hf⟩ := h
    refine go_ifne (tgt := 151) (show decode cX10_readAct 135 = .ok (.ifCond .ne 16, 3) by decide +kernel) (by decide) (fun hc => ?_) (fun hc => ?_)
    · have h := ht hc
      exact R_X10_readAct_151 hsm h
    · have h := hf hc
      refine go_aload_n (show decode cX10_readAct 138 = .ok (.aload_n 0, 1) by decide +kernel) (by rfl) ?_
      obtain ⟨z10, p11, h⟩ := h
      refine go_callV (d2 := d - 1) (M2 := MX10_peek) (n := 0) (ci := 10) (av := []) (st := []) (show decode cX10_readAct 139 = .ok (.invokevirtual 325, 3) by decide +kernel) ml_X10_325 mt_X10_peek min_X10_peek mse_X10_peek (by decide) (shm_k hsm 53 (by decide) (by decide)) rfl (Nat.le_of_ble_eq_true rfl) (by omega) (ok_mono p11 (fun w6 S7 F8 G9 e9 => ?_))
      obtain ⟨e1, e2, e3, e4⟩ := e9
      subst e1
      replace e2 := e2.symm; subst e2
      replace e3 := e3.symm; subst e3
      replace e4 := e4.symm; subst e4
      show Go d MX10_readAct 142 [some (vR 53), some (vI a1), some (vI a2), some (vI a3), none, none] [vI z10] S F4 G5 Q
      refine go_bipush (show decode cX10_readAct 142 = .ok (.bipush 45, 2) by decide +kernel) (by decide) ?_
      obtain ⟨ht, hf⟩ := h
      refine go_icmpne (tgt := 151) (show decode cX10_readAct 144 = .ok (.if_icmp .ne 7, 3) by decide +kernel) (by decide) (fun hc => ?_) (fun hc => ?_)
      · have h := ht hc
        exact R_X10_readAct_151 hsm h
      · have h := hf hc
        refine go_iconst (show decode cX10_readAct 147 = .ok (.iconst 1, 1) by decide +kernel) (by decide) ?_
        refine go_goto (tgt := 152) (show decode cX10_readAct 148 = .ok (.goto 4, 3) by decide +kernel) (by decide) ?_
        exact R_X10_readAct_152 hsm h
def V_X10_readAct_113 (d : Nat) (S : AS) (F : AF) (G : AG) (Q : AQ) (a1 : Int) (a2 : Int) (a3 : Int) (s0 : Int) (s1 : Int) (s3 : Int) (s4 : Nat) : Prop :=
  (1 ≤ d) ∧
  Ok (d - 1) MX10_numeral [vR 53, vJ s1, vJ s0] S F G (fun w2 S3 F4 G5 =>
  S3 = S ∧
  ∃ z6 : Int, w2 = some (vJ z6) ∧
  ((0 : Int) ≤ s3) ∧
  ((s3 : Int) < (sN S s4 : Int)) ∧
  ∀ G9 : AG, G9 = gu G5 s4 s3 z6 →
  (r32 (a3 + 1)) ∧
  Go d MX10_readAct 79 [some (vR 53), some (vI a1), some (vI a2), some (vI (a3 + 1)), none, none] [] S F4 G9 Q)
theorem R_X10_readAct_113 {d : Nat} {S : AS} {F : AF} {G : AG} {Q : AQ} {a1 : Int} {a2 : Int} {a3 : Int} {s0 : Int} {s1 : Int} {s3 : Int} {s4 : Nat} (hsm : ShM S) (hs4 : AtJ S s4) (h : V_X10_readAct_113 d S F G Q a1 a2 a3 s0 s1 s3 s4) : Go d MX10_readAct 113 [some (vR 53), some (vI a1), some (vI a2), some (vI a3), none, none] [vJ s0, vJ s1, vR 53, vI s3, vR s4] S F G Q := by
  unfold V_X10_readAct_113 at h
  obtain ⟨q1, h⟩ := h
  refine go_callV (d2 := d - 1) (M2 := MX10_numeral) (n := 2) (ci := 10) (av := [vJ s1, vJ s0]) (st := [vI s3, vR s4]) (show decode cX10_readAct 113 = .ok (.invokevirtual 369, 3) by decide +kernel) ml_X10_369 mt_X10_numeral min_X10_numeral mse_X10_numeral (by decide) (shm_k hsm 53 (by decide) (by decide)) rfl (Nat.le_of_ble_eq_true rfl) (by omega) (ok_mono h (fun w2 S3 F4 G5 h => ?_))
  obtain ⟨e8, h⟩ := h
  replace e8 := e8.symm; subst e8
  obtain ⟨z6, e9, h⟩ := h
  subst e9
  show Go d MX10_readAct 116 [some (vR 53), some (vI a1), some (vI a2), some (vI a3), none, none] [vJ z6, vI s3, vR s4] S F4 G5 Q
  obtain ⟨q7, h⟩ := h
  obtain ⟨q8, h⟩ := h
  refine go_lastore (show decode cX10_readAct 116 = .ok (.lastore, 1) by decide +kernel) hs4 q7 q8  ?_
  obtain ⟨G9, G9e⟩ : ∃ G9 : AG, G9 = gu G5 s4 s3 z6 := ⟨_, rfl⟩
  have h := h G9 G9e
  rw [← G9e]
  obtain ⟨q10, h⟩ := h
  refine go_iinc (show decode cX10_readAct 117 = .ok (.iinc 3 1, 3) by decide +kernel) (by rfl) q10 (by decide) ?_
  show Go d MX10_readAct 120 [some (vR 53), some (vI a1), some (vI a2), some (vI (a3 + 1)), none, none] [] S F4 G9 Q
  refine go_goto (tgt := 79) (show decode cX10_readAct 120 = .ok (.goto (-41), 3) by decide +kernel) (by decide) ?_
  exact h
def V_X10_readAct_79 (d : Nat) (S : AS) (F : AF) (G : AG) (Q : AQ) (a1 : Int) (a2 : Int) (a3 : Int) : Prop :=
  ((5 ≤ a3) →
    V_X10_readAct_123 d S F G Q a1 a2 a3) ∧
  ((¬ 5 ≤ a3) →
    ((2 ≤ a1) →
      V_X10_readAct_123 d S F G Q a1 a2 a3) ∧
    ((¬ 2 ≤ a1) →
      (r32 (a2 + 1)) ∧
      (r32 ((a2 + 1) + a3)) ∧
      ((¬ a3 = 0) →
        V_X10_readAct_113 d S F G Q a1 a2 a3 9999 0 ((a2 + 1) + a3) 73) ∧
      ((a3 = 0) →
        V_X10_readAct_113 d S F G Q a1 a2 a3 2 0 ((a2 + 1) + a3) 73)))
theorem R_X10_readAct_79 {d : Nat} {S : AS} {F : AF} {G : AG} {Q : AQ} {a1 : Int} {a2 : Int} {a3 : Int} (hsm : ShM S) (h : V_X10_readAct_79 d S F G Q a1 a2 a3) : Go d MX10_readAct 79 [some (vR 53), some (vI a1), some (vI a2), some (vI a3), none, none] [] S F G Q := by
  unfold V_X10_readAct_79 at h
  refine go_iload_n (show decode cX10_readAct 79 = .ok (.iload_n 3, 1) by decide +kernel) (by rfl) ?_
  refine go_iconst (show decode cX10_readAct 80 = .ok (.iconst 5, 1) by decide +kernel) (by decide) ?_
  obtain ⟨ht, hf⟩ := h
  refine go_icmpge (tgt := 123) (show decode cX10_readAct 81 = .ok (.if_icmp .ge 42, 3) by decide +kernel) (by decide) (fun hc => ?_) (fun hc => ?_)
  · have h := ht hc
    exact R_X10_readAct_123 hsm h
  · have h := hf hc
    refine go_iload_n (show decode cX10_readAct 84 = .ok (.iload_n 1, 1) by decide +kernel) (by rfl) ?_
    refine go_iconst (show decode cX10_readAct 85 = .ok (.iconst 2, 1) by decide +kernel) (by decide) ?_
    obtain ⟨ht, hf⟩ := h
    refine go_icmpge (tgt := 123) (show decode cX10_readAct 86 = .ok (.if_icmp .ge 37, 3) by decide +kernel) (by decide) (fun hc => ?_) (fun hc => ?_)
    · have h := ht hc
      exact R_X10_readAct_123 hsm h
    · have h := hf hc
      refine go_aload_n (show decode cX10_readAct 89 = .ok (.aload_n 0, 1) by decide +kernel) (by rfl) ?_
      refine go_getRc (show decode cX10_readAct 90 = .ok (.getfield 90, 3) by decide +kernel) fl_X10_90 rfl (shm_k hsm 53 (by decide) (by decide)) (v := 73) (shm_r hsm 53 40 (by decide) (by decide)) ?_
      refine go_iload_n (show decode cX10_readAct 93 = .ok (.iload_n 2, 1) by decide +kernel) (by rfl) ?_
      refine go_iconst (show decode cX10_readAct 94 = .ok (.iconst 1, 1) by decide +kernel) (by decide) ?_
      obtain ⟨q1, h⟩ := h
      refine go_iadd (show decode cX10_readAct 95 = .ok (.iadd, 1) by decide +kernel) q1 ?_
      refine go_iload_n (show decode cX10_readAct 96 = .ok (.iload_n 3, 1) by decide +kernel) (by rfl) ?_
      obtain ⟨q2, h⟩ := h
      refine go_iadd (show decode cX10_readAct 97 = .ok (.iadd, 1) by decide +kernel) q2 ?_
      refine go_aload_n (show decode cX10_readAct 98 = .ok (.aload_n 0, 1) by decide +kernel) (by rfl) ?_
      refine go_lconst (n := 0) (show decode cX10_readAct 99 = .ok (.lconst 0, 1) by decide +kernel) ?_
      show Go d MX10_readAct 100 [some (vR 53), some (vI a1), some (vI a2), some (vI a3), none, none] [vJ 0, vR 53, vI ((a2 + 1) + a3), vR 73] S F G Q
      refine go_iload_n (show decode cX10_readAct 100 = .ok (.iload_n 3, 1) by decide +kernel) (by rfl) ?_
      obtain ⟨ht, hf⟩ := h
      refine go_ifne (tgt := 110) (show decode cX10_readAct 101 = .ok (.ifCond .ne 9, 3) by decide +kernel) (by decide) (fun hc => ?_) (fun hc => ?_)
      · have h := ht hc
        refine go_ldc2 (show decode cX10_readAct 110 = .ok (.ldc2_w 277, 3) by decide +kernel) lc_X10_277 (by decide) ?_
        exact R_X10_readAct_113 hsm (at_73 hsm) h
      · have h := hf hc
        refine go_ldc2 (show decode cX10_readAct 104 = .ok (.ldc2_w 157, 3) by decide +kernel) lc_X10_157 (by decide) ?_
        refine go_goto (tgt := 113) (show decode cX10_readAct 107 = .ok (.goto 6, 3) by decide +kernel) (by decide) ?_
        exact R_X10_readAct_113 hsm (at_73 hsm) h
def V_X10_readAct_40 (d : Nat) (S : AS) (F : AF) (G : AG) (Q : AQ) (a1 : Int) : Prop :=
  ((F 53 37 = 0) →
    (1 ≤ d) ∧
    Ok (d - 1) MX10_lettersHere [vR 53] S F G (fun w2 S3 F4 G5 =>
    S3 = S ∧
    ∃ z6 : Int, w2 = some (vI z6) ∧
    (r32 ((F 53 36) + z6)) ∧
    ∀ F8 : AF, F8 = fu F4 53 36 ((F 53 36) + z6) →
    (r32 (7 * (F8 53 41))) ∧
    ∀ x10 : Int, x10 = 7 * (F8 53 41) →
    ((0 : Int) ≤ x10) ∧
    ((x10 : Int) < 210) ∧
    ∀ G13 : AG, G13 = gu G5 73 x10 a1 →
    Go d MX10_readAct 79 [some (vR 53), some (vI a1), some (vI x10), some (vI 0), none, none] [] S F8 G13 Q)) ∧
  ((¬ F 53 37 = 0) →
    Q none S F G)
theorem R_X10_readAct_40 {d : Nat} {S : AS} {F : AF} {G : AG} {Q : AQ} {a1 : Int} (hsm : ShM S) (h : V_X10_readAct_40 d S F G Q a1) : Go d MX10_readAct 40 [some (vR 53), some (vI a1), none, none, none, none] [] S F G Q := by
  unfold V_X10_readAct_40 at h
  refine go_aload_n (show decode cX10_readAct 40 = .ok (.aload_n 0, 1) by decide +kernel) (by rfl) ?_
  refine go_getI (show decode cX10_readAct 41 = .ok (.getfield 322, 3) by decide +kernel) fl_X10_322 (Or.inl rfl) (shm_k hsm 53 (by decide) (by decide)) ?_
  obtain ⟨ht, hf⟩ := h
  refine go_ifeq (tgt := 48) (show decode cX10_readAct 44 = .ok (.ifCond .eq 4, 3) by decide +kernel) (by decide) (fun hc => ?_) (fun hc => ?_)
  · have h := ht hc
    refine go_aload_n (show decode cX10_readAct 48 = .ok (.aload_n 0, 1) by decide +kernel) (by rfl) ?_
    refine go_dup (show decode cX10_readAct 49 = .ok (.dup, 1) by decide +kernel) ?_
    refine go_getI (show decode cX10_readAct 50 = .ok (.getfield 316, 3) by decide +kernel) fl_X10_316 (Or.inl rfl) (shm_k hsm 53 (by decide) (by decide)) ?_
    refine go_aload_n (show decode cX10_readAct 53 = .ok (.aload_n 0, 1) by decide +kernel) (by rfl) ?_
    obtain ⟨q1, h⟩ := h
    refine go_callV (d2 := d - 1) (M2 := MX10_lettersHere) (n := 0) (ci := 10) (av := []) (st := [vI (F 53 36), vR 53]) (show decode cX10_readAct 54 = .ok (.invokevirtual 336, 3) by decide +kernel) ml_X10_336 mt_X10_lettersHere min_X10_lettersHere mse_X10_lettersHere (by decide) (shm_k hsm 53 (by decide) (by decide)) rfl (Nat.le_of_ble_eq_true rfl) (by omega) (ok_mono h (fun w2 S3 F4 G5 h => ?_))
    obtain ⟨e8, h⟩ := h
    replace e8 := e8.symm; subst e8
    obtain ⟨z6, e9, h⟩ := h
    subst e9
    show Go d MX10_readAct 57 [some (vR 53), some (vI a1), none, none, none, none] [vI z6, vI (F 53 36), vR 53] S F4 G5 Q
    obtain ⟨q7, h⟩ := h
    refine go_iadd (show decode cX10_readAct 57 = .ok (.iadd, 1) by decide +kernel) q7 ?_
    refine go_putI (show decode cX10_readAct 58 = .ok (.putfield 316, 3) by decide +kernel) fl_X10_316 rfl (Or.inl rfl) (shm_k hsm 53 (by decide) (by decide)) ?_
    obtain ⟨F8, F8e⟩ : ∃ F8 : AF, F8 = fu F4 53 36 ((F 53 36) + z6) := ⟨_, rfl⟩
    have h := h F8 F8e
    rw [← F8e]
    refine go_bipush (show decode cX10_readAct 61 = .ok (.bipush 7, 2) by decide +kernel) (by decide) ?_
    refine go_aload_n (show decode cX10_readAct 63 = .ok (.aload_n 0, 1) by decide +kernel) (by rfl) ?_
    refine go_getI (show decode cX10_readAct 64 = .ok (.getfield 366, 3) by decide +kernel) fl_X10_366 (Or.inl rfl) (shm_k hsm 53 (by decide) (by decide)) ?_
    obtain ⟨q9, h⟩ := h
    refine go_imul (show decode cX10_readAct 67 = .ok (.imul, 1) by decide +kernel) q9 ?_
    obtain ⟨x10, x10e⟩ : ∃ x10 : Int, x10 = 7 * (F8 53 41) := ⟨_, rfl⟩
    have h := h x10 x10e
    rw [← x10e]
    refine go_istore_n (show decode cX10_readAct 68 = .ok (.istore_n 2, 1) by decide +kernel) (by decide) ?_
    show Go d MX10_readAct 69 [some (vR 53), some (vI a1), some (vI x10), none, none, none] [] S F8 G5 Q
    refine go_aload_n (show decode cX10_readAct 69 = .ok (.aload_n 0, 1) by decide +kernel) (by rfl) ?_
    refine go_getRc (show decode cX10_readAct 70 = .ok (.getfield 90, 3) by decide +kernel) fl_X10_90 rfl (shm_k hsm 53 (by decide) (by decide)) (v := 73) (shm_r hsm 53 40 (by decide) (by decide)) ?_
    refine go_iload_n (show decode cX10_readAct 73 = .ok (.iload_n 2, 1) by decide +kernel) (by rfl) ?_
    refine go_iload_n (show decode cX10_readAct 74 = .ok (.iload_n 1, 1) by decide +kernel) (by rfl) ?_
    refine go_i2l (show decode cX10_readAct 75 = .ok (.i2l, 1) by decide +kernel) ?_
    obtain ⟨q11, h⟩ := h
    obtain ⟨q12, h⟩ := h
    refine go_lastore (show decode cX10_readAct 76 = .ok (.lastore, 1) by decide +kernel) (shm_k hsm 73 (by decide) (by decide)) q11 (lt_n (m := 210) q12 (shm_n hsm 73 (by decide) (by decide)))  ?_
    obtain ⟨G13, G13e⟩ : ∃ G13 : AG, G13 = gu G5 73 x10 a1 := ⟨_, rfl⟩
    have h := h G13 G13e
    rw [← G13e]
    refine go_iconst (show decode cX10_readAct 77 = .ok (.iconst 0, 1) by decide +kernel) (by decide) ?_
    refine go_istore_n (show decode cX10_readAct 78 = .ok (.istore_n 3, 1) by decide +kernel) (by decide) ?_
    show Go d MX10_readAct 79 [some (vR 53), some (vI a1), some (vI x10), some (vI 0), none, none] [] S F8 G13 Q
    exact h
  · have h := hf hc
    exact go_vret (show decode cX10_readAct 47 = .ok (.return_, 1) by decide +kernel) rfl h
def V_X10_readAct_0 (d : Nat) (S : AS) (F : AF) (G : AG) (Q : AQ)  : Prop :=
  (1 ≤ d) ∧
  Ok (d - 1) MX10_wordNext [vR 53] S F G (fun w2 S3 F4 G5 =>
  S3 = S ∧
  ∃ z6 : Int, w2 = some (vI z6) ∧
  ((¬ z6 = -1) →
    ((¬ F4 53 41 = 30) →
      V_X10_readAct_40 d S F4 G5 Q z6) ∧
    ((F4 53 41 = 30) →
      Ok (d - 1) MX10_fails [vR 53, vI 3, vI (F4 53 36)] S F4 G5 (fun w7 S8 F9 G10 =>
      S8 = S ∧
      w7 = none ∧
      V_X10_readAct_40 d S F9 G10 Q z6))) ∧
  ((z6 = -1) →
    Ok (d - 1) MX10_fails [vR 53, vI 1, vI (F4 53 36)] S F4 G5 (fun w11 S12 F13 G14 =>
    S12 = S ∧
    w11 = none ∧
    V_X10_readAct_40 d S F13 G14 Q z6)))
theorem R_X10_readAct_0 {d : Nat} {S : AS} {F : AF} {G : AG} {Q : AQ}  (hsm : ShM S) (h : V_X10_readAct_0 d S F G Q ) : Go d MX10_readAct 0 [some (vR 53), none, none, none, none, none] [] S F G Q := by
  unfold V_X10_readAct_0 at h
  refine go_aload_n (show decode cX10_readAct 0 = .ok (.aload_n 0, 1) by decide +kernel) (by rfl) ?_
  obtain ⟨q1, h⟩ := h
  refine go_callV (d2 := d - 1) (M2 := MX10_wordNext) (n := 0) (ci := 10) (av := []) (st := []) (show decode cX10_readAct 1 = .ok (.invokevirtual 363, 3) by decide +kernel) ml_X10_363 mt_X10_wordNext min_X10_wordNext mse_X10_wordNext (by decide) (shm_k hsm 53 (by decide) (by decide)) rfl (Nat.le_of_ble_eq_true rfl) (by omega) (ok_mono h (fun w2 S3 F4 G5 h => ?_))
  obtain ⟨e8, h⟩ := h
  replace e8 := e8.symm; subst e8
  obtain ⟨z6, e9, h⟩ := h
  subst e9
  show Go d MX10_readAct 4 [some (vR 53), none, none, none, none, none] [vI z6] S F4 G5 Q
  refine go_istore_n (show decode cX10_readAct 4 = .ok (.istore_n 1, 1) by decide +kernel) (by decide) ?_
  show Go d MX10_readAct 5 [some (vR 53), some (vI z6), none, none, none, none] [] S F4 G5 Q
  refine go_iload_n (show decode cX10_readAct 5 = .ok (.iload_n 1, 1) by decide +kernel) (by rfl) ?_
  refine go_iconst (show decode cX10_readAct 6 = .ok (.iconst (-1), 1) by decide +kernel) (by decide) ?_
  obtain ⟨ht, hf⟩ := h
  refine go_icmpne (tgt := 22) (show decode cX10_readAct 7 = .ok (.if_icmp .ne 15, 3) by decide +kernel) (by decide) (fun hc => ?_) (fun hc => ?_)
  · have h := ht hc
    refine go_aload_n (show decode cX10_readAct 22 = .ok (.aload_n 0, 1) by decide +kernel) (by rfl) ?_
    refine go_getI (show decode cX10_readAct 23 = .ok (.getfield 366, 3) by decide +kernel) fl_X10_366 (Or.inl rfl) (shm_k hsm 53 (by decide) (by decide)) ?_
    refine go_bipush (show decode cX10_readAct 26 = .ok (.bipush 30, 2) by decide +kernel) (by decide) ?_
    obtain ⟨ht, hf⟩ := h
    refine go_icmpne (tgt := 40) (show decode cX10_readAct 28 = .ok (.if_icmp .ne 12, 3) by decide +kernel) (by decide) (fun hc => ?_) (fun hc => ?_)
    · have h := ht hc
      exact R_X10_readAct_40 hsm h
    · have h := hf hc
      refine go_aload_n (show decode cX10_readAct 31 = .ok (.aload_n 0, 1) by decide +kernel) (by rfl) ?_
      refine go_iconst (show decode cX10_readAct 32 = .ok (.iconst 3, 1) by decide +kernel) (by decide) ?_
      refine go_aload_n (show decode cX10_readAct 33 = .ok (.aload_n 0, 1) by decide +kernel) (by rfl) ?_
      refine go_getI (show decode cX10_readAct 34 = .ok (.getfield 316, 3) by decide +kernel) fl_X10_316 (Or.inl rfl) (shm_k hsm 53 (by decide) (by decide)) ?_
      refine go_callV (d2 := d - 1) (M2 := MX10_fails) (n := 2) (ci := 10) (av := [vI 3, vI (F4 53 36)]) (st := []) (show decode cX10_readAct 37 = .ok (.invokevirtual 360, 3) by decide +kernel) ml_X10_360 mt_X10_fails min_X10_fails mse_X10_fails (by decide) (shm_k hsm 53 (by decide) (by decide)) rfl (Nat.le_of_ble_eq_true rfl) (by omega) (ok_mono h (fun w7 S8 F9 G10 h => ?_))
      obtain ⟨e8, h⟩ := h
      replace e8 := e8.symm; subst e8
      obtain ⟨e9, h⟩ := h
      subst e9
      show Go d MX10_readAct 40 [some (vR 53), some (vI z6), none, none, none, none] [] S F9 G10 Q
      exact R_X10_readAct_40 hsm h
  · have h := hf hc
    refine go_aload_n (show decode cX10_readAct 10 = .ok (.aload_n 0, 1) by decide +kernel) (by rfl) ?_
    refine go_iconst (show decode cX10_readAct 11 = .ok (.iconst 1, 1) by decide +kernel) (by decide) ?_
    refine go_aload_n (show decode cX10_readAct 12 = .ok (.aload_n 0, 1) by decide +kernel) (by rfl) ?_
    refine go_getI (show decode cX10_readAct 13 = .ok (.getfield 316, 3) by decide +kernel) fl_X10_316 (Or.inl rfl) (shm_k hsm 53 (by decide) (by decide)) ?_
    refine go_callV (d2 := d - 1) (M2 := MX10_fails) (n := 2) (ci := 10) (av := [vI 1, vI (F4 53 36)]) (st := []) (show decode cX10_readAct 16 = .ok (.invokevirtual 360, 3) by decide +kernel) ml_X10_360 mt_X10_fails min_X10_fails mse_X10_fails (by decide) (shm_k hsm 53 (by decide) (by decide)) rfl (Nat.le_of_ble_eq_true rfl) (by omega) (ok_mono h (fun w11 S12 F13 G14 h => ?_))
    obtain ⟨e8, h⟩ := h
    replace e8 := e8.symm; subst e8
    obtain ⟨e9, h⟩ := h
    subst e9
    show Go d MX10_readAct 19 [some (vR 53), some (vI z6), none, none, none, none] [] S F13 G14 Q
    refine go_goto (tgt := 40) (show decode cX10_readAct 19 = .ok (.goto 21, 3) by decide +kernel) (by decide) ?_
    exact R_X10_readAct_40 hsm h
