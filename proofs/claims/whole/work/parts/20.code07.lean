def V_X10_move_715 (d : Nat) (S : AS) (F : AF) (G : AG) (Q : AQ) (a1 : Int) (a2 : Int) (a3 : Int) (a4 : Int) (a5 : Int) (a6 : Int) (a7 : Int) (a8 : Int) (a10 : Int) (a11 : Int) (a12 : Int) (a13 : Int) : Prop :=
  (r32 (a11 + 1)) ∧
  Go d MX10_move 589 [some (vR 53), some (vI a1), some (vI a2), some (vI a3), some (vI a4), some (vI a5), some (vI a6), some (vI a7), some (vJ a8), none, some (vI a10), some (vI (a11 + 1)), none, none] [] S F G Q
theorem R_X10_move_715 {d : Nat} {S : AS} {F : AF} {G : AG} {Q : AQ} {a1 : Int} {a2 : Int} {a3 : Int} {a4 : Int} {a5 : Int} {a6 : Int} {a7 : Int} {a8 : Int} {a10 : Int} {a11 : Int} {a12 : Int} {a13 : Int} (hsm : ShM S) (h : V_X10_move_715 d S F G Q a1 a2 a3 a4 a5 a6 a7 a8 a10 a11 a12 a13) : Go d MX10_move 715 [some (vR 53), some (vI a1), some (vI a2), some (vI a3), some (vI a4), some (vI a5), some (vI a6), some (vI a7), some (vJ a8), none, some (vI a10), some (vI a11), some (vI a12), some (vI a13)] [] S F G Q := by
  unfold V_X10_move_715 at h
  obtain ⟨q1, h⟩ := h
  refine go_iinc (show decode cX10_move 715 = .ok (.iinc 11 1, 3) by decide +kernel) (by rfl) q1 (by decide) ?_
  show Go d MX10_move 718 [some (vR 53), some (vI a1), some (vI a2), some (vI a3), some (vI a4), some (vI a5), some (vI a6), some (vI a7), some (vJ a8), none, some (vI a10), some (vI (a11 + 1)), some (vI a12), some (vI a13)] [] S F G Q
  refine go_goto (tgt := 589) (show decode cX10_move 718 = .ok (.goto (-129), 3) by decide +kernel) (by decide) ?_
  refine go_clr 12 ?_
  refine go_clr 13 ?_
  exact h
def V_X10_move_648 (d : Nat) (S : AS) (F : AF) (G : AG) (Q : AQ) (a1 : Int) (a2 : Int) (a3 : Int) (a4 : Int) (a5 : Int) (a6 : Int) (a7 : Int) (a8 : Int) (a10 : Int) (a11 : Int) (a12 : Int) (a13 : Int) : Prop :=
  (r32 (a12 - a6)) ∧
  (r32 (a13 - a7)) ∧
  (1 ≤ d) ∧
  ∃ z8 : Int, Pu (d - 1) MX10_isInside [vI (a12 - a6), vI (a13 - a7), vI a2, vI a3, vI a4, vI a5] S F G (some (vI z8)) ∧
  ((z8 = 0) →
    V_X10_move_715 d S F G Q a1 a2 a3 a4 a5 a6 a7 a8 a10 a11 a12 a13) ∧
  ((¬ z8 = 0) →
    ∃ z14 : Int, Pu (d - 1) MX10_slot [vI a1, vI a10, vI a11] S F G (some (vI z14)) ∧
    ((0 : Int) ≤ z14) ∧
    ((z14 : Int) < 6912) ∧
    ∃ z22 : Int, Pu (d - 1) MX10_blockAt [vR 53, vI 1, vI (a13 - a7)] S F G (some (vI z22)) ∧
    (r32 (48 * z22)) ∧
    ∃ z29 : Int, Pu (d - 1) MX10_blockAt [vR 53, vI 0, vI (a12 - a6)] S F G (some (vI z29)) ∧
    (r32 ((48 * z22) + z29)) ∧
    ((0 : Int) ≤ (48 * z22) + z29) ∧
    (((48 * z22) + z29 : Int) < 2304) ∧
    (r64 ((G 57 z14) + (G 70 ((48 * z22) + z29)))) ∧
    ∀ G35 : AG, G35 = gu G 57 z14 ((G 57 z14) + (G 70 ((48 * z22) + z29))) →
    V_X10_move_715 d S F G35 Q a1 a2 a3 a4 a5 a6 a7 a8 a10 a11 a12 a13)
theorem R_X10_move_648 {d : Nat} {S : AS} {F : AF} {G : AG} {Q : AQ} {a1 : Int} {a2 : Int} {a3 : Int} {a4 : Int} {a5 : Int} {a6 : Int} {a7 : Int} {a8 : Int} {a10 : Int} {a11 : Int} {a12 : Int} {a13 : Int} (hsm : ShM S) (h : V_X10_move_648 d S F G Q a1 a2 a3 a4 a5 a6 a7 a8 a10 a11 a12 a13) : Go d MX10_move 648 [some (vR 53), some (vI a1), some (vI a2), some (vI a3), some (vI a4), some (vI a5), some (vI a6), some (vI a7), some (vJ a8), none, some (vI a10), some (vI a11), some (vI a12), some (vI a13)] [] S F G Q := by
  unfold V_X10_move_648 at h
  refine go_iload (show decode cX10_move 648 = .ok (.iload 12, 2) by decide +kernel) (by rfl) ?_
  refine go_iload (show decode cX10_move 650 = .ok (.iload 6, 2) by decide +kernel) (by rfl) ?_
  obtain ⟨q1, h⟩ := h
  refine go_isub (show decode cX10_move 652 = .ok (.isub, 1) by decide +kernel) q1 ?_
  refine go_iload (show decode cX10_move 653 = .ok (.iload 13, 2) by decide +kernel) (by rfl) ?_
  refine go_iload (show decode cX10_move 655 = .ok (.iload 7, 2) by decide +kernel) (by rfl) ?_
  obtain ⟨q2, h⟩ := h
  refine go_isub (show decode cX10_move 657 = .ok (.isub, 1) by decide +kernel) q2 ?_
  refine go_iload_n (show decode cX10_move 658 = .ok (.iload_n 2, 1) by decide +kernel) (by rfl) ?_
  refine go_iload_n (show decode cX10_move 659 = .ok (.iload_n 3, 1) by decide +kernel) (by rfl) ?_
  refine go_iload (show decode cX10_move 660 = .ok (.iload 4, 2) by decide +kernel) (by rfl) ?_
  refine go_iload (show decode cX10_move 662 = .ok (.iload 5, 2) by decide +kernel) (by rfl) ?_
  obtain ⟨q3, h⟩ := h
  obtain ⟨z8, p9, h⟩ := h
  refine go_callS (d2 := d - 1) (M2 := MX10_isInside) (n := 6) (av := [vI (a12 - a6), vI (a13 - a7), vI a2, vI a3, vI a4, vI a5]) (st := []) (show decode cX10_move 664 = .ok (.invokestatic 289, 3) by decide +kernel) ml_X10_289 mt_X10_isInside mst_X10_isInside rfl (Nat.le_of_ble_eq_true rfl) (by omega) (ok_mono p9 (fun w4 S5 F6 G7 e9 => ?_))
  obtain ⟨e1, e2, e3, e4⟩ := e9
  subst e1
  replace e2 := e2.symm; subst e2
  replace e3 := e3.symm; subst e3
  replace e4 := e4.symm; subst e4
  show Go d MX10_move 667 [some (vR 53), some (vI a1), some (vI a2), some (vI a3), some (vI a4), some (vI a5), some (vI a6), some (vI a7), some (vJ a8), none, some (vI a10), some (vI a11), some (vI a12), some (vI a13)] [vI z8] S F G Q
  obtain ⟨ht, hf⟩ := h
  refine go_ifeq (tgt := 715) (show decode cX10_move 667 = .ok (.ifCond .eq 48, 3) by decide +kernel) (by decide) (fun hc => ?_) (fun hc => ?_)
  · have h := ht hc
    exact R_X10_move_715 hsm h
  · have h := hf hc
    refine go_aload_n (show decode cX10_move 670 = .ok (.aload_n 0, 1) by decide +kernel) (by rfl) ?_
    refine go_getRc (show decode cX10_move 671 = .ok (.getfield 35, 3) by decide +kernel) fl_X10_35 rfl (shm_k hsm 53 (by decide) (by decide)) (v := 57) (shm_r hsm 53 7 (by decide) (by decide)) ?_
    refine go_iload_n (show decode cX10_move 674 = .ok (.iload_n 1, 1) by decide +kernel) (by rfl) ?_
    refine go_iload (show decode cX10_move 675 = .ok (.iload 10, 2) by decide +kernel) (by rfl) ?_
    refine go_iload (show decode cX10_move 677 = .ok (.iload 11, 2) by decide +kernel) (by rfl) ?_
    obtain ⟨z14, p15, h⟩ := h
    refine go_callS (d2 := d - 1) (M2 := MX10_slot) (n := 3) (av := [vI a1, vI a10, vI a11]) (st := [vR 57]) (show decode cX10_move 679 = .ok (.invokestatic 130, 3) by decide +kernel) ml_X10_130 mt_X10_slot mst_X10_slot rfl (Nat.le_of_ble_eq_true rfl) (by omega) (ok_mono p15 (fun w10 S11 F12 G13 e9 => ?_))
    obtain ⟨e1, e2, e3, e4⟩ := e9
    subst e1
    replace e2 := e2.symm; subst e2
    replace e3 := e3.symm; subst e3
    replace e4 := e4.symm; subst e4
    show Go d MX10_move 682 [some (vR 53), some (vI a1), some (vI a2), some (vI a3), some (vI a4), some (vI a5), some (vI a6), some (vI a7), some (vJ a8), none, some (vI a10), some (vI a11), some (vI a12), some (vI a13)] [vI z14, vR 57] S F G Q
    refine go_dup2 (show decode cX10_move 682 = .ok (.dup2, 1) by decide +kernel) ?_
    obtain ⟨q16, h⟩ := h
    obtain ⟨q17, h⟩ := h
    refine go_laload (show decode cX10_move 683 = .ok (.laload, 1) by decide +kernel) (shm_k hsm 57 (by decide) (by decide)) q16 (lt_n (m := 6912) q17 (shm_n hsm 57 (by decide) (by decide))) ?_
    refine go_aload_n (show decode cX10_move 684 = .ok (.aload_n 0, 1) by decide +kernel) (by rfl) ?_
    refine go_getRc (show decode cX10_move 685 = .ok (.getfield 77, 3) by decide +kernel) fl_X10_77 rfl (shm_k hsm 53 (by decide) (by decide)) (v := 70) (shm_r hsm 53 30 (by decide) (by decide)) ?_
    refine go_bipush (show decode cX10_move 688 = .ok (.bipush 48, 2) by decide +kernel) (by decide) ?_
    refine go_aload_n (show decode cX10_move 690 = .ok (.aload_n 0, 1) by decide +kernel) (by rfl) ?_
    refine go_iconst (show decode cX10_move 691 = .ok (.iconst 1, 1) by decide +kernel) (by decide) ?_
    refine go_iload (show decode cX10_move 692 = .ok (.iload 13, 2) by decide +kernel) (by rfl) ?_
    refine go_iload (show decode cX10_move 694 = .ok (.iload 7, 2) by decide +kernel) (by rfl) ?_
    refine go_isub (show decode cX10_move 696 = .ok (.isub, 1) by decide +kernel) q2 ?_
    obtain ⟨z22, p23, h⟩ := h
    refine go_callV (d2 := d - 1) (M2 := MX10_blockAt) (n := 2) (ci := 10) (av := [vI 1, vI (a13 - a7)]) (st := [vI 48, vR 70, vJ (G 57 z14), vI z14, vR 57]) (show decode cX10_move 697 = .ok (.invokevirtual 265, 3) by decide +kernel) ml_X10_265 mt_X10_blockAt min_X10_blockAt mse_X10_blockAt (by decide) (shm_k hsm 53 (by decide) (by decide)) rfl (Nat.le_of_ble_eq_true rfl) (by omega) (ok_mono p23 (fun w18 S19 F20 G21 e9 => ?_))
    obtain ⟨e1, e2, e3, e4⟩ := e9
    subst e1
    replace e2 := e2.symm; subst e2
    replace e3 := e3.symm; subst e3
    replace e4 := e4.symm; subst e4
    show Go d MX10_move 700 [some (vR 53), some (vI a1), some (vI a2), some (vI a3), some (vI a4), some (vI a5), some (vI a6), some (vI a7), some (vJ a8), none, some (vI a10), some (vI a11), some (vI a12), some (vI a13)] [vI z22, vI 48, vR 70, vJ (G 57 z14), vI z14, vR 57] S F G Q
    obtain ⟨q24, h⟩ := h
    refine go_imul (show decode cX10_move 700 = .ok (.imul, 1) by decide +kernel) q24 ?_
    refine go_aload_n (show decode cX10_move 701 = .ok (.aload_n 0, 1) by decide +kernel) (by rfl) ?_
    refine go_iconst (show decode cX10_move 702 = .ok (.iconst 0, 1) by decide +kernel) (by decide) ?_
    refine go_iload (show decode cX10_move 703 = .ok (.iload 12, 2) by decide +kernel) (by rfl) ?_
    refine go_iload (show decode cX10_move 705 = .ok (.iload 6, 2) by decide +kernel) (by rfl) ?_
    refine go_isub (show decode cX10_move 707 = .ok (.isub, 1) by decide +kernel) q1 ?_
    obtain ⟨z29, p30, h⟩ := h
    refine go_callV (d2 := d - 1) (M2 := MX10_blockAt) (n := 2) (ci := 10) (av := [vI 0, vI (a12 - a6)]) (st := [vI (48 * z22), vR 70, vJ (G 57 z14), vI z14, vR 57]) (show decode cX10_move 708 = .ok (.invokevirtual 265, 3) by decide +kernel) ml_X10_265 mt_X10_blockAt min_X10_blockAt mse_X10_blockAt (by decide) (shm_k hsm 53 (by decide) (by decide)) rfl (Nat.le_of_ble_eq_true rfl) (by omega) (ok_mono p30 (fun w25 S26 F27 G28 e9 => ?_))
    obtain ⟨e1, e2, e3, e4⟩ := e9
    subst e1
    replace e2 := e2.symm; subst e2
    replace e3 := e3.symm; subst e3
    replace e4 := e4.symm; subst e4
    show Go d MX10_move 711 [some (vR 53), some (vI a1), some (vI a2), some (vI a3), some (vI a4), some (vI a5), some (vI a6), some (vI a7), some (vJ a8), none, some (vI a10), some (vI a11), some (vI a12), some (vI a13)] [vI z29, vI (48 * z22), vR 70, vJ (G 57 z14), vI z14, vR 57] S F G Q
    obtain ⟨q31, h⟩ := h
    refine go_iadd (show decode cX10_move 711 = .ok (.iadd, 1) by decide +kernel) q31 ?_
    obtain ⟨q32, h⟩ := h
    obtain ⟨q33, h⟩ := h
    refine go_laload (show decode cX10_move 712 = .ok (.laload, 1) by decide +kernel) (shm_k hsm 70 (by decide) (by decide)) q32 (lt_n (m := 2304) q33 (shm_n hsm 70 (by decide) (by decide))) ?_
    obtain ⟨q34, h⟩ := h
    refine go_ladd (show decode cX10_move 713 = .ok (.ladd, 1) by decide +kernel) q34 ?_
    refine go_lastore (show decode cX10_move 714 = .ok (.lastore, 1) by decide +kernel) (shm_k hsm 57 (by decide) (by decide)) q16 (lt_n (m := 6912) q17 (shm_n hsm 57 (by decide) (by decide)))  ?_
    obtain ⟨G35, G35e⟩ : ∃ G35 : AG, G35 = gu G 57 z14 ((G 57 z14) + (G 70 ((48 * z22) + z29))) := ⟨_, rfl⟩
    have h := h G35 G35e
    rw [← G35e]
    exact R_X10_move_715 hsm h
def V_X10_move_589 (d : Nat) (S : AS) (F : AF) (G : AG) (Q : AQ) (a1 : Int) (a2 : Int) (a3 : Int) (a4 : Int) (a5 : Int) (a6 : Int) (a7 : Int) (a8 : Int) (a10 : Int) (a11 : Int) : Prop :=
  ((G 55 1 ≤ a11) →
    (r32 (a10 + 1)) ∧
    Go d MX10_move 575 [some (vR 53), some (vI a1), some (vI a2), some (vI a3), some (vI a4), some (vI a5), some (vI a6), some (vI a7), some (vJ a8), none, some (vI (a10 + 1)), none, none, none] [] S F G Q) ∧
  ((¬ G 55 1 ≤ a11) →
    (1 ≤ d) ∧
    ∃ z7 : Int, Pu (d - 1) MX10_edgeAt [vR 53, vI 0, vI a10] S F G (some (vI z7)) ∧
    ∃ z13 : Int, Pu (d - 1) MX10_edgeAt [vR 53, vI 1, vI a11] S F G (some (vI z13)) ∧
    ∃ z19 : Int, Pu (d - 1) MX10_isInside [vI z7, vI z13, vI a2, vI a3, vI a4, vI a5] S F G (some (vI z19)) ∧
    ((z19 = 0) →
      V_X10_move_648 d S F G Q a1 a2 a3 a4 a5 a6 a7 a8 a10 a11 z7 z13) ∧
    ((¬ z19 = 0) →
      ∃ z25 : Int, Pu (d - 1) MX10_slot [vI a1, vI a10, vI a11] S F G (some (vI z25)) ∧
      ((0 : Int) ≤ z25) ∧
      ((z25 : Int) < 6912) ∧
      ∀ G29 : AG, G29 = gu G 57 z25 0 →
      V_X10_move_648 d S F G29 Q a1 a2 a3 a4 a5 a6 a7 a8 a10 a11 z7 z13))
theorem R_X10_move_589 {d : Nat} {S : AS} {F : AF} {G : AG} {Q : AQ} {a1 : Int} {a2 : Int} {a3 : Int} {a4 : Int} {a5 : Int} {a6 : Int} {a7 : Int} {a8 : Int} {a10 : Int} {a11 : Int} (hsm : ShM S) (h : V_X10_move_589 d S F G Q a1 a2 a3 a4 a5 a6 a7 a8 a10 a11) : Go d MX10_move 589 [some (vR 53), some (vI a1), some (vI a2), some (vI a3), some (vI a4), some (vI a5), some (vI a6), some (vI a7), some (vJ a8), none, some (vI a10), some (vI a11), none, none] [] S F G Q := by
  unfold V_X10_move_589 at h
  refine go_iload (show decode cX10_move 589 = .ok (.iload 11, 2) by decide +kernel) (by rfl) ?_
  refine go_aload_n (show decode cX10_move 591 = .ok (.aload_n 0, 1) by decide +kernel) (by rfl) ?_
  refine go_getRc (show decode cX10_move 592 = .ok (.getfield 29, 3) by decide +kernel) fl_X10_29 rfl (shm_k hsm 53 (by decide) (by decide)) (v := 55) (shm_r hsm 53 5 (by decide) (by decide)) ?_
  refine go_iconst (show decode cX10_move 595 = .ok (.iconst 1, 1) by decide +kernel) (by decide) ?_
  refine go_iaload (show decode cX10_move 596 = .ok (.iaload, 1) by decide +kernel) (shm_k hsm 55 (by decide) (by decide)) (by decide) (lt_n (m := 2) (by decide) (shm_n hsm 55 (by decide) (by decide))) ?_
  obtain ⟨ht, hf⟩ := h
  refine go_icmpge (tgt := 721) (show decode cX10_move 597 = .ok (.if_icmp .ge 124, 3) by decide +kernel) (by decide) (fun hc => ?_) (fun hc => ?_)
  · have h := ht hc
    obtain ⟨q1, h⟩ := h
    refine go_iinc (show decode cX10_move 721 = .ok (.iinc 10 1, 3) by decide +kernel) (by rfl) q1 (by decide) ?_
    show Go d MX10_move 724 [some (vR 53), some (vI a1), some (vI a2), some (vI a3), some (vI a4), some (vI a5), some (vI a6), some (vI a7), some (vJ a8), none, some (vI (a10 + 1)), some (vI a11), none, none] [] S F G Q
    refine go_goto (tgt := 575) (show decode cX10_move 724 = .ok (.goto (-149), 3) by decide +kernel) (by decide) ?_
    refine go_clr 11 ?_
    exact h
  · have h := hf hc
    refine go_aload_n (show decode cX10_move 600 = .ok (.aload_n 0, 1) by decide +kernel) (by rfl) ?_
    refine go_iconst (show decode cX10_move 601 = .ok (.iconst 0, 1) by decide +kernel) (by decide) ?_
    refine go_iload (show decode cX10_move 602 = .ok (.iload 10, 2) by decide +kernel) (by rfl) ?_
    obtain ⟨q2, h⟩ := h
    obtain ⟨z7, p8, h⟩ := h
    refine go_callV (d2 := d - 1) (M2 := MX10_edgeAt) (n := 2) (ci := 10) (av := [vI 0, vI a10]) (st := []) (show decode cX10_move 604 = .ok (.invokevirtual 126, 3) by decide +kernel) ml_X10_126 mt_X10_edgeAt min_X10_edgeAt mse_X10_edgeAt (by decide) (shm_k hsm 53 (by decide) (by decide)) rfl (Nat.le_of_ble_eq_true rfl) (by omega) (ok_mono p8 (fun w3 S4 F5 G6 e9 => ?_))
    obtain ⟨e1, e2, e3, e4⟩ := e9
    subst e1
    replace e2 := e2.symm; subst e2
    replace e3 := e3.symm; subst e3
    replace e4 := e4.symm; subst e4
    show Go d MX10_move 607 [some (vR 53), some (vI a1), some (vI a2), some (vI a3), some (vI a4), some (vI a5), some (vI a6), some (vI a7), some (vJ a8), none, some (vI a10), some (vI a11), none, none] [vI z7] S F G Q
    refine go_istore (show decode cX10_move 607 = .ok (.istore 12, 2) by decide +kernel) (by decide) ?_
    show Go d MX10_move 609 [some (vR 53), some (vI a1), some (vI a2), some (vI a3), some (vI a4), some (vI a5), some (vI a6), some (vI a7), some (vJ a8), none, some (vI a10), some (vI a11), some (vI z7), none] [] S F G Q
    refine go_aload_n (show decode cX10_move 609 = .ok (.aload_n 0, 1) by decide +kernel) (by rfl) ?_
    refine go_iconst (show decode cX10_move 610 = .ok (.iconst 1, 1) by decide +kernel) (by decide) ?_
    refine go_iload (show decode cX10_move 611 = .ok (.iload 11, 2) by decide +kernel) (by rfl) ?_
    obtain ⟨z13, p14, h⟩ := h
    refine go_callV (d2 := d - 1) (M2 := MX10_edgeAt) (n := 2) (ci := 10) (av := [vI 1, vI a11]) (st := []) (show decode cX10_move 613 = .ok (.invokevirtual 126, 3) by decide +kernel) ml_X10_126 mt_X10_edgeAt min_X10_edgeAt mse_X10_edgeAt (by decide) (shm_k hsm 53 (by decide) (by decide)) rfl (Nat.le_of_ble_eq_true rfl) (by omega) (ok_mono p14 (fun w9 S10 F11 G12 e9 => ?_))
    obtain ⟨e1, e2, e3, e4⟩ := e9
    subst e1
    replace e2 := e2.symm; subst e2
    replace e3 := e3.symm; subst e3
    replace e4 := e4.symm; subst e4
    show Go d MX10_move 616 [some (vR 53), some (vI a1), some (vI a2), some (vI a3), some (vI a4), some (vI a5), some (vI a6), some (vI a7), some (vJ a8), none, some (vI a10), some (vI a11), some (vI z7), none] [vI z13] S F G Q
    refine go_istore (show decode cX10_move 616 = .ok (.istore 13, 2) by decide +kernel) (by decide) ?_
    show Go d MX10_move 618 [some (vR 53), some (vI a1), some (vI a2), some (vI a3), some (vI a4), some (vI a5), some (vI a6), some (vI a7), some (vJ a8), none, some (vI a10), some (vI a11), some (vI z7), some (vI z13)] [] S F G Q
    refine go_iload (show decode cX10_move 618 = .ok (.iload 12, 2) by decide +kernel) (by rfl) ?_
    refine go_iload (show decode cX10_move 620 = .ok (.iload 13, 2) by decide +kernel) (by rfl) ?_
    refine go_iload_n (show decode cX10_move 622 = .ok (.iload_n 2, 1) by decide +kernel) (by rfl) ?_
    refine go_iload_n (show decode cX10_move 623 = .ok (.iload_n 3, 1) by decide +kernel) (by rfl) ?_
    refine go_iload (show decode cX10_move 624 = .ok (.iload 4, 2) by decide +kernel) (by rfl) ?_
    refine go_iload (show decode cX10_move 626 = .ok (.iload 5, 2) by decide +kernel) (by rfl) ?_
    obtain ⟨z19, p20, h⟩ := h
    refine go_callS (d2 := d - 1) (M2 := MX10_isInside) (n := 6) (av := [vI z7, vI z13, vI a2, vI a3, vI a4, vI a5]) (st := []) (show decode cX10_move 628 = .ok (.invokestatic 289, 3) by decide +kernel) ml_X10_289 mt_X10_isInside mst_X10_isInside rfl (Nat.le_of_ble_eq_true rfl) (by omega) (ok_mono p20 (fun w15 S16 F17 G18 e9 => ?_))
    obtain ⟨e1, e2, e3, e4⟩ := e9
    subst e1
    replace e2 := e2.symm; subst e2
    replace e3 := e3.symm; subst e3
    replace e4 := e4.symm; subst e4
    show Go d MX10_move 631 [some (vR 53), some (vI a1), some (vI a2), some (vI a3), some (vI a4), some (vI a5), some (vI a6), some (vI a7), some (vJ a8), none, some (vI a10), some (vI a11), some (vI z7), some (vI z13)] [vI z19] S F G Q
    obtain ⟨ht, hf⟩ := h
    refine go_ifeq (tgt := 648) (show decode cX10_move 631 = .ok (.ifCond .eq 17, 3) by decide +kernel) (by decide) (fun hc => ?_) (fun hc => ?_)
    · have h := ht hc
      exact R_X10_move_648 hsm h
    · have h := hf hc
      refine go_aload_n (show decode cX10_move 634 = .ok (.aload_n 0, 1) by decide +kernel) (by rfl) ?_
      refine go_getRc (show decode cX10_move 635 = .ok (.getfield 35, 3) by decide +kernel) fl_X10_35 rfl (shm_k hsm 53 (by decide) (by decide)) (v := 57) (shm_r hsm 53 7 (by decide) (by decide)) ?_
      refine go_iload_n (show decode cX10_move 638 = .ok (.iload_n 1, 1) by decide +kernel) (by rfl) ?_
      refine go_iload (show decode cX10_move 639 = .ok (.iload 10, 2) by decide +kernel) (by rfl) ?_
      refine go_iload (show decode cX10_move 641 = .ok (.iload 11, 2) by decide +kernel) (by rfl) ?_
      obtain ⟨z25, p26, h⟩ := h
      refine go_callS (d2 := d - 1) (M2 := MX10_slot) (n := 3) (av := [vI a1, vI a10, vI a11]) (st := [vR 57]) (show decode cX10_move 643 = .ok (.invokestatic 130, 3) by decide +kernel) ml_X10_130 mt_X10_slot mst_X10_slot rfl (Nat.le_of_ble_eq_true rfl) (by omega) (ok_mono p26 (fun w21 S22 F23 G24 e9 => ?_))
      obtain ⟨e1, e2, e3, e4⟩ := e9
      subst e1
      replace e2 := e2.symm; subst e2
      replace e3 := e3.symm; subst e3
      replace e4 := e4.symm; subst e4
      show Go d MX10_move 646 [some (vR 53), some (vI a1), some (vI a2), some (vI a3), some (vI a4), some (vI a5), some (vI a6), some (vI a7), some (vJ a8), none, some (vI a10), some (vI a11), some (vI z7), some (vI z13)] [vI z25, vR 57] S F G Q
      refine go_lconst (n := 0) (show decode cX10_move 646 = .ok (.lconst 0, 1) by decide +kernel) ?_
      show Go d MX10_move 647 [some (vR 53), some (vI a1), some (vI a2), some (vI a3), some (vI a4), some (vI a5), some (vI a6), some (vI a7), some (vJ a8), none, some (vI a10), some (vI a11), some (vI z7), some (vI z13)] [vJ 0, vI z25, vR 57] S F G Q
      obtain ⟨q27, h⟩ := h
      obtain ⟨q28, h⟩ := h
      refine go_lastore (show decode cX10_move 647 = .ok (.lastore, 1) by decide +kernel) (shm_k hsm 57 (by decide) (by decide)) q27 (lt_n (m := 6912) q28 (shm_n hsm 57 (by decide) (by decide)))  ?_
      obtain ⟨G29, G29e⟩ : ∃ G29 : AG, G29 = gu G 57 z25 0 := ⟨_, rfl⟩
      have h := h G29 G29e
      rw [← G29e]
      exact R_X10_move_648 hsm h
def V_X10_move_575 (d : Nat) (S : AS) (F : AF) (G : AG) (Q : AQ) (a1 : Int) (a2 : Int) (a3 : Int) (a4 : Int) (a5 : Int) (a6 : Int) (a7 : Int) (a8 : Int) (a10 : Int) : Prop :=
  ((G 55 0 ≤ a10) →
    (r64 (100000 * a6)) ∧
    (r64 ((100000 * a6) + a7)) ∧
    (1 ≤ d) ∧
    Ok (d - 1) MX10_tells [vR 53, vI 2, vI a1, vI a2, vI a3, vI a4, vI a5, vJ ((100000 * a6) + a7)] S F G (fun w4 S5 F6 G7 =>
    S5 = S ∧
    w4 = none ∧
    Q (some (vJ a8)) S F6 G7)) ∧
  ((¬ G 55 0 ≤ a10) →
    Go d MX10_move 589 [some (vR 53), some (vI a1), some (vI a2), some (vI a3), some (vI a4), some (vI a5), some (vI a6), some (vI a7), some (vJ a8), none, some (vI a10), some (vI 0), none, none] [] S F G Q)
theorem R_X10_move_575 {d : Nat} {S : AS} {F : AF} {G : AG} {Q : AQ} {a1 : Int} {a2 : Int} {a3 : Int} {a4 : Int} {a5 : Int} {a6 : Int} {a7 : Int} {a8 : Int} {a10 : Int} (hsm : ShM S) (h : V_X10_move_575 d S F G Q a1 a2 a3 a4 a5 a6 a7 a8 a10) : Go d MX10_move 575 [some (vR 53), some (vI a1), some (vI a2), some (vI a3), some (vI a4), some (vI a5), some (vI a6), some (vI a7), some (vJ a8), none, some (vI a10), none, none, none] [] S F G Q := by
  unfold V_X10_move_575 at h
  refine go_iload (show decode cX10_move 575 = .ok (.iload 10, 2) by decide +kernel) (by rfl) ?_
  refine go_aload_n (show decode cX10_move 577 = .ok (.aload_n 0, 1) by decide +kernel) (by rfl) ?_
  refine go_getRc (show decode cX10_move 578 = .ok (.getfield 29, 3) by decide +kernel) fl_X10_29 rfl (shm_k hsm 53 (by decide) (by decide)) (v := 55) (shm_r hsm 53 5 (by decide) (by decide)) ?_
  refine go_iconst (show decode cX10_move 581 = .ok (.iconst 0, 1) by decide +kernel) (by decide) ?_
  refine go_iaload (show decode cX10_move 582 = .ok (.iaload, 1) by decide +kernel) (shm_k hsm 55 (by decide) (by decide)) (by decide) (lt_n (m := 2) (by decide) (shm_n hsm 55 (by decide) (by decide))) ?_
  obtain ⟨ht, hf⟩ := h
  refine go_icmpge (tgt := 727) (show decode cX10_move 583 = .ok (.if_icmp .ge 144, 3) by decide +kernel) (by decide) (fun hc => ?_) (fun hc => ?_)
  · have h := ht hc
    refine go_aload_n (show decode cX10_move 727 = .ok (.aload_n 0, 1) by decide +kernel) (by rfl) ?_
    refine go_iconst (show decode cX10_move 728 = .ok (.iconst 2, 1) by decide +kernel) (by decide) ?_
    refine go_iload_n (show decode cX10_move 729 = .ok (.iload_n 1, 1) by decide +kernel) (by rfl) ?_
    refine go_iload_n (show decode cX10_move 730 = .ok (.iload_n 2, 1) by decide +kernel) (by rfl) ?_
    refine go_iload_n (show decode cX10_move 731 = .ok (.iload_n 3, 1) by decide +kernel) (by rfl) ?_
    refine go_iload (show decode cX10_move 732 = .ok (.iload 4, 2) by decide +kernel) (by rfl) ?_
    refine go_iload (show decode cX10_move 734 = .ok (.iload 5, 2) by decide +kernel) (by rfl) ?_
    refine go_ldc2 (show decode cX10_move 736 = .ok (.ldc2_w 304, 3) by decide +kernel) lc_X10_304 (by decide) ?_
    refine go_iload (show decode cX10_move 739 = .ok (.iload 6, 2) by decide +kernel) (by rfl) ?_
    refine go_i2l (show decode cX10_move 741 = .ok (.i2l, 1) by decide +kernel) ?_
    obtain ⟨q1, h⟩ := h
    refine go_lmul (show decode cX10_move 742 = .ok (.lmul, 1) by decide +kernel) q1 ?_
    refine go_iload (show decode cX10_move 743 = .ok (.iload 7, 2) by decide +kernel) (by rfl) ?_
    refine go_i2l (show decode cX10_move 745 = .ok (.i2l, 1) by decide +kernel) ?_
    obtain ⟨q2, h⟩ := h
    refine go_ladd (show decode cX10_move 746 = .ok (.ladd, 1) by decide +kernel) q2 ?_
    obtain ⟨q3, h⟩ := h
    refine go_callV (d2 := d - 1) (M2 := MX10_tells) (n := 7) (ci := 10) (av := [vI 2, vI a1, vI a2, vI a3, vI a4, vI a5, vJ ((100000 * a6) + a7)]) (st := []) (show decode cX10_move 747 = .ok (.invokevirtual 213, 3) by decide +kernel) ml_X10_213 mt_X10_tells min_X10_tells mse_X10_tells (by decide) (shm_k hsm 53 (by decide) (by decide)) rfl (Nat.le_of_ble_eq_true rfl) (by omega) (ok_mono h (fun w4 S5 F6 G7 h => ?_))
    obtain ⟨e8, h⟩ := h
    replace e8 := e8.symm; subst e8
    obtain ⟨e9, h⟩ := h
    subst e9
    show Go d MX10_move 750 [some (vR 53), some (vI a1), some (vI a2), some (vI a3), some (vI a4), some (vI a5), some (vI a6), some (vI a7), some (vJ a8), none, some (vI a10), none, none, none] [] S F6 G7 Q
    refine go_lload (show decode cX10_move 750 = .ok (.lload 8, 2) by decide +kernel) (by rfl) ?_
    exact go_lret (show decode cX10_move 752 = .ok (.lreturn, 1) by decide +kernel) rfl h
  · have h := hf hc
    refine go_iconst (show decode cX10_move 586 = .ok (.iconst 0, 1) by decide +kernel) (by decide) ?_
    refine go_istore (show decode cX10_move 587 = .ok (.istore 11, 2) by decide +kernel) (by decide) ?_
    show Go d MX10_move 589 [some (vR 53), some (vI a1), some (vI a2), some (vI a3), some (vI a4), some (vI a5), some (vI a6), some (vI a7), some (vJ a8), none, some (vI a10), some (vI 0), none, none] [] S F G Q
    exact h
def V_X10_move_527 (d : Nat) (S : AS) (F : AF) (G : AG) (Q : AQ) (a1 : Int) (a2 : Int) (a3 : Int) (a4 : Int) (a5 : Int) (a6 : Int) (a7 : Int) (a8 : Int) (a10 : Int) (a11 : Int) : Prop :=
  ((G 55 1 ≤ a11) →
    (r32 (a10 + 1)) ∧
    Go d MX10_move 513 [some (vR 53), some (vI a1), some (vI a2), some (vI a3), some (vI a4), some (vI a5), some (vI a6), some (vI a7), some (vJ a8), none, some (vI (a10 + 1)), none, none, none] [] S F G Q) ∧
  ((¬ G 55 1 ≤ a11) →
    (r32 (48 * a11)) ∧
    (r32 ((48 * a11) + a10)) ∧
    (1 ≤ d) ∧
    ∃ z9 : Int, Pu (d - 1) MX10_in [vR 53, vI a1, vI a10, vI a11] S F G (some (vJ z9)) ∧
    ((0 : Int) ≤ (48 * a11) + a10) ∧
    (((48 * a11) + a10 : Int) < 2304) ∧
    ∀ G13 : AG, G13 = gu G 70 ((48 * a11) + a10) z9 →
    (r32 (a11 + 1)) ∧
    Go d MX10_move 527 [some (vR 53), some (vI a1), some (vI a2), some (vI a3), some (vI a4), some (vI a5), some (vI a6), some (vI a7), some (vJ a8), none, some (vI a10), some (vI (a11 + 1)), none, none] [] S F G13 Q)
theorem R_X10_move_527 {d : Nat} {S : AS} {F : AF} {G : AG} {Q : AQ} {a1 : Int} {a2 : Int} {a3 : Int} {a4 : Int} {a5 : Int} {a6 : Int} {a7 : Int} {a8 : Int} {a10 : Int} {a11 : Int} (hsm : ShM S) (h : V_X10_move_527 d S F G Q a1 a2 a3 a4 a5 a6 a7 a8 a10 a11) : Go d MX10_move 527 [some (vR 53), some (vI a1), some (vI a2), some (vI a3), some (vI a4), some (vI a5), some (vI a6), some (vI a7), some (vJ a8), none, some (vI a10), some (vI a11), none, none] [] S F G Q := by
  unfold V_X10_move_527 at h
  refine go_iload (show decode cX10_move 527 = .ok (.iload 11, 2) by decide +kernel) (by rfl) ?_
  refine go_aload_n (show decode cX10_move 529 = .ok (.aload_n 0, 1) by decide +kernel) (by rfl) ?_
  refine go_getRc (show decode cX10_move 530 = .ok (.getfield 29, 3) by decide +kernel) fl_X10_29 rfl (shm_k hsm 53 (by decide) (by decide)) (v := 55) (shm_r hsm 53 5 (by decide) (by decide)) ?_
  refine go_iconst (show decode cX10_move 533 = .ok (.iconst 1, 1) by decide +kernel) (by decide) ?_
  refine go_iaload (show decode cX10_move 534 = .ok (.iaload, 1) by decide +kernel) (shm_k hsm 55 (by decide) (by decide)) (by decide) (lt_n (m := 2) (by decide) (shm_n hsm 55 (by decide) (by decide))) ?_
  obtain ⟨ht, hf⟩ := h
  refine go_icmpge (tgt := 566) (show decode cX10_move 535 = .ok (.if_icmp .ge 31, 3) by decide +kernel) (by decide) (fun hc => ?_) (fun hc => ?_)
  · have h := ht hc
    obtain ⟨q1, h⟩ := h
    refine go_iinc (show decode cX10_move 566 = .ok (.iinc 10 1, 3) by decide +kernel) (by rfl) q1 (by decide) ?_
    show Go d MX10_move 569 [some (vR 53), some (vI a1), some (vI a2), some (vI a3), some (vI a4), some (vI a5), some (vI a6), some (vI a7), some (vJ a8), none, some (vI (a10 + 1)), some (vI a11), none, none] [] S F G Q
    refine go_goto (tgt := 513) (show decode cX10_move 569 = .ok (.goto (-56), 3) by decide +kernel) (by decide) ?_
    refine go_clr 11 ?_
    exact h
  · have h := hf hc
    refine go_aload_n (show decode cX10_move 538 = .ok (.aload_n 0, 1) by decide +kernel) (by rfl) ?_
    refine go_getRc (show decode cX10_move 539 = .ok (.getfield 77, 3) by decide +kernel) fl_X10_77 rfl (shm_k hsm 53 (by decide) (by decide)) (v := 70) (shm_r hsm 53 30 (by decide) (by decide)) ?_
    refine go_bipush (show decode cX10_move 542 = .ok (.bipush 48, 2) by decide +kernel) (by decide) ?_
    refine go_iload (show decode cX10_move 544 = .ok (.iload 11, 2) by decide +kernel) (by rfl) ?_
    obtain ⟨q2, h⟩ := h
    refine go_imul (show decode cX10_move 546 = .ok (.imul, 1) by decide +kernel) q2 ?_
    refine go_iload (show decode cX10_move 547 = .ok (.iload 10, 2) by decide +kernel) (by rfl) ?_
    obtain ⟨q3, h⟩ := h
    refine go_iadd (show decode cX10_move 549 = .ok (.iadd, 1) by decide +kernel) q3 ?_
    refine go_aload_n (show decode cX10_move 550 = .ok (.aload_n 0, 1) by decide +kernel) (by rfl) ?_
    refine go_iload_n (show decode cX10_move 551 = .ok (.iload_n 1, 1) by decide +kernel) (by rfl) ?_
    refine go_iload (show decode cX10_move 552 = .ok (.iload 10, 2) by decide +kernel) (by rfl) ?_
    refine go_iload (show decode cX10_move 554 = .ok (.iload 11, 2) by decide +kernel) (by rfl) ?_
    obtain ⟨q4, h⟩ := h
    obtain ⟨z9, p10, h⟩ := h
    refine go_callV (d2 := d - 1) (M2 := MX10_in) (n := 3) (ci := 10) (av := [vI a1, vI a10, vI a11]) (st := [vI ((48 * a11) + a10), vR 70]) (show decode cX10_move 556 = .ok (.invokevirtual 163, 3) by decide +kernel) ml_X10_163 mt_X10_in min_X10_in mse_X10_in (by decide) (shm_k hsm 53 (by decide) (by decide)) rfl (Nat.le_of_ble_eq_true rfl) (by omega) (ok_mono p10 (fun w5 S6 F7 G8 e9 => ?_))
    obtain ⟨e1, e2, e3, e4⟩ := e9
    subst e1
    replace e2 := e2.symm; subst e2
    replace e3 := e3.symm; subst e3
    replace e4 := e4.symm; subst e4
    show Go d MX10_move 559 [some (vR 53), some (vI a1), some (vI a2), some (vI a3), some (vI a4), some (vI a5), some (vI a6), some (vI a7), some (vJ a8), none, some (vI a10), some (vI a11), none, none] [vJ z9, vI ((48 * a11) + a10), vR 70] S F G Q
    obtain ⟨q11, h⟩ := h
    obtain ⟨q12, h⟩ := h
    refine go_lastore (show decode cX10_move 559 = .ok (.lastore, 1) by decide +kernel) (shm_k hsm 70 (by decide) (by decide)) q11 (lt_n (m := 2304) q12 (shm_n hsm 70 (by decide) (by decide)))  ?_
    obtain ⟨G13, G13e⟩ : ∃ G13 : AG, G13 = gu G 70 ((48 * a11) + a10) z9 := ⟨_, rfl⟩
    have h := h G13 G13e
    rw [← G13e]
    obtain ⟨q14, h⟩ := h
    refine go_iinc (show decode cX10_move 560 = .ok (.iinc 11 1, 3) by decide +kernel) (by rfl) q14 (by decide) ?_
    show Go d MX10_move 563 [some (vR 53), some (vI a1), some (vI a2), some (vI a3), some (vI a4), some (vI a5), some (vI a6), some (vI a7), some (vJ a8), none, some (vI a10), some (vI (a11 + 1)), none, none] [] S F G13 Q
    refine go_goto (tgt := 527) (show decode cX10_move 563 = .ok (.goto (-36), 3) by decide +kernel) (by decide) ?_
    exact h
def V_X10_move_513 (d : Nat) (S : AS) (F : AF) (G : AG) (Q : AQ) (a1 : Int) (a2 : Int) (a3 : Int) (a4 : Int) (a5 : Int) (a6 : Int) (a7 : Int) (a8 : Int) (a10 : Int) : Prop :=
  ((G 55 0 ≤ a10) →
    Go d MX10_move 575 [some (vR 53), some (vI a1), some (vI a2), some (vI a3), some (vI a4), some (vI a5), some (vI a6), some (vI a7), some (vJ a8), none, some (vI 0), none, none, none] [] S F G Q) ∧
  ((¬ G 55 0 ≤ a10) →
    Go d MX10_move 527 [some (vR 53), some (vI a1), some (vI a2), some (vI a3), some (vI a4), some (vI a5), some (vI a6), some (vI a7), some (vJ a8), none, some (vI a10), some (vI 0), none, none] [] S F G Q)
theorem R_X10_move_513 {d : Nat} {S : AS} {F : AF} {G : AG} {Q : AQ} {a1 : Int} {a2 : Int} {a3 : Int} {a4 : Int} {a5 : Int} {a6 : Int} {a7 : Int} {a8 : Int} {a10 : Int} (hsm : ShM S) (h : V_X10_move_513 d S F G Q a1 a2 a3 a4 a5 a6 a7 a8 a10) : Go d MX10_move 513 [some (vR 53), some (vI a1), some (vI a2), some (vI a3), some (vI a4), some (vI a5), some (vI a6), some (vI a7), some (vJ a8), none, some (vI a10), none, none, none] [] S F G Q := by
  unfold V_X10_move_513 at h
  refine go_iload (show decode cX10_move 513 = .ok (.iload 10, 2) by decide +kernel) (by rfl) ?_
  refine go_aload_n (show decode cX10_move 515 = .ok (.aload_n 0, 1) by decide +kernel) (by rfl) ?_
  refine go_getRc (show decode cX10_move 516 = .ok (.getfield 29, 3) by decide +kernel) fl_X10_29 rfl (shm_k hsm 53 (by decide) (by decide)) (v := 55) (shm_r hsm 53 5 (by decide) (by decide)) ?_
  refine go_iconst (show decode cX10_move 519 = .ok (.iconst 0, 1) by decide +kernel) (by decide) ?_
  refine go_iaload (show decode cX10_move 520 = .ok (.iaload, 1) by decide +kernel) (shm_k hsm 55 (by decide) (by decide)) (by decide) (lt_n (m := 2) (by decide) (shm_n hsm 55 (by decide) (by decide))) ?_
  obtain ⟨ht, hf⟩ := h
  refine go_icmpge (tgt := 572) (show decode cX10_move 521 = .ok (.if_icmp .ge 51, 3) by decide +kernel) (by decide) (fun hc => ?_) (fun hc => ?_)
  · have h := ht hc
    refine go_iconst (show decode cX10_move 572 = .ok (.iconst 0, 1) by decide +kernel) (by decide) ?_
    refine go_istore (show decode cX10_move 573 = .ok (.istore 10, 2) by decide +kernel) (by decide) ?_
    show Go d MX10_move 575 [some (vR 53), some (vI a1), some (vI a2), some (vI a3), some (vI a4), some (vI a5), some (vI a6), some (vI a7), some (vJ a8), none, some (vI 0), none, none, none] [] S F G Q
    exact h
  · have h := hf hc
    refine go_iconst (show decode cX10_move 524 = .ok (.iconst 0, 1) by decide +kernel) (by decide) ?_
    refine go_istore (show decode cX10_move 525 = .ok (.istore 11, 2) by decide +kernel) (by decide) ?_
    show Go d MX10_move 527 [some (vR 53), some (vI a1), some (vI a2), some (vI a3), some (vI a4), some (vI a5), some (vI a6), some (vI a7), some (vJ a8), none, some (vI a10), some (vI 0), none, none] [] S F G Q
    exact h
def V_X10_move_482 (d : Nat) (S : AS) (F : AF) (G : AG) (Q : AQ) (a1 : Int) (a2 : Int) (a3 : Int) (a4 : Int) (a5 : Int) (a6 : Int) (a7 : Int) (a8 : Int) : Prop :=
  (r32 (a8 + 1)) ∧
  Go d MX10_move 320 [some (vR 53), some (vI a1), some (vI a2), some (vI a3), some (vI a4), some (vI a5), some (vI a6), some (vI a7), some (vI (a8 + 1)), none, none, none, none, none] [] S F G Q
theorem R_X10_move_482 {d : Nat} {S : AS} {F : AF} {G : AG} {Q : AQ} {a1 : Int} {a2 : Int} {a3 : Int} {a4 : Int} {a5 : Int} {a6 : Int} {a7 : Int} {a8 : Int} (hsm : ShM S) (h : V_X10_move_482 d S F G Q a1 a2 a3 a4 a5 a6 a7 a8) : Go d MX10_move 482 [some (vR 53), some (vI a1), some (vI a2), some (vI a3), some (vI a4), some (vI a5), some (vI a6), some (vI a7), some (vI a8), none, none, none, none, none] [] S F G Q := by
  unfold V_X10_move_482 at h
  obtain ⟨q1, h⟩ := h
  refine go_iinc (show decode cX10_move 482 = .ok (.iinc 8 1, 3) by decide +kernel) (by rfl) q1 (by decide) ?_
  show Go d MX10_move 485 [some (vR 53), some (vI a1), some (vI a2), some (vI a3), some (vI a4), some (vI a5), some (vI a6), some (vI a7), some (vI (a8 + 1)), none, none, none, none, none] [] S F G Q
  refine go_goto (tgt := 320) (show decode cX10_move 485 = .ok (.goto (-165), 3) by decide +kernel) (by decide) ?_
  exact h
def V_X10_move_448 (d : Nat) (S : AS) (F : AF) (G : AG) (Q : AQ) (a1 : Int) (a2 : Int) (a3 : Int) (a4 : Int) (a5 : Int) (a6 : Int) (a7 : Int) (a8 : Int) (a9 : Int) (s0 : Int) (s1 : Int) : Prop :=
  (r64 (s1 - s0)) ∧
  ∀ x2 : Int, x2 = s1 - s0 →
  ((x2 ≤ 0) →
    V_X10_move_482 d S F G Q a1 a2 a3 a4 a5 a6 a7 a8) ∧
  ((¬ x2 ≤ 0) →
    (1 ≤ d) ∧
    ∃ z8 : Int, Pu (d - 1) MX10_zoned [vR 53, vI a8] S F G (some (vJ z8)) ∧
    (r64 (z8 + x2)) ∧
    ((0 : Int) ≤ a8) ∧
    ((a8 : Int) < 6) ∧
    ((z8 + x2 ≤ G 64 a8) →
      V_X10_move_482 d S F G Q a1 a2 a3 a4 a5 a6 a7 a8) ∧
    ((¬ z8 + x2 ≤ G 64 a8) →
      Q (some (vJ (-9))) S F G))
theorem R_X10_move_448 {d : Nat} {S : AS} {F : AF} {G : AG} {Q : AQ} {a1 : Int} {a2 : Int} {a3 : Int} {a4 : Int} {a5 : Int} {a6 : Int} {a7 : Int} {a8 : Int} {a9 : Int} {s0 : Int} {s1 : Int} (hsm : ShM S) (h : V_X10_move_448 d S F G Q a1 a2 a3 a4 a5 a6 a7 a8 a9 s0 s1) : Go d MX10_move 448 [some (vR 53), some (vI a1), some (vI a2), some (vI a3), some (vI a4), some (vI a5), some (vI a6), some (vI a7), some (vI a8), some (vJ a9), none, none, none, none] [vJ s0, vJ s1] S F G Q := by
  unfold V_X10_move_448 at h
  obtain ⟨q1, h⟩ := h
  refine go_lsub (show decode cX10_move 448 = .ok (.lsub, 1) by decide +kernel) q1 ?_
  obtain ⟨x2, x2e⟩ : ∃ x2 : Int, x2 = s1 - s0 := ⟨_, rfl⟩
  have h := h x2 x2e
  rw [← x2e]
  refine go_lstore (show decode cX10_move 449 = .ok (.lstore 9, 2) by decide +kernel) (by decide) ?_
  show Go d MX10_move 451 [some (vR 53), some (vI a1), some (vI a2), some (vI a3), some (vI a4), some (vI a5), some (vI a6), some (vI a7), some (vI a8), some (vJ x2), none, none, none, none] [] S F G Q
  refine go_lload (show decode cX10_move 451 = .ok (.lload 9, 2) by decide +kernel) (by rfl) ?_
  refine go_lconst (n := 0) (show decode cX10_move 453 = .ok (.lconst 0, 1) by decide +kernel) ?_
  show Go d MX10_move 454 [some (vR 53), some (vI a1), some (vI a2), some (vI a3), some (vI a4), some (vI a5), some (vI a6), some (vI a7), some (vI a8), some (vJ x2), none, none, none, none] [vJ 0, vJ x2] S F G Q
  obtain ⟨ht, hf⟩ := h
  refine go_jle (tgt := 482) (show decode cX10_move 454 = .ok (.lcmp, 1) by decide +kernel) (show decode cX10_move 455 = .ok (.ifCond .le 27, 3) by decide +kernel) (by decide) (fun hc => ?_) (fun hc => ?_)
  · have h := ht hc
    refine go_clr 9 ?_
    exact R_X10_move_482 hsm h
  · have h := hf hc
    refine go_aload_n (show decode cX10_move 458 = .ok (.aload_n 0, 1) by decide +kernel) (by rfl) ?_
    refine go_iload (show decode cX10_move 459 = .ok (.iload 8, 2) by decide +kernel) (by rfl) ?_
    obtain ⟨q3, h⟩ := h
    obtain ⟨z8, p9, h⟩ := h
    refine go_callV (d2 := d - 1) (M2 := MX10_zoned) (n := 1) (ci := 10) (av := [vI a8]) (st := []) (show decode cX10_move 461 = .ok (.invokevirtual 188, 3) by decide +kernel) ml_X10_188 mt_X10_zoned min_X10_zoned mse_X10_zoned (by decide) (shm_k hsm 53 (by decide) (by decide)) rfl (Nat.le_of_ble_eq_true rfl) (by omega) (ok_mono p9 (fun w4 S5 F6 G7 e9 => ?_))
    obtain ⟨e1, e2, e3, e4⟩ := e9
    subst e1
    replace e2 := e2.symm; subst e2
    replace e3 := e3.symm; subst e3
    replace e4 := e4.symm; subst e4
    show Go d MX10_move 464 [some (vR 53), some (vI a1), some (vI a2), some (vI a3), some (vI a4), some (vI a5), some (vI a6), some (vI a7), some (vI a8), some (vJ x2), none, none, none, none] [vJ z8] S F G Q
    refine go_lload (show decode cX10_move 464 = .ok (.lload 9, 2) by decide +kernel) (by rfl) ?_
    obtain ⟨q10, h⟩ := h
    refine go_ladd (show decode cX10_move 466 = .ok (.ladd, 1) by decide +kernel) q10 ?_
    refine go_aload_n (show decode cX10_move 467 = .ok (.aload_n 0, 1) by decide +kernel) (by rfl) ?_
    refine go_getRc (show decode cX10_move 468 = .ok (.getfield 58, 3) by decide +kernel) fl_X10_58 rfl (shm_k hsm 53 (by decide) (by decide)) (v := 64) (shm_r hsm 53 16 (by decide) (by decide)) ?_
    refine go_iload (show decode cX10_move 471 = .ok (.iload 8, 2) by decide +kernel) (by rfl) ?_
    obtain ⟨q11, h⟩ := h
    obtain ⟨q12, h⟩ := h
    refine go_laload (show decode cX10_move 473 = .ok (.laload, 1) by decide +kernel) (shm_k hsm 64 (by decide) (by decide)) q11 (lt_n (m := 6) q12 (shm_n hsm 64 (by decide) (by decide))) ?_
    obtain ⟨ht, hf⟩ := h
    refine go_jle (tgt := 482) (show decode cX10_move 474 = .ok (.lcmp, 1) by decide +kernel) (show decode cX10_move 475 = .ok (.ifCond .le 7, 3) by decide +kernel) (by decide) (fun hc => ?_) (fun hc => ?_)
    · have h := ht hc
      refine go_clr 9 ?_
      exact R_X10_move_482 hsm h
    · have h := hf hc
      refine go_ldc2 (show decode cX10_move 478 = .ok (.ldc2_w 196, 3) by decide +kernel) lc_X10_196 (by decide) ?_
      exact go_lret (show decode cX10_move 481 = .ok (.lreturn, 1) by decide +kernel) rfl h
def V_X10_move_404 (d : Nat) (S : AS) (F : AF) (G : AG) (Q : AQ) (a1 : Int) (a2 : Int) (a3 : Int) (a4 : Int) (a5 : Int) (a6 : Int) (a7 : Int) (a8 : Int) (s0 : Int) : Prop :=
  (1 ≤ d) ∧
  Ok (d - 1) MX10_meets [vR 53, vI a8, vI a2, vI a3, vI a4, vI a5] S F G (fun w2 S3 F4 G5 =>
  S3 = S ∧
  ∃ z6 : Int, w2 = some (vI z6) ∧
  ((z6 = 0) →
    V_X10_move_448 d S F4 G5 Q a1 a2 a3 a4 a5 a6 a7 a8 s0 0 s0) ∧
  ((¬ z6 = 0) →
    ∃ z11 : Int, Pu (d - 1) MX10_sumOf [vR 53, vI a1, vI (F4 53 24), vI (F4 53 25), vI (F4 53 26), vI (F4 53 27)] S F4 G5 (some (vJ z11)) ∧
    V_X10_move_448 d S F4 G5 Q a1 a2 a3 a4 a5 a6 a7 a8 s0 z11 s0))
theorem R_X10_move_404 {d : Nat} {S : AS} {F : AF} {G : AG} {Q : AQ} {a1 : Int} {a2 : Int} {a3 : Int} {a4 : Int} {a5 : Int} {a6 : Int} {a7 : Int} {a8 : Int} {s0 : Int} (hsm : ShM S) (h : V_X10_move_404 d S F G Q a1 a2 a3 a4 a5 a6 a7 a8 s0) : Go d MX10_move 404 [some (vR 53), some (vI a1), some (vI a2), some (vI a3), some (vI a4), some (vI a5), some (vI a6), some (vI a7), some (vI a8), none, none, none, none, none] [vJ s0] S F G Q := by
  unfold V_X10_move_404 at h
  refine go_lstore (show decode cX10_move 404 = .ok (.lstore 9, 2) by decide +kernel) (by decide) ?_
  show Go d MX10_move 406 [some (vR 53), some (vI a1), some (vI a2), some (vI a3), some (vI a4), some (vI a5), some (vI a6), some (vI a7), some (vI a8), some (vJ s0), none, none, none, none] [] S F G Q
  refine go_lload (show decode cX10_move 406 = .ok (.lload 9, 2) by decide +kernel) (by rfl) ?_
  refine go_aload_n (show decode cX10_move 408 = .ok (.aload_n 0, 1) by decide +kernel) (by rfl) ?_
  refine go_iload (show decode cX10_move 409 = .ok (.iload 8, 2) by decide +kernel) (by rfl) ?_
  refine go_iload_n (show decode cX10_move 411 = .ok (.iload_n 2, 1) by decide +kernel) (by rfl) ?_
  refine go_iload_n (show decode cX10_move 412 = .ok (.iload_n 3, 1) by decide +kernel) (by rfl) ?_
  refine go_iload (show decode cX10_move 413 = .ok (.iload 4, 2) by decide +kernel) (by rfl) ?_
  refine go_iload (show decode cX10_move 415 = .ok (.iload 5, 2) by decide +kernel) (by rfl) ?_
  obtain ⟨q1, h⟩ := h
  refine go_callV (d2 := d - 1) (M2 := MX10_meets) (n := 5) (ci := 10) (av := [vI a8, vI a2, vI a3, vI a4, vI a5]) (st := [vJ s0]) (show decode cX10_move 417 = .ok (.invokevirtual 184, 3) by decide +kernel) ml_X10_184 mt_X10_meets min_X10_meets mse_X10_meets (by decide) (shm_k hsm 53 (by decide) (by decide)) rfl (Nat.le_of_ble_eq_true rfl) (by omega) (ok_mono h (fun w2 S3 F4 G5 h => ?_))
  obtain ⟨e8, h⟩ := h
  replace e8 := e8.symm; subst e8
  obtain ⟨z6, e9, h⟩ := h
  subst e9
  show Go d MX10_move 420 [some (vR 53), some (vI a1), some (vI a2), some (vI a3), some (vI a4), some (vI a5), some (vI a6), some (vI a7), some (vI a8), some (vJ s0), none, none, none, none] [vI z6, vJ s0] S F4 G5 Q
  obtain ⟨ht, hf⟩ := h
  refine go_ifeq (tgt := 447) (show decode cX10_move 420 = .ok (.ifCond .eq 27, 3) by decide +kernel) (by decide) (fun hc => ?_) (fun hc => ?_)
  · have h := ht hc
    refine go_lconst (n := 0) (show decode cX10_move 447 = .ok (.lconst 0, 1) by decide +kernel) ?_
    show Go d MX10_move 448 [some (vR 53), some (vI a1), some (vI a2), some (vI a3), some (vI a4), some (vI a5), some (vI a6), some (vI a7), some (vI a8), some (vJ s0), none, none, none, none] [vJ 0, vJ s0] S F4 G5 Q
    exact R_X10_move_448 hsm h
  · have h := hf hc
    refine go_aload_n (show decode cX10_move 423 = .ok (.aload_n 0, 1) by decide +kernel) (by rfl) ?_
    refine go_iload_n (show decode cX10_move 424 = .ok (.iload_n 1, 1) by decide +kernel) (by rfl) ?_
    refine go_aload_n (show decode cX10_move 425 = .ok (.aload_n 0, 1) by decide +kernel) (by rfl) ?_
    refine go_getI (show decode cX10_move 426 = .ok (.getfield 239, 3) by decide +kernel) fl_X10_239 (Or.inl rfl) (shm_k hsm 53 (by decide) (by decide)) ?_
    refine go_aload_n (show decode cX10_move 429 = .ok (.aload_n 0, 1) by decide +kernel) (by rfl) ?_
    refine go_getI (show decode cX10_move 430 = .ok (.getfield 242, 3) by decide +kernel) fl_X10_242 (Or.inl rfl) (shm_k hsm 53 (by decide) (by decide)) ?_
    refine go_aload_n (show decode cX10_move 433 = .ok (.aload_n 0, 1) by decide +kernel) (by rfl) ?_
    refine go_getI (show decode cX10_move 434 = .ok (.getfield 245, 3) by decide +kernel) fl_X10_245 (Or.inl rfl) (shm_k hsm 53 (by decide) (by decide)) ?_
    refine go_aload_n (show decode cX10_move 437 = .ok (.aload_n 0, 1) by decide +kernel) (by rfl) ?_
    refine go_getI (show decode cX10_move 438 = .ok (.getfield 248, 3) by decide +kernel) fl_X10_248 (Or.inl rfl) (shm_k hsm 53 (by decide) (by decide)) ?_
    obtain ⟨z11, p12, h⟩ := h
    refine go_callV (d2 := d - 1) (M2 := MX10_sumOf) (n := 5) (ci := 10) (av := [vI a1, vI (F4 53 24), vI (F4 53 25), vI (F4 53 26), vI (F4 53 27)]) (st := [vJ s0]) (show decode cX10_move 441 = .ok (.invokevirtual 251, 3) by decide +kernel) ml_X10_251 mt_X10_sumOf min_X10_sumOf mse_X10_sumOf (by decide) (shm_k hsm 53 (by decide) (by decide)) rfl (Nat.le_of_ble_eq_true rfl) (by omega) (ok_mono p12 (fun w7 S8 F9 G10 e9 => ?_))
    obtain ⟨e1, e2, e3, e4⟩ := e9
    subst e1
    replace e2 := e2.symm; subst e2
    replace e3 := e3.symm; subst e3
    replace e4 := e4.symm; subst e4
    show Go d MX10_move 444 [some (vR 53), some (vI a1), some (vI a2), some (vI a3), some (vI a4), some (vI a5), some (vI a6), some (vI a7), some (vI a8), some (vJ s0), none, none, none, none] [vJ z11, vJ s0] S F4 G5 Q
    refine go_goto (tgt := 448) (show decode cX10_move 444 = .ok (.goto 4, 3) by decide +kernel) (by decide) ?_
    exact R_X10_move_448 hsm h
def V_X10_move_320 (d : Nat) (S : AS) (F : AF) (G : AG) (Q : AQ) (a1 : Int) (a2 : Int) (a3 : Int) (a4 : Int) (a5 : Int) (a6 : Int) (a7 : Int) (a8 : Int) : Prop :=
  ((6 ≤ a8) →
    (1 ≤ d) ∧
    ∃ z6 : Int, Pu (d - 1) MX10_sumOf [vR 53, vI a1, vI a2, vI a3, vI a4, vI a5] S F G (some (vJ z6)) ∧
    Ok (d - 1) MX10_comesAcross [vR 53] S F G (fun w8 S9 F10 G11 =>
    S9 = S ∧
    w8 = none ∧
    Ok (d - 1) MX10_comesAll [vR 53, vI 1] S F10 G11 (fun w12 S13 F14 G15 =>
    S13 = S ∧
    w12 = none ∧
    Go d MX10_move 513 [some (vR 53), some (vI a1), some (vI a2), some (vI a3), some (vI a4), some (vI a5), some (vI a6), some (vI a7), some (vJ z6), none, some (vI 0), none, none, none] [] S F14 G15 Q))) ∧
  ((¬ 6 ≤ a8) →
    ((0 : Int) ≤ a8) ∧
    ((a8 : Int) < 6) ∧
    ((¬ G 65 a8 = 0) →
      (r32 (a2 + a6)) ∧
      (r32 (a3 + a7)) ∧
      (r32 (a4 + a6)) ∧
      (r32 (a5 + a7)) ∧
      (1 ≤ d) ∧
      Ok (d - 1) MX10_meets [vR 53, vI a8, vI (a2 + a6), vI (a3 + a7), vI (a4 + a6), vI (a5 + a7)] S F G (fun w23 S24 F25 G26 =>
      S24 = S ∧
      ∃ z27 : Int, w23 = some (vI z27) ∧
      ((z27 = 0) →
        V_X10_move_404 d S F25 G26 Q a1 a2 a3 a4 a5 a6 a7 a8 0) ∧
      ((¬ z27 = 0) →
        (r32 ((F25 53 24) - a6)) ∧
        (r32 ((F25 53 25) - a7)) ∧
        (r32 ((F25 53 26) - a6)) ∧
        (r32 ((F25 53 27) - a7)) ∧
        ∃ z36 : Int, Pu (d - 1) MX10_sumOf [vR 53, vI a1, vI ((F25 53 24) - a6), vI ((F25 53 25) - a7), vI ((F25 53 26) - a6), vI ((F25 53 27) - a7)] S F25 G26 (some (vJ z36)) ∧
        V_X10_move_404 d S F25 G26 Q a1 a2 a3 a4 a5 a6 a7 a8 z36))) ∧
    ((G 65 a8 = 0) →
      V_X10_move_482 d S F G Q a1 a2 a3 a4 a5 a6 a7 a8))
theorem R_X10_move_320 {d : Nat} {S : AS} {F : AF} {G : AG} {Q : AQ} {a1 : Int} {a2 : Int} {a3 : Int} {a4 : Int} {a5 : Int} {a6 : Int} {a7 : Int} {a8 : Int} (hsm : ShM S) (h : V_X10_move_320 d S F G Q a1 a2 a3 a4 a5 a6 a7 a8) : Go d MX10_move 320 [some (vR 53), some (vI a1), some (vI a2), some (vI a3), some (vI a4), some (vI a5), some (vI a6), some (vI a7), some (vI a8), none, none, none, none, none] [] S F G Q := by
  unfold V_X10_move_320 at h
  refine go_iload (show decode cX10_move 320 = .ok (.iload 8, 2) by decide +kernel) (by rfl) ?_
  refine go_bipush (show decode cX10_move 322 = .ok (.bipush 6, 2) by decide +kernel) (by decide) ?_
  obtain ⟨ht, hf⟩ := h
  refine go_icmpge (tgt := 488) (show decode cX10_move 324 = .ok (.if_icmp .ge 164, 3) by decide +kernel) (by decide) (fun hc => ?_) (fun hc => ?_)
  · have h := ht hc
    refine go_aload_n (show decode cX10_move 488 = .ok (.aload_n 0, 1) by decide +kernel) (by rfl) ?_
    refine go_iload_n (show decode cX10_move 489 = .ok (.iload_n 1, 1) by decide +kernel) (by rfl) ?_
    refine go_iload_n (show decode cX10_move 490 = .ok (.iload_n 2, 1) by decide +kernel) (by rfl) ?_
    refine go_iload_n (show decode cX10_move 491 = .ok (.iload_n 3, 1) by decide +kernel) (by rfl) ?_
    refine go_iload (show decode cX10_move 492 = .ok (.iload 4, 2) by decide +kernel) (by rfl) ?_
    refine go_iload (show decode cX10_move 494 = .ok (.iload 5, 2) by decide +kernel) (by rfl) ?_
    obtain ⟨q1, h⟩ := h
    obtain ⟨z6, p7, h⟩ := h
    refine go_callV (d2 := d - 1) (M2 := MX10_sumOf) (n := 5) (ci := 10) (av := [vI a1, vI a2, vI a3, vI a4, vI a5]) (st := []) (show decode cX10_move 496 = .ok (.invokevirtual 251, 3) by decide +kernel) ml_X10_251 mt_X10_sumOf min_X10_sumOf mse_X10_sumOf (by decide) (shm_k hsm 53 (by decide) (by decide)) rfl (Nat.le_of_ble_eq_true rfl) (by omega) (ok_mono p7 (fun w2 S3 F4 G5 e9 => ?_))
    obtain ⟨e1, e2, e3, e4⟩ := e9
    subst e1
    replace e2 := e2.symm; subst e2
    replace e3 := e3.symm; subst e3
    replace e4 := e4.symm; subst e4
    show Go d MX10_move 499 [some (vR 53), some (vI a1), some (vI a2), some (vI a3), some (vI a4), some (vI a5), some (vI a6), some (vI a7), some (vI a8), none, none, none, none, none] [vJ z6] S F G Q
    refine go_lstore (show decode cX10_move 499 = .ok (.lstore 8, 2) by decide +kernel) (by decide) ?_
    show Go d MX10_move 501 [some (vR 53), some (vI a1), some (vI a2), some (vI a3), some (vI a4), some (vI a5), some (vI a6), some (vI a7), some (vJ z6), none, none, none, none, none] [] S F G Q
    refine go_aload_n (show decode cX10_move 501 = .ok (.aload_n 0, 1) by decide +kernel) (by rfl) ?_
    refine go_callV (d2 := d - 1) (M2 := MX10_comesAcross) (n := 0) (ci := 10) (av := []) (st := []) (show decode cX10_move 502 = .ok (.invokevirtual 298, 3) by decide +kernel) ml_X10_298 mt_X10_comesAcross min_X10_comesAcross mse_X10_comesAcross (by decide) (shm_k hsm 53 (by decide) (by decide)) rfl (Nat.le_of_ble_eq_true rfl) (by omega) (ok_mono h (fun w8 S9 F10 G11 h => ?_))
    obtain ⟨e8, h⟩ := h
    replace e8 := e8.symm; subst e8
    obtain ⟨e9, h⟩ := h
    subst e9
    show Go d MX10_move 505 [some (vR 53), some (vI a1), some (vI a2), some (vI a3), some (vI a4), some (vI a5), some (vI a6), some (vI a7), some (vJ z6), none, none, none, none, none] [] S F10 G11 Q
    refine go_aload_n (show decode cX10_move 505 = .ok (.aload_n 0, 1) by decide +kernel) (by rfl) ?_
    refine go_iconst (show decode cX10_move 506 = .ok (.iconst 1, 1) by decide +kernel) (by decide) ?_
    refine go_callV (d2 := d - 1) (M2 := MX10_comesAll) (n := 1) (ci := 10) (av := [vI 1]) (st := []) (show decode cX10_move 507 = .ok (.invokevirtual 301, 3) by decide +kernel) ml_X10_301 mt_X10_comesAll min_X10_comesAll mse_X10_comesAll (by decide) (shm_k hsm 53 (by decide) (by decide)) rfl (Nat.le_of_ble_eq_true rfl) (by omega) (ok_mono h (fun w12 S13 F14 G15 h => ?_))
    obtain ⟨e8, h⟩ := h
    replace e8 := e8.symm; subst e8
    obtain ⟨e9, h⟩ := h
    subst e9
    show Go d MX10_move 510 [some (vR 53), some (vI a1), some (vI a2), some (vI a3), some (vI a4), some (vI a5), some (vI a6), some (vI a7), some (vJ z6), none, none, none, none, none] [] S F14 G15 Q
    refine go_iconst (show decode cX10_move 510 = .ok (.iconst 0, 1) by decide +kernel) (by decide) ?_
    refine go_istore (show decode cX10_move 511 = .ok (.istore 10, 2) by decide +kernel) (by decide) ?_
    show Go d MX10_move 513 [some (vR 53), some (vI a1), some (vI a2), some (vI a3), some (vI a4), some (vI a5), some (vI a6), some (vI a7), some (vJ z6), none, some (vI 0), none, none, none] [] S F14 G15 Q
    exact h
  · have h := hf hc
    refine go_aload_n (show decode cX10_move 327 = .ok (.aload_n 0, 1) by decide +kernel) (by rfl) ?_
    refine go_getRc (show decode cX10_move 328 = .ok (.getfield 61, 3) by decide +kernel) fl_X10_61 rfl (shm_k hsm 53 (by decide) (by decide)) (v := 65) (shm_r hsm 53 17 (by decide) (by decide)) ?_
    refine go_iload (show decode cX10_move 331 = .ok (.iload 8, 2) by decide +kernel) (by rfl) ?_
    obtain ⟨q16, h⟩ := h
    obtain ⟨q17, h⟩ := h
    refine go_zaload (show decode cX10_move 333 = .ok (.baload, 1) by decide +kernel) (shm_k hsm 65 (by decide) (by decide)) q16 (lt_n (m := 6) q17 (shm_n hsm 65 (by decide) (by decide))) ?_
    obtain ⟨ht, hf⟩ := h
    refine go_ifne (tgt := 340) (show decode cX10_move 334 = .ok (.ifCond .ne 6, 3) by decide +kernel) (by decide) (fun hc => ?_) (fun hc => ?_)
    · have h := ht hc
      refine go_aload_n (show decode cX10_move 340 = .ok (.aload_n 0, 1) by decide +kernel) (by rfl) ?_
      refine go_iload (show decode cX10_move 341 = .ok (.iload 8, 2) by decide +kernel) (by rfl) ?_
      refine go_iload_n (show decode cX10_move 343 = .ok (.iload_n 2, 1) by decide +kernel) (by rfl) ?_
      refine go_iload (show decode cX10_move 344 = .ok (.iload 6, 2) by decide +kernel) (by rfl) ?_
      obtain ⟨q18, h⟩ := h
      refine go_iadd (show decode cX10_move 346 = .ok (.iadd, 1) by decide +kernel) q18 ?_
      refine go_iload_n (show decode cX10_move 347 = .ok (.iload_n 3, 1) by decide +kernel) (by rfl) ?_
      refine go_iload (show decode cX10_move 348 = .ok (.iload 7, 2) by decide +kernel) (by rfl) ?_
      obtain ⟨q19, h⟩ := h
      refine go_iadd (show decode cX10_move 350 = .ok (.iadd, 1) by decide +kernel) q19 ?_
      refine go_iload (show decode cX10_move 351 = .ok (.iload 4, 2) by decide +kernel) (by rfl) ?_
      refine go_iload (show decode cX10_move 353 = .ok (.iload 6, 2) by decide +kernel) (by rfl) ?_
      obtain ⟨q20, h⟩ := h
      refine go_iadd (show decode cX10_move 355 = .ok (.iadd, 1) by decide +kernel) q20 ?_
      refine go_iload (show decode cX10_move 356 = .ok (.iload 5, 2) by decide +kernel) (by rfl) ?_
      refine go_iload (show decode cX10_move 358 = .ok (.iload 7, 2) by decide +kernel) (by rfl) ?_
      obtain ⟨q21, h⟩ := h
      refine go_iadd (show decode cX10_move 360 = .ok (.iadd, 1) by decide +kernel) q21 ?_
      obtain ⟨q22, h⟩ := h
      refine go_callV (d2 := d - 1) (M2 := MX10_meets) (n := 5) (ci := 10) (av := [vI a8, vI (a2 + a6), vI (a3 + a7), vI (a4 + a6), vI (a5 + a7)]) (st := []) (show decode cX10_move 361 = .ok (.invokevirtual 184, 3) by decide +kernel) ml_X10_184 mt_X10_meets min_X10_meets mse_X10_meets (by decide) (shm_k hsm 53 (by decide) (by decide)) rfl (Nat.le_of_ble_eq_true rfl) (by omega) (ok_mono h (fun w23 S24 F25 G26 h => ?_))
      obtain ⟨e8, h⟩ := h
      replace e8 := e8.symm; subst e8
      obtain ⟨z27, e9, h⟩ := h
      subst e9
      show Go d MX10_move 364 [some (vR 53), some (vI a1), some (vI a2), some (vI a3), some (vI a4), some (vI a5), some (vI a6), some (vI a7), some (vI a8), none, none, none, none, none] [vI z27] S F25 G26 Q
      obtain ⟨ht, hf⟩ := h
      refine go_ifeq (tgt := 403) (show decode cX10_move 364 = .ok (.ifCond .eq 39, 3) by decide +kernel) (by decide) (fun hc => ?_) (fun hc => ?_)
      · have h := ht hc
        refine go_lconst (n := 0) (show decode cX10_move 403 = .ok (.lconst 0, 1) by decide +kernel) ?_
        show Go d MX10_move 404 [some (vR 53), some (vI a1), some (vI a2), some (vI a3), some (vI a4), some (vI a5), some (vI a6), some (vI a7), some (vI a8), none, none, none, none, none] [vJ 0] S F25 G26 Q
        exact R_X10_move_404 hsm h
      · have h := hf hc
        refine go_aload_n (show decode cX10_move 367 = .ok (.aload_n 0, 1) by decide +kernel) (by rfl) ?_
        refine go_iload_n (show decode cX10_move 368 = .ok (.iload_n 1, 1) by decide +kernel) (by rfl) ?_
        refine go_aload_n (show decode cX10_move 369 = .ok (.aload_n 0, 1) by decide +kernel) (by rfl) ?_
        refine go_getI (show decode cX10_move 370 = .ok (.getfield 239, 3) by decide +kernel) fl_X10_239 (Or.inl rfl) (shm_k hsm 53 (by decide) (by decide)) ?_
        refine go_iload (show decode cX10_move 373 = .ok (.iload 6, 2) by decide +kernel) (by rfl) ?_
        obtain ⟨q28, h⟩ := h
        refine go_isub (show decode cX10_move 375 = .ok (.isub, 1) by decide +kernel) q28 ?_
        refine go_aload_n (show decode cX10_move 376 = .ok (.aload_n 0, 1) by decide +kernel) (by rfl) ?_
        refine go_getI (show decode cX10_move 377 = .ok (.getfield 242, 3) by decide +kernel) fl_X10_242 (Or.inl rfl) (shm_k hsm 53 (by decide) (by decide)) ?_
        refine go_iload (show decode cX10_move 380 = .ok (.iload 7, 2) by decide +kernel) (by rfl) ?_
        obtain ⟨q29, h⟩ := h
        refine go_isub (show decode cX10_move 382 = .ok (.isub, 1) by decide +kernel) q29 ?_
        refine go_aload_n (show decode cX10_move 383 = .ok (.aload_n 0, 1) by decide +kernel) (by rfl) ?_
        refine go_getI (show decode cX10_move 384 = .ok (.getfield 245, 3) by decide +kernel) fl_X10_245 (Or.inl rfl) (shm_k hsm 53 (by decide) (by decide)) ?_
        refine go_iload (show decode cX10_move 387 = .ok (.iload 6, 2) by decide +kernel) (by rfl) ?_
        obtain ⟨q30, h⟩ := h
        refine go_isub (show decode cX10_move 389 = .ok (.isub, 1) by decide +kernel) q30 ?_
        refine go_aload_n (show decode cX10_move 390 = .ok (.aload_n 0, 1) by decide +kernel) (by rfl) ?_
        refine go_getI (show decode cX10_move 391 = .ok (.getfield 248, 3) by decide +kernel) fl_X10_248 (Or.inl rfl) (shm_k hsm 53 (by decide) (by decide)) ?_
        refine go_iload (show decode cX10_move 394 = .ok (.iload 7, 2) by decide +kernel) (by rfl) ?_
        obtain ⟨q31, h⟩ := h
        refine go_isub (show decode cX10_move 396 = .ok (.isub, 1) by decide +kernel) q31 ?_
        obtain ⟨z36, p37, h⟩ := h
        refine go_callV (d2 := d - 1) (M2 := MX10_sumOf) (n := 5) (ci := 10) (av := [vI a1, vI ((F25 53 24) - a6), vI ((F25 53 25) - a7), vI ((F25 53 26) - a6), vI ((F25 53 27) - a7)]) (st := []) (show decode cX10_move 397 = .ok (.invokevirtual 251, 3) by decide +kernel) ml_X10_251 mt_X10_sumOf min_X10_sumOf mse_X10_sumOf (by decide) (shm_k hsm 53 (by decide) (by decide)) rfl (Nat.le_of_ble_eq_true rfl) (by omega) (ok_mono p37 (fun w32 S33 F34 G35 e9 => ?_))
        obtain ⟨e1, e2, e3, e4⟩ := e9
        subst e1
        replace e2 := e2.symm; subst e2
        replace e3 := e3.symm; subst e3
        replace e4 := e4.symm; subst e4
        show Go d MX10_move 400 [some (vR 53), some (vI a1), some (vI a2), some (vI a3), some (vI a4), some (vI a5), some (vI a6), some (vI a7), some (vI a8), none, none, none, none, none] [vJ z36] S F25 G26 Q
        refine go_goto (tgt := 404) (show decode cX10_move 400 = .ok (.goto 4, 3) by decide +kernel) (by decide) ?_
        exact R_X10_move_404 hsm h
    · have h := hf hc
      refine go_goto (tgt := 482) (show decode cX10_move 337 = .ok (.goto 145, 3) by decide +kernel) (by decide) ?_
      exact R_X10_move_482 hsm h
def V_X10_move_305 (d : Nat) (S : AS) (F : AF) (G : AG) (Q : AQ) (a1 : Int) (a2 : Int) (a3 : Int) (a4 : Int) (a5 : Int) (a6 : Int) (a7 : Int) (a8 : Int) (a9 : Int) (a10 : Int) (a11 : Int) : Prop :=
  (r32 (a9 + 1)) ∧
  Go d MX10_move 177 [some (vR 53), some (vI a1), some (vI a2), some (vI a3), some (vI a4), some (vI a5), some (vI a6), some (vI a7), some (vI a8), some (vI (a9 + 1)), none, none, none, none] [] S F G Q
theorem R_X10_move_305 {d : Nat} {S : AS} {F : AF} {G : AG} {Q : AQ} {a1 : Int} {a2 : Int} {a3 : Int} {a4 : Int} {a5 : Int} {a6 : Int} {a7 : Int} {a8 : Int} {a9 : Int} {a10 : Int} {a11 : Int} (hsm : ShM S) (h : V_X10_move_305 d S F G Q a1 a2 a3 a4 a5 a6 a7 a8 a9 a10 a11) : Go d MX10_move 305 [some (vR 53), some (vI a1), some (vI a2), some (vI a3), some (vI a4), some (vI a5), some (vI a6), some (vI a7), some (vI a8), some (vI a9), some (vI a10), some (vI a11), none, none] [] S F G Q := by
  unfold V_X10_move_305 at h
  obtain ⟨q1, h⟩ := h
  refine go_iinc (show decode cX10_move 305 = .ok (.iinc 9 1, 3) by decide +kernel) (by rfl) q1 (by decide) ?_
  show Go d MX10_move 308 [some (vR 53), some (vI a1), some (vI a2), some (vI a3), some (vI a4), some (vI a5), some (vI a6), some (vI a7), some (vI a8), some (vI (a9 + 1)), some (vI a10), some (vI a11), none, none] [] S F G Q
  refine go_goto (tgt := 177) (show decode cX10_move 308 = .ok (.goto (-131), 3) by decide +kernel) (by decide) ?_
  refine go_clr 10 ?_
  refine go_clr 11 ?_
  exact h
def V_X10_move_278 (d : Nat) (S : AS) (F : AF) (G : AG) (Q : AQ) (a1 : Int) (a2 : Int) (a3 : Int) (a4 : Int) (a5 : Int) (a6 : Int) (a7 : Int) (a8 : Int) (a9 : Int) (a10 : Int) (a11 : Int) (s0 : Int) (s1 : Int) : Prop :=
  (r64 (s1 - s0)) ∧
  ∀ x2 : Int, x2 = s1 - s0 →
  (1 ≤ d) ∧
  ∃ z8 : Int, Pu (d - 1) MX10_cell [vR 53, vI (-1), vI a10, vI a11] S F G (some (vJ z8)) ∧
  (r64 (z8 + x2)) ∧
  ((z8 + x2 ≤ F 53 3) →
    V_X10_move_305 d S F G Q a1 a2 a3 a4 a5 a6 a7 a8 a9 a10 a11) ∧
  ((¬ z8 + x2 ≤ F 53 3) →
    Q (some (vJ (-7))) S F G)
theorem R_X10_move_278 {d : Nat} {S : AS} {F : AF} {G : AG} {Q : AQ} {a1 : Int} {a2 : Int} {a3 : Int} {a4 : Int} {a5 : Int} {a6 : Int} {a7 : Int} {a8 : Int} {a9 : Int} {a10 : Int} {a11 : Int} {s0 : Int} {s1 : Int} (hsm : ShM S) (h : V_X10_move_278 d S F G Q a1 a2 a3 a4 a5 a6 a7 a8 a9 a10 a11 s0 s1) : Go d MX10_move 278 [some (vR 53), some (vI a1), some (vI a2), some (vI a3), some (vI a4), some (vI a5), some (vI a6), some (vI a7), some (vI a8), some (vI a9), some (vI a10), some (vI a11), none, none] [vJ s0, vJ s1] S F G Q := by
  unfold V_X10_move_278 at h
  obtain ⟨q1, h⟩ := h
  refine go_lsub (show decode cX10_move 278 = .ok (.lsub, 1) by decide +kernel) q1 ?_
  obtain ⟨x2, x2e⟩ : ∃ x2 : Int, x2 = s1 - s0 := ⟨_, rfl⟩
  have h := h x2 x2e
  rw [← x2e]
  refine go_lstore (show decode cX10_move 279 = .ok (.lstore 12, 2) by decide +kernel) (by decide) ?_
  show Go d MX10_move 281 [some (vR 53), some (vI a1), some (vI a2), some (vI a3), some (vI a4), some (vI a5), some (vI a6), some (vI a7), some (vI a8), some (vI a9), some (vI a10), some (vI a11), some (vJ x2), none] [] S F G Q
  refine go_aload_n (show decode cX10_move 281 = .ok (.aload_n 0, 1) by decide +kernel) (by rfl) ?_
  refine go_iconst (show decode cX10_move 282 = .ok (.iconst (-1), 1) by decide +kernel) (by decide) ?_
  refine go_iload (show decode cX10_move 283 = .ok (.iload 10, 2) by decide +kernel) (by rfl) ?_
  refine go_iload (show decode cX10_move 285 = .ok (.iload 11, 2) by decide +kernel) (by rfl) ?_
  obtain ⟨q3, h⟩ := h
  obtain ⟨z8, p9, h⟩ := h
  refine go_callV (d2 := d - 1) (M2 := MX10_cell) (n := 3) (ci := 10) (av := [vI (-1), vI a10, vI a11]) (st := []) (show decode cX10_move 287 = .ok (.invokevirtual 293, 3) by decide +kernel) ml_X10_293 mt_X10_cell min_X10_cell mse_X10_cell (by decide) (shm_k hsm 53 (by decide) (by decide)) rfl (Nat.le_of_ble_eq_true rfl) (by omega) (ok_mono p9 (fun w4 S5 F6 G7 e9 => ?_))
  obtain ⟨e1, e2, e3, e4⟩ := e9
  subst e1
  replace e2 := e2.symm; subst e2
  replace e3 := e3.symm; subst e3
  replace e4 := e4.symm; subst e4
  show Go d MX10_move 290 [some (vR 53), some (vI a1), some (vI a2), some (vI a3), some (vI a4), some (vI a5), some (vI a6), some (vI a7), some (vI a8), some (vI a9), some (vI a10), some (vI a11), some (vJ x2), none] [vJ z8] S F G Q
  refine go_lload (show decode cX10_move 290 = .ok (.lload 12, 2) by decide +kernel) (by rfl) ?_
  obtain ⟨q10, h⟩ := h
  refine go_ladd (show decode cX10_move 292 = .ok (.ladd, 1) by decide +kernel) q10 ?_
  refine go_aload_n (show decode cX10_move 293 = .ok (.aload_n 0, 1) by decide +kernel) (by rfl) ?_
  refine go_getJ (show decode cX10_move 294 = .ok (.getfield 21, 3) by decide +kernel) fl_X10_21 rfl (shm_k hsm 53 (by decide) (by decide)) ?_
  obtain ⟨ht, hf⟩ := h
  refine go_jle (tgt := 305) (show decode cX10_move 297 = .ok (.lcmp, 1) by decide +kernel) (show decode cX10_move 298 = .ok (.ifCond .le 7, 3) by decide +kernel) (by decide) (fun hc => ?_) (fun hc => ?_)
  · have h := ht hc
    refine go_clr 12 ?_
    exact R_X10_move_305 hsm h
  · have h := hf hc
    refine go_ldc2 (show decode cX10_move 301 = .ok (.ldc2_w 296, 3) by decide +kernel) lc_X10_296 (by decide) ?_
    exact go_lret (show decode cX10_move 304 = .ok (.lreturn, 1) by decide +kernel) rfl h
def V_X10_move_177 (d : Nat) (S : AS) (F : AF) (G : AG) (Q : AQ) (a1 : Int) (a2 : Int) (a3 : Int) (a4 : Int) (a5 : Int) (a6 : Int) (a7 : Int) (a8 : Int) (a9 : Int) : Prop :=
  ((G 69 1 ≤ a9) →
    (r32 (a8 + 1)) ∧
    Go d MX10_move 163 [some (vR 53), some (vI a1), some (vI a2), some (vI a3), some (vI a4), some (vI a5), some (vI a6), some (vI a7), some (vI (a8 + 1)), none, none, none, none, none] [] S F G Q) ∧
  ((¬ G 69 1 ≤ a9) →
    ((0 : Int) ≤ a8) ∧
    ((a8 : Int) < 96) ∧
    ∀ x4 : Int, x4 = G 68 a8 →
    (r32 (48 + a9)) ∧
    ((0 : Int) ≤ 48 + a9) ∧
    ((48 + a9 : Int) < 96) ∧
    ∀ x8 : Int, x8 = G 68 (48 + a9) →
    (r32 (x4 - a6)) ∧
    (r32 (x8 - a7)) ∧
    (1 ≤ d) ∧
    ∃ z16 : Int, Pu (d - 1) MX10_isInside [vI (x4 - a6), vI (x8 - a7), vI a2, vI a3, vI a4, vI a5] S F G (some (vI z16)) ∧
    ((¬ z16 = 0) →
      ∃ z22 : Int, Pu (d - 1) MX10_cell [vR 53, vI a1, vI (x4 - a6), vI (x8 - a7)] S F G (some (vJ z22)) ∧
      ∃ z28 : Int, Pu (d - 1) MX10_isInside [vI x4, vI x8, vI a2, vI a3, vI a4, vI a5] S F G (some (vI z28)) ∧
      ((z28 = 0) →
        V_X10_move_278 d S F G Q a1 a2 a3 a4 a5 a6 a7 a8 a9 x4 x8 0 z22) ∧
      ((¬ z28 = 0) →
        ∃ z34 : Int, Pu (d - 1) MX10_cell [vR 53, vI a1, vI x4, vI x8] S F G (some (vJ z34)) ∧
        V_X10_move_278 d S F G Q a1 a2 a3 a4 a5 a6 a7 a8 a9 x4 x8 z34 z22)) ∧
    ((z16 = 0) →
      V_X10_move_305 d S F G Q a1 a2 a3 a4 a5 a6 a7 a8 a9 x4 x8))
theorem R_X10_move_177 {d : Nat} {S : AS} {F : AF} {G : AG} {Q : AQ} {a1 : Int} {a2 : Int} {a3 : Int} {a4 : Int} {a5 : Int} {a6 : Int} {a7 : Int} {a8 : Int} {a9 : Int} (hsm : ShM S) (h : V_X10_move_177 d S F G Q a1 a2 a3 a4 a5 a6 a7 a8 a9) : Go d MX10_move 177 [some (vR 53), some (vI a1), some (vI a2), some (vI a3), some (vI a4), some (vI a5), some (vI a6), some (vI a7), some (vI a8), some (vI a9), none, none, none, none] [] S F G Q := by
  unfold V_X10_move_177 at h
  refine go_iload (show decode cX10_move 177 = .ok (.iload 9, 2) by decide +kernel) (by rfl) ?_
  refine go_aload_n (show decode cX10_move 179 = .ok (.aload_n 0, 1) by decide +kernel) (by rfl) ?_
  refine go_getRc (show decode cX10_move 180 = .ok (.getfield 74, 3) by decide +kernel) fl_X10_74 rfl (shm_k hsm 53 (by decide) (by decide)) (v := 69) (shm_r hsm 53 29 (by decide) (by decide)) ?_
  refine go_iconst (show decode cX10_move 183 = .ok (.iconst 1, 1) by decide +kernel) (by decide) ?_
  refine go_iaload (show decode cX10_move 184 = .ok (.iaload, 1) by decide +kernel) (shm_k hsm 69 (by decide) (by decide)) (by decide) (lt_n (m := 2) (by decide) (shm_n hsm 69 (by decide) (by decide))) ?_
  obtain ⟨ht, hf⟩ := h
  refine go_icmpge (tgt := 311) (show decode cX10_move 185 = .ok (.if_icmp .ge 126, 3) by decide +kernel) (by decide) (fun hc => ?_) (fun hc => ?_)
  · have h := ht hc
    obtain ⟨q1, h⟩ := h
    refine go_iinc (show decode cX10_move 311 = .ok (.iinc 8 1, 3) by decide +kernel) (by rfl) q1 (by decide) ?_
    show Go d MX10_move 314 [some (vR 53), some (vI a1), some (vI a2), some (vI a3), some (vI a4), some (vI a5), some (vI a6), some (vI a7), some (vI (a8 + 1)), some (vI a9), none, none, none, none] [] S F G Q
    refine go_goto (tgt := 163) (show decode cX10_move 314 = .ok (.goto (-151), 3) by decide +kernel) (by decide) ?_
    refine go_clr 9 ?_
    exact h
  · have h := hf hc
    refine go_aload_n (show decode cX10_move 188 = .ok (.aload_n 0, 1) by decide +kernel) (by rfl) ?_
    refine go_getRc (show decode cX10_move 189 = .ok (.getfield 71, 3) by decide +kernel) fl_X10_71 rfl (shm_k hsm 53 (by decide) (by decide)) (v := 68) (shm_r hsm 53 28 (by decide) (by decide)) ?_
    refine go_iload (show decode cX10_move 192 = .ok (.iload 8, 2) by decide +kernel) (by rfl) ?_
    obtain ⟨q2, h⟩ := h
    obtain ⟨q3, h⟩ := h
    refine go_iaload (show decode cX10_move 194 = .ok (.iaload, 1) by decide +kernel) (shm_k hsm 68 (by decide) (by decide)) q2 (lt_n (m := 96) q3 (shm_n hsm 68 (by decide) (by decide))) ?_
    obtain ⟨x4, x4e⟩ : ∃ x4 : Int, x4 = G 68 a8 := ⟨_, rfl⟩
    have h := h x4 x4e
    rw [← x4e]
    refine go_istore (show decode cX10_move 195 = .ok (.istore 10, 2) by decide +kernel) (by decide) ?_
    show Go d MX10_move 197 [some (vR 53), some (vI a1), some (vI a2), some (vI a3), some (vI a4), some (vI a5), some (vI a6), some (vI a7), some (vI a8), some (vI a9), some (vI x4), none, none, none] [] S F G Q
    refine go_aload_n (show decode cX10_move 197 = .ok (.aload_n 0, 1) by decide +kernel) (by rfl) ?_
    refine go_getRc (show decode cX10_move 198 = .ok (.getfield 71, 3) by decide +kernel) fl_X10_71 rfl (shm_k hsm 53 (by decide) (by decide)) (v := 68) (shm_r hsm 53 28 (by decide) (by decide)) ?_
    refine go_bipush (show decode cX10_move 201 = .ok (.bipush 48, 2) by decide +kernel) (by decide) ?_
    refine go_iload (show decode cX10_move 203 = .ok (.iload 9, 2) by decide +kernel) (by rfl) ?_
    obtain ⟨q5, h⟩ := h
    refine go_iadd (show decode cX10_move 205 = .ok (.iadd, 1) by decide +kernel) q5 ?_
    obtain ⟨q6, h⟩ := h
    obtain ⟨q7, h⟩ := h
    refine go_iaload (show decode cX10_move 206 = .ok (.iaload, 1) by decide +kernel) (shm_k hsm 68 (by decide) (by decide)) q6 (lt_n (m := 96) q7 (shm_n hsm 68 (by decide) (by decide))) ?_
    obtain ⟨x8, x8e⟩ : ∃ x8 : Int, x8 = G 68 (48 + a9) := ⟨_, rfl⟩
    have h := h x8 x8e
    rw [← x8e]
    refine go_istore (show decode cX10_move 207 = .ok (.istore 11, 2) by decide +kernel) (by decide) ?_
    show Go d MX10_move 209 [some (vR 53), some (vI a1), some (vI a2), some (vI a3), some (vI a4), some (vI a5), some (vI a6), some (vI a7), some (vI a8), some (vI a9), some (vI x4), some (vI x8), none, none] [] S F G Q
    refine go_iload (show decode cX10_move 209 = .ok (.iload 10, 2) by decide +kernel) (by rfl) ?_
    refine go_iload (show decode cX10_move 211 = .ok (.iload 6, 2) by decide +kernel) (by rfl) ?_
    obtain ⟨q9, h⟩ := h
    refine go_isub (show decode cX10_move 213 = .ok (.isub, 1) by decide +kernel) q9 ?_
    refine go_iload (show decode cX10_move 214 = .ok (.iload 11, 2) by decide +kernel) (by rfl) ?_
    refine go_iload (show decode cX10_move 216 = .ok (.iload 7, 2) by decide +kernel) (by rfl) ?_
    obtain ⟨q10, h⟩ := h
    refine go_isub (show decode cX10_move 218 = .ok (.isub, 1) by decide +kernel) q10 ?_
    refine go_iload_n (show decode cX10_move 219 = .ok (.iload_n 2, 1) by decide +kernel) (by rfl) ?_
    refine go_iload_n (show decode cX10_move 220 = .ok (.iload_n 3, 1) by decide +kernel) (by rfl) ?_
    refine go_iload (show decode cX10_move 221 = .ok (.iload 4, 2) by decide +kernel) (by rfl) ?_
    refine go_iload (show decode cX10_move 223 = .ok (.iload 5, 2) by decide +kernel) (by rfl) ?_
    obtain ⟨q11, h⟩ := h
    obtain ⟨z16, p17, h⟩ := h
    refine go_callS (d2 := d - 1) (M2 := MX10_isInside) (n := 6) (av := [vI (x4 - a6), vI (x8 - a7), vI a2, vI a3, vI a4, vI a5]) (st := []) (show decode cX10_move 225 = .ok (.invokestatic 289, 3) by decide +kernel) ml_X10_289 mt_X10_isInside mst_X10_isInside rfl (Nat.le_of_ble_eq_true rfl) (by omega) (ok_mono p17 (fun w12 S13 F14 G15 e9 => ?_))
    obtain ⟨e1, e2, e3, e4⟩ := e9
    subst e1
    replace e2 := e2.symm; subst e2
    replace e3 := e3.symm; subst e3
    replace e4 := e4.symm; subst e4
    show Go d MX10_move 228 [some (vR 53), some (vI a1), some (vI a2), some (vI a3), some (vI a4), some (vI a5), some (vI a6), some (vI a7), some (vI a8), some (vI a9), some (vI x4), some (vI x8), none, none] [vI z16] S F G Q
    obtain ⟨ht, hf⟩ := h
    refine go_ifne (tgt := 234) (show decode cX10_move 228 = .ok (.ifCond .ne 6, 3) by decide +kernel) (by decide) (fun hc => ?_) (fun hc => ?_)
    · have h := ht hc
      refine go_aload_n (show decode cX10_move 234 = .ok (.aload_n 0, 1) by decide +kernel) (by rfl) ?_
      refine go_iload_n (show decode cX10_move 235 = .ok (.iload_n 1, 1) by decide +kernel) (by rfl) ?_
      refine go_iload (show decode cX10_move 236 = .ok (.iload 10, 2) by decide +kernel) (by rfl) ?_
      refine go_iload (show decode cX10_move 238 = .ok (.iload 6, 2) by decide +kernel) (by rfl) ?_
      refine go_isub (show decode cX10_move 240 = .ok (.isub, 1) by decide +kernel) q9 ?_
      refine go_iload (show decode cX10_move 241 = .ok (.iload 11, 2) by decide +kernel) (by rfl) ?_
      refine go_iload (show decode cX10_move 243 = .ok (.iload 7, 2) by decide +kernel) (by rfl) ?_
      refine go_isub (show decode cX10_move 245 = .ok (.isub, 1) by decide +kernel) q10 ?_
      obtain ⟨z22, p23, h⟩ := h
      refine go_callV (d2 := d - 1) (M2 := MX10_cell) (n := 3) (ci := 10) (av := [vI a1, vI (x4 - a6), vI (x8 - a7)]) (st := []) (show decode cX10_move 246 = .ok (.invokevirtual 293, 3) by decide +kernel) ml_X10_293 mt_X10_cell min_X10_cell mse_X10_cell (by decide) (shm_k hsm 53 (by decide) (by decide)) rfl (Nat.le_of_ble_eq_true rfl) (by omega) (ok_mono p23 (fun w18 S19 F20 G21 e9 => ?_))
      obtain ⟨e1, e2, e3, e4⟩ := e9
      subst e1
      replace e2 := e2.symm; subst e2
      replace e3 := e3.symm; subst e3
      replace e4 := e4.symm; subst e4
      show Go d MX10_move 249 [some (vR 53), some (vI a1), some (vI a2), some (vI a3), some (vI a4), some (vI a5), some (vI a6), some (vI a7), some (vI a8), some (vI a9), some (vI x4), some (vI x8), none, none] [vJ z22] S F G Q
      refine go_iload (show decode cX10_move 249 = .ok (.iload 10, 2) by decide +kernel) (by rfl) ?_
      refine go_iload (show decode cX10_move 251 = .ok (.iload 11, 2) by decide +kernel) (by rfl) ?_
      refine go_iload_n (show decode cX10_move 253 = .ok (.iload_n 2, 1) by decide +kernel) (by rfl) ?_
      refine go_iload_n (show decode cX10_move 254 = .ok (.iload_n 3, 1) by decide +kernel) (by rfl) ?_
      refine go_iload (show decode cX10_move 255 = .ok (.iload 4, 2) by decide +kernel) (by rfl) ?_
      refine go_iload (show decode cX10_move 257 = .ok (.iload 5, 2) by decide +kernel) (by rfl) ?_
      obtain ⟨z28, p29, h⟩ := h
      refine go_callS (d2 := d - 1) (M2 := MX10_isInside) (n := 6) (av := [vI x4, vI x8, vI a2, vI a3, vI a4, vI a5]) (st := [vJ z22]) (show decode cX10_move 259 = .ok (.invokestatic 289, 3) by decide +kernel) ml_X10_289 mt_X10_isInside mst_X10_isInside rfl (Nat.le_of_ble_eq_true rfl) (by omega) (ok_mono p29 (fun w24 S25 F26 G27 e9 => ?_))
      obtain ⟨e1, e2, e3, e4⟩ := e9
      subst e1
      replace e2 := e2.symm; subst e2
      replace e3 := e3.symm; subst e3
      replace e4 := e4.symm; subst e4
      show Go d MX10_move 262 [some (vR 53), some (vI a1), some (vI a2), some (vI a3), some (vI a4), some (vI a5), some (vI a6), some (vI a7), some (vI a8), some (vI a9), some (vI x4), some (vI x8), none, none] [vI z28, vJ z22] S F G Q
      obtain ⟨ht, hf⟩ := h
      refine go_ifeq (tgt := 277) (show decode cX10_move 262 = .ok (.ifCond .eq 15, 3) by decide +kernel) (by decide) (fun hc => ?_) (fun hc => ?_)
      · have h := ht hc
        refine go_lconst (n := 0) (show decode cX10_move 277 = .ok (.lconst 0, 1) by decide +kernel) ?_
        show Go d MX10_move 278 [some (vR 53), some (vI a1), some (vI a2), some (vI a3), some (vI a4), some (vI a5), some (vI a6), some (vI a7), some (vI a8), some (vI a9), some (vI x4), some (vI x8), none, none] [vJ 0, vJ z22] S F G Q
        exact R_X10_move_278 hsm h
      · have h := hf hc
        refine go_aload_n (show decode cX10_move 265 = .ok (.aload_n 0, 1) by decide +kernel) (by rfl) ?_
        refine go_iload_n (show decode cX10_move 266 = .ok (.iload_n 1, 1) by decide +kernel) (by rfl) ?_
        refine go_iload (show decode cX10_move 267 = .ok (.iload 10, 2) by decide +kernel) (by rfl) ?_
        refine go_iload (show decode cX10_move 269 = .ok (.iload 11, 2) by decide +kernel) (by rfl) ?_
        obtain ⟨z34, p35, h⟩ := h
        refine go_callV (d2 := d - 1) (M2 := MX10_cell) (n := 3) (ci := 10) (av := [vI a1, vI x4, vI x8]) (st := [vJ z22]) (show decode cX10_move 271 = .ok (.invokevirtual 293, 3) by decide +kernel) ml_X10_293 mt_X10_cell min_X10_cell mse_X10_cell (by decide) (shm_k hsm 53 (by decide) (by decide)) rfl (Nat.le_of_ble_eq_true rfl) (by omega) (ok_mono p35 (fun w30 S31 F32 G33 e9 => ?_))
        obtain ⟨e1, e2, e3, e4⟩ := e9
        subst e1
        replace e2 := e2.symm; subst e2
        replace e3 := e3.symm; subst e3
        replace e4 := e4.symm; subst e4
        show Go d MX10_move 274 [some (vR 53), some (vI a1), some (vI a2), some (vI a3), some (vI a4), some (vI a5), some (vI a6), some (vI a7), some (vI a8), some (vI a9), some (vI x4), some (vI x8), none, none] [vJ z34, vJ z22] S F G Q
        refine go_goto (tgt := 278) (show decode cX10_move 274 = .ok (.goto 4, 3) by decide +kernel) (by decide) ?_
        exact R_X10_move_278 hsm h
    · have h := hf hc
      refine go_goto (tgt := 305) (show decode cX10_move 231 = .ok (.goto 74, 3) by decide +kernel) (by decide) ?_
      exact R_X10_move_305 hsm h
def V_X10_move_163 (d : Nat) (S : AS) (F : AF) (G : AG) (Q : AQ) (a1 : Int) (a2 : Int) (a3 : Int) (a4 : Int) (a5 : Int) (a6 : Int) (a7 : Int) (a8 : Int) : Prop :=
  ((G 69 0 ≤ a8) →
    Go d MX10_move 320 [some (vR 53), some (vI a1), some (vI a2), some (vI a3), some (vI a4), some (vI a5), some (vI a6), some (vI a7), some (vI 0), none, none, none, none, none] [] S F G Q) ∧
  ((¬ G 69 0 ≤ a8) →
    Go d MX10_move 177 [some (vR 53), some (vI a1), some (vI a2), some (vI a3), some (vI a4), some (vI a5), some (vI a6), some (vI a7), some (vI a8), some (vI 0), none, none, none, none] [] S F G Q)
theorem R_X10_move_163 {d : Nat} {S : AS} {F : AF} {G : AG} {Q : AQ} {a1 : Int} {a2 : Int} {a3 : Int} {a4 : Int} {a5 : Int} {a6 : Int} {a7 : Int} {a8 : Int} (hsm : ShM S) (h : V_X10_move_163 d S F G Q a1 a2 a3 a4 a5 a6 a7 a8) : Go d MX10_move 163 [some (vR 53), some (vI a1), some (vI a2), some (vI a3), some (vI a4), some (vI a5), some (vI a6), some (vI a7), some (vI a8), none, none, none, none, none] [] S F G Q := by
  unfold V_X10_move_163 at h
  refine go_iload (show decode cX10_move 163 = .ok (.iload 8, 2) by decide +kernel) (by rfl) ?_
  refine go_aload_n (show decode cX10_move 165 = .ok (.aload_n 0, 1) by decide +kernel) (by rfl) ?_
  refine go_getRc (show decode cX10_move 166 = .ok (.getfield 74, 3) by decide +kernel) fl_X10_74 rfl (shm_k hsm 53 (by decide) (by decide)) (v := 69) (shm_r hsm 53 29 (by decide) (by decide)) ?_
  refine go_iconst (show decode cX10_move 169 = .ok (.iconst 0, 1) by decide +kernel) (by decide) ?_
  refine go_iaload (show decode cX10_move 170 = .ok (.iaload, 1) by decide +kernel) (shm_k hsm 69 (by decide) (by decide)) (by decide) (lt_n (m := 2) (by decide) (shm_n hsm 69 (by decide) (by decide))) ?_
  obtain ⟨ht, hf⟩ := h
  refine go_icmpge (tgt := 317) (show decode cX10_move 171 = .ok (.if_icmp .ge 146, 3) by decide +kernel) (by decide) (fun hc => ?_) (fun hc => ?_)
  · have h := ht hc
    refine go_iconst (show decode cX10_move 317 = .ok (.iconst 0, 1) by decide +kernel) (by decide) ?_
    refine go_istore (show decode cX10_move 318 = .ok (.istore 8, 2) by decide +kernel) (by decide) ?_
    show Go d MX10_move 320 [some (vR 53), some (vI a1), some (vI a2), some (vI a3), some (vI a4), some (vI a5), some (vI a6), some (vI a7), some (vI 0), none, none, none, none, none] [] S F G Q
    exact h
  · have h := hf hc
    refine go_iconst (show decode cX10_move 174 = .ok (.iconst 0, 1) by decide +kernel) (by decide) ?_
    refine go_istore (show decode cX10_move 175 = .ok (.istore 9, 2) by decide +kernel) (by decide) ?_
    show Go d MX10_move 177 [some (vR 53), some (vI a1), some (vI a2), some (vI a3), some (vI a4), some (vI a5), some (vI a6), some (vI a7), some (vI a8), some (vI 0), none, none, none, none] [] S F G Q
    exact h
def V_X10_move_73 (d : Nat) (S : AS) (F : AF) (G : AG) (Q : AQ) (a1 : Int) (a2 : Int) (a3 : Int) (a4 : Int) (a5 : Int) (a6 : Int) (a7 : Int) : Prop :=
  (r32 (a2 + a6)) ∧
  (r32 (a3 + a7)) ∧
  (r32 (a4 + a6)) ∧
  (r32 (a5 + a7)) ∧
  (1 ≤ d) ∧
  ∃ z10 : Int, Pu (d - 1) MX10_isRectangle [vR 53, vI (a2 + a6), vI (a3 + a7), vI (a4 + a6), vI (a5 + a7)] S F G (some (vI z10)) ∧
  ((¬ z10 = 0) →
    Ok (d - 1) MX10_wantsMoved [vR 53, vI 0, vI a2, vI a4, vI a6] S F G (fun w12 S13 F14 G15 =>
    S13 = S ∧
    w12 = none ∧
    ∃ z20 : Int, Pu (d - 1) MX10_isRoom [vR 53, vI 0] S F14 G15 (some (vI z20)) ∧
    ((¬ z20 = 0) →
      Ok (d - 1) MX10_laysThen [vR 53, vI 0] S F14 G15 (fun w22 S23 F24 G25 =>
      S23 = S ∧
      w22 = none ∧
      Ok (d - 1) MX10_keepsAcross [vR 53] S F24 G25 (fun w26 S27 F28 G29 =>
      S27 = S ∧
      w26 = none ∧
      Ok (d - 1) MX10_wantsMoved [vR 53, vI 1, vI a3, vI a5, vI a7] S F28 G29 (fun w30 S31 F32 G33 =>
      S31 = S ∧
      w30 = none ∧
      ∃ z38 : Int, Pu (d - 1) MX10_isRoom [vR 53, vI 1] S F32 G33 (some (vI z38)) ∧
      ((¬ z38 = 0) →
        Ok (d - 1) MX10_laysThen [vR 53, vI 1] S F32 G33 (fun w40 S41 F42 G43 =>
        S41 = S ∧
        w40 = none ∧
        Go d MX10_move 163 [some (vR 53), some (vI a1), some (vI a2), some (vI a3), some (vI a4), some (vI a5), some (vI a6), some (vI a7), some (vI 0), none, none, none, none, none] [] S F42 G43 Q)) ∧
      ((z38 = 0) →
        Q (some (vJ (-4))) S F32 G33))))) ∧
    ((z20 = 0) →
      Q (some (vJ (-4))) S F14 G15))) ∧
  ((z10 = 0) →
    Q (some (vJ (-2))) S F G)
theorem R_X10_move_73 {d : Nat} {S : AS} {F : AF} {G : AG} {Q : AQ} {a1 : Int} {a2 : Int} {a3 : Int} {a4 : Int} {a5 : Int} {a6 : Int} {a7 : Int} (hsm : ShM S) (h : V_X10_move_73 d S F G Q a1 a2 a3 a4 a5 a6 a7) : Go d MX10_move 73 [some (vR 53), some (vI a1), some (vI a2), some (vI a3), some (vI a4), some (vI a5), some (vI a6), some (vI a7), none, none, none, none, none, none] [] S F G Q := by
  unfold V_X10_move_73 at h
  refine go_aload_n (show decode cX10_move 73 = .ok (.aload_n 0, 1) by decide +kernel) (by rfl) ?_
  refine go_iload_n (show decode cX10_move 74 = .ok (.iload_n 2, 1) by decide +kernel) (by rfl) ?_
  refine go_iload (show decode cX10_move 75 = .ok (.iload 6, 2) by decide +kernel) (by rfl) ?_
  obtain ⟨q1, h⟩ := h
  refine go_iadd (show decode cX10_move 77 = .ok (.iadd, 1) by decide +kernel) q1 ?_
  refine go_iload_n (show decode cX10_move 78 = .ok (.iload_n 3, 1) by decide +kernel) (by rfl) ?_
  refine go_iload (show decode cX10_move 79 = .ok (.iload 7, 2) by decide +kernel) (by rfl) ?_
  obtain ⟨q2, h⟩ := h
  refine go_iadd (show decode cX10_move 81 = .ok (.iadd, 1) by decide +kernel) q2 ?_
  refine go_iload (show decode cX10_move 82 = .ok (.iload 4, 2) by decide +kernel) (by rfl) ?_
  refine go_iload (show decode cX10_move 84 = .ok (.iload 6, 2) by decide +kernel) (by rfl) ?_
  obtain ⟨q3, h⟩ := h
  refine go_iadd (show decode cX10_move 86 = .ok (.iadd, 1) by decide +kernel) q3 ?_
  refine go_iload (show decode cX10_move 87 = .ok (.iload 5, 2) by decide +kernel) (by rfl) ?_
  refine go_iload (show decode cX10_move 89 = .ok (.iload 7, 2) by decide +kernel) (by rfl) ?_
  obtain ⟨q4, h⟩ := h
  refine go_iadd (show decode cX10_move 91 = .ok (.iadd, 1) by decide +kernel) q4 ?_
  obtain ⟨q5, h⟩ := h
  obtain ⟨z10, p11, h⟩ := h
  refine go_callV (d2 := d - 1) (M2 := MX10_isRectangle) (n := 4) (ci := 10) (av := [vI (a2 + a6), vI (a3 + a7), vI (a4 + a6), vI (a5 + a7)]) (st := []) (show decode cX10_move 92 = .ok (.invokevirtual 170, 3) by decide +kernel) ml_X10_170 mt_X10_isRectangle min_X10_isRectangle mse_X10_isRectangle (by decide) (shm_k hsm 53 (by decide) (by decide)) rfl (Nat.le_of_ble_eq_true rfl) (by omega) (ok_mono p11 (fun w6 S7 F8 G9 e9 => ?_))
  obtain ⟨e1, e2, e3, e4⟩ := e9
  subst e1
  replace e2 := e2.symm; subst e2
  replace e3 := e3.symm; subst e3
  replace e4 := e4.symm; subst e4
  show Go d MX10_move 95 [some (vR 53), some (vI a1), some (vI a2), some (vI a3), some (vI a4), some (vI a5), some (vI a6), some (vI a7), none, none, none, none, none, none] [vI z10] S F G Q
  obtain ⟨ht, hf⟩ := h
  refine go_ifne (tgt := 102) (show decode cX10_move 95 = .ok (.ifCond .ne 7, 3) by decide +kernel) (by decide) (fun hc => ?_) (fun hc => ?_)
  · have h := ht hc
    refine go_aload_n (show decode cX10_move 102 = .ok (.aload_n 0, 1) by decide +kernel) (by rfl) ?_
    refine go_iconst (show decode cX10_move 103 = .ok (.iconst 0, 1) by decide +kernel) (by decide) ?_
    refine go_iload_n (show decode cX10_move 104 = .ok (.iload_n 2, 1) by decide +kernel) (by rfl) ?_
    refine go_iload (show decode cX10_move 105 = .ok (.iload 4, 2) by decide +kernel) (by rfl) ?_
    refine go_iload (show decode cX10_move 107 = .ok (.iload 6, 2) by decide +kernel) (by rfl) ?_
    refine go_callV (d2 := d - 1) (M2 := MX10_wantsMoved) (n := 4) (ci := 10) (av := [vI 0, vI a2, vI a4, vI a6]) (st := []) (show decode cX10_move 109 = .ok (.invokevirtual 279, 3) by decide +kernel) ml_X10_279 mt_X10_wantsMoved min_X10_wantsMoved mse_X10_wantsMoved (by decide) (shm_k hsm 53 (by decide) (by decide)) rfl (Nat.le_of_ble_eq_true rfl) (by omega) (ok_mono h (fun w12 S13 F14 G15 h => ?_))
    obtain ⟨e8, h⟩ := h
    replace e8 := e8.symm; subst e8
    obtain ⟨e9, h⟩ := h
    subst e9
    show Go d MX10_move 112 [some (vR 53), some (vI a1), some (vI a2), some (vI a3), some (vI a4), some (vI a5), some (vI a6), some (vI a7), none, none, none, none, none, none] [] S F14 G15 Q
    refine go_aload_n (show decode cX10_move 112 = .ok (.aload_n 0, 1) by decide +kernel) (by rfl) ?_
    refine go_iconst (show decode cX10_move 113 = .ok (.iconst 0, 1) by decide +kernel) (by decide) ?_
    obtain ⟨z20, p21, h⟩ := h
    refine go_callV (d2 := d - 1) (M2 := MX10_isRoom) (n := 1) (ci := 10) (av := [vI 0]) (st := []) (show decode cX10_move 114 = .ok (.invokevirtual 153, 3) by decide +kernel) ml_X10_153 mt_X10_isRoom min_X10_isRoom mse_X10_isRoom (by decide) (shm_k hsm 53 (by decide) (by decide)) rfl (Nat.le_of_ble_eq_true rfl) (by omega) (ok_mono p21 (fun w16 S17 F18 G19 e9 => ?_))
    obtain ⟨e1, e2, e3, e4⟩ := e9
    subst e1
    replace e2 := e2.symm; subst e2
    replace e3 := e3.symm; subst e3
    replace e4 := e4.symm; subst e4
    show Go d MX10_move 117 [some (vR 53), some (vI a1), some (vI a2), some (vI a3), some (vI a4), some (vI a5), some (vI a6), some (vI a7), none, none, none, none, none, none] [vI z20] S F14 G15 Q
    obtain ⟨ht, hf⟩ := h
    refine go_ifne (tgt := 124) (show decode cX10_move 117 = .ok (.ifCond .ne 7, 3) by decide +kernel) (by decide) (fun hc => ?_) (fun hc => ?_)
    · have h := ht hc
      refine go_aload_n (show decode cX10_move 124 = .ok (.aload_n 0, 1) by decide +kernel) (by rfl) ?_
      refine go_iconst (show decode cX10_move 125 = .ok (.iconst 0, 1) by decide +kernel) (by decide) ?_
      refine go_callV (d2 := d - 1) (M2 := MX10_laysThen) (n := 1) (ci := 10) (av := [vI 0]) (st := []) (show decode cX10_move 126 = .ok (.invokevirtual 282, 3) by decide +kernel) ml_X10_282 mt_X10_laysThen min_X10_laysThen mse_X10_laysThen (by decide) (shm_k hsm 53 (by decide) (by decide)) rfl (Nat.le_of_ble_eq_true rfl) (by omega) (ok_mono h (fun w22 S23 F24 G25 h => ?_))
      obtain ⟨e8, h⟩ := h
      replace e8 := e8.symm; subst e8
      obtain ⟨e9, h⟩ := h
      subst e9
      show Go d MX10_move 129 [some (vR 53), some (vI a1), some (vI a2), some (vI a3), some (vI a4), some (vI a5), some (vI a6), some (vI a7), none, none, none, none, none, none] [] S F24 G25 Q
      refine go_aload_n (show decode cX10_move 129 = .ok (.aload_n 0, 1) by decide +kernel) (by rfl) ?_
      refine go_callV (d2 := d - 1) (M2 := MX10_keepsAcross) (n := 0) (ci := 10) (av := []) (st := []) (show decode cX10_move 130 = .ok (.invokevirtual 286, 3) by decide +kernel) ml_X10_286 mt_X10_keepsAcross min_X10_keepsAcross mse_X10_keepsAcross (by decide) (shm_k hsm 53 (by decide) (by decide)) rfl (Nat.le_of_ble_eq_true rfl) (by omega) (ok_mono h (fun w26 S27 F28 G29 h => ?_))
      obtain ⟨e8, h⟩ := h
      replace e8 := e8.symm; subst e8
      obtain ⟨e9, h⟩ := h
      subst e9
      show Go d MX10_move 133 [some (vR 53), some (vI a1), some (vI a2), some (vI a3), some (vI a4), some (vI a5), some (vI a6), some (vI a7), none, none, none, none, none, none] [] S F28 G29 Q
      refine go_aload_n (show decode cX10_move 133 = .ok (.aload_n 0, 1) by decide +kernel) (by rfl) ?_
      refine go_iconst (show decode cX10_move 134 = .ok (.iconst 1, 1) by decide +kernel) (by decide) ?_
      refine go_iload_n (show decode cX10_move 135 = .ok (.iload_n 3, 1) by decide +kernel) (by rfl) ?_
      refine go_iload (show decode cX10_move 136 = .ok (.iload 5, 2) by decide +kernel) (by rfl) ?_
      refine go_iload (show decode cX10_move 138 = .ok (.iload 7, 2) by decide +kernel) (by rfl) ?_
      refine go_callV (d2 := d - 1) (M2 := MX10_wantsMoved) (n := 4) (ci := 10) (av := [vI 1, vI a3, vI a5, vI a7]) (st := []) (show decode cX10_move 140 = .ok (.invokevirtual 279, 3) by decide +kernel) ml_X10_279 mt_X10_wantsMoved min_X10_wantsMoved mse_X10_wantsMoved (by decide) (shm_k hsm 53 (by decide) (by decide)) rfl (Nat.le_of_ble_eq_true rfl) (by omega) (ok_mono h (fun w30 S31 F32 G33 h => ?_))
      obtain ⟨e8, h⟩ := h
      replace e8 := e8.symm; subst e8
      obtain ⟨e9, h⟩ := h
      subst e9
      show Go d MX10_move 143 [some (vR 53), some (vI a1), some (vI a2), some (vI a3), some (vI a4), some (vI a5), some (vI a6), some (vI a7), none, none, none, none, none, none] [] S F32 G33 Q
      refine go_aload_n (show decode cX10_move 143 = .ok (.aload_n 0, 1) by decide +kernel) (by rfl) ?_
      refine go_iconst (show decode cX10_move 144 = .ok (.iconst 1, 1) by decide +kernel) (by decide) ?_
      obtain ⟨z38, p39, h⟩ := h
      refine go_callV (d2 := d - 1) (M2 := MX10_isRoom) (n := 1) (ci := 10) (av := [vI 1]) (st := []) (show decode cX10_move 145 = .ok (.invokevirtual 153, 3) by decide +kernel) ml_X10_153 mt_X10_isRoom min_X10_isRoom mse_X10_isRoom (by decide) (shm_k hsm 53 (by decide) (by decide)) rfl (Nat.le_of_ble_eq_true rfl) (by omega) (ok_mono p39 (fun w34 S35 F36 G37 e9 => ?_))
      obtain ⟨e1, e2, e3, e4⟩ := e9
      subst e1
      replace e2 := e2.symm; subst e2
      replace e3 := e3.symm; subst e3
      replace e4 := e4.symm; subst e4
      show Go d MX10_move 148 [some (vR 53), some (vI a1), some (vI a2), some (vI a3), some (vI a4), some (vI a5), some (vI a6), some (vI a7), none, none, none, none, none, none] [vI z38] S F32 G33 Q
      obtain ⟨ht, hf⟩ := h
      refine go_ifne (tgt := 155) (show decode cX10_move 148 = .ok (.ifCond .ne 7, 3) by decide +kernel) (by decide) (fun hc => ?_) (fun hc => ?_)
      · have h := ht hc
        refine go_aload_n (show decode cX10_move 155 = .ok (.aload_n 0, 1) by decide +kernel) (by rfl) ?_
        refine go_iconst (show decode cX10_move 156 = .ok (.iconst 1, 1) by decide +kernel) (by decide) ?_
        refine go_callV (d2 := d - 1) (M2 := MX10_laysThen) (n := 1) (ci := 10) (av := [vI 1]) (st := []) (show decode cX10_move 157 = .ok (.invokevirtual 282, 3) by decide +kernel) ml_X10_282 mt_X10_laysThen min_X10_laysThen mse_X10_laysThen (by decide) (shm_k hsm 53 (by decide) (by decide)) rfl (Nat.le_of_ble_eq_true rfl) (by omega) (ok_mono h (fun w40 S41 F42 G43 h => ?_))
        obtain ⟨e8, h⟩ := h
        replace e8 := e8.symm; subst e8
        obtain ⟨e9, h⟩ := h
        subst e9
        show Go d MX10_move 160 [some (vR 53), some (vI a1), some (vI a2), some (vI a3), some (vI a4), some (vI a5), some (vI a6), some (vI a7), none, none, none, none, none, none] [] S F42 G43 Q
        refine go_iconst (show decode cX10_move 160 = .ok (.iconst 0, 1) by decide +kernel) (by decide) ?_
        refine go_istore (show decode cX10_move 161 = .ok (.istore 8, 2) by decide +kernel) (by decide) ?_
        show Go d MX10_move 163 [some (vR 53), some (vI a1), some (vI a2), some (vI a3), some (vI a4), some (vI a5), some (vI a6), some (vI a7), some (vI 0), none, none, none, none, none] [] S F42 G43 Q
        exact h
      · have h := hf hc
        refine go_ldc2 (show decode cX10_move 151 = .ok (.ldc2_w 205, 3) by decide +kernel) lc_X10_205 (by decide) ?_
        exact go_lret (show decode cX10_move 154 = .ok (.lreturn, 1) by decide +kernel) rfl h
    · have h := hf hc
      refine go_ldc2 (show decode cX10_move 120 = .ok (.ldc2_w 205, 3) by decide +kernel) lc_X10_205 (by decide) ?_
      exact go_lret (show decode cX10_move 123 = .ok (.lreturn, 1) by decide +kernel) rfl h
  · have h := hf hc
    refine go_ldc2 (show decode cX10_move 98 = .ok (.ldc2_w 174, 3) by decide +kernel) lc_X10_174 (by decide) ?_
    exact go_lret (show decode cX10_move 101 = .ok (.lreturn, 1) by decide +kernel) rfl h
def V_X10_move_0 (d : Nat) (S : AS) (F : AF) (G : AG) (Q : AQ) (a1 : Int) (a2 : Int) (a3 : Int) (a4 : Int) (a5 : Int) (a6 : Int) (a7 : Int) : Prop :=
  ∀ F1 : AF, F1 = fu F 53 0 0 →
  (1 ≤ d) ∧
  ∃ z7 : Int, Pu (d - 1) MX10_isGood [vI a1] S F1 G (some (vI z7)) ∧
  ((z7 = 0) →
    Q (some (vJ (-2))) S F1 G) ∧
  ((¬ z7 = 0) →
    ∃ z13 : Int, Pu (d - 1) MX10_isRectangle [vR 53, vI a2, vI a3, vI a4, vI a5] S F1 G (some (vI z13)) ∧
    ((¬ z13 = 0) →
      ∃ z19 : Int, Pu (d - 1) MX10_isIn [vJ a6, vJ (-9999), vJ 9999] S F1 G (some (vI z19)) ∧
      ((z19 = 0) →
        Q (some (vJ (-3))) S F1 G) ∧
      ((¬ z19 = 0) →
        ∃ z25 : Int, Pu (d - 1) MX10_isIn [vJ a7, vJ (-9999), vJ 9999] S F1 G (some (vI z25)) ∧
        ((z25 = 0) →
          Q (some (vJ (-3))) S F1 G) ∧
        ((¬ z25 = 0) →
          ((¬ a6 = 0) →
            V_X10_move_73 d S F1 G Q a1 a2 a3 a4 a5 a6 a7) ∧
          ((a6 = 0) →
            ((¬ a7 = 0) →
              V_X10_move_73 d S F1 G Q a1 a2 a3 a4 a5 a6 a7) ∧
            ((a7 = 0) →
              Q (some (vJ (-3))) S F1 G))))) ∧
    ((z13 = 0) →
      Q (some (vJ (-2))) S F1 G))
theorem R_X10_move_0 {d : Nat} {S : AS} {F : AF} {G : AG} {Q : AQ} {a1 : Int} {a2 : Int} {a3 : Int} {a4 : Int} {a5 : Int} {a6 : Int} {a7 : Int} (hsm : ShM S) (h : V_X10_move_0 d S F G Q a1 a2 a3 a4 a5 a6 a7) : Go d MX10_move 0 [some (vR 53), some (vI a1), some (vI a2), some (vI a3), some (vI a4), some (vI a5), some (vI a6), some (vI a7), none, none, none, none, none, none] [] S F G Q := by
  unfold V_X10_move_0 at h
  refine go_aload_n (show decode cX10_move 0 = .ok (.aload_n 0, 1) by decide +kernel) (by rfl) ?_
  refine go_iconst (show decode cX10_move 1 = .ok (.iconst 0, 1) by decide +kernel) (by decide) ?_
  refine go_putI (show decode cX10_move 2 = .ok (.putfield 1, 3) by decide +kernel) fl_X10_1 rfl (Or.inl rfl) (shm_k hsm 53 (by decide) (by decide)) ?_
  obtain ⟨F1, F1e⟩ : ∃ F1 : AF, F1 = fu F 53 0 0 := ⟨_, rfl⟩
  have h := h F1 F1e
  rw [← F1e]
  refine go_iload_n (show decode cX10_move 5 = .ok (.iload_n 1, 1) by decide +kernel) (by rfl) ?_
  obtain ⟨q2, h⟩ := h
  obtain ⟨z7, p8, h⟩ := h
  refine go_callS (d2 := d - 1) (M2 := MX10_isGood) (n := 1) (av := [vI a1]) (st := []) (show decode cX10_move 6 = .ok (.invokestatic 167, 3) by decide +kernel) ml_X10_167 mt_X10_isGood mst_X10_isGood rfl (Nat.le_of_ble_eq_true rfl) (by omega) (ok_mono p8 (fun w3 S4 F5 G6 e9 => ?_))
  obtain ⟨e1, e2, e3, e4⟩ := e9
  subst e1
  replace e2 := e2.symm; subst e2
  replace e3 := e3.symm; subst e3
  replace e4 := e4.symm; subst e4
  show Go d MX10_move 9 [some (vR 53), some (vI a1), some (vI a2), some (vI a3), some (vI a4), some (vI a5), some (vI a6), some (vI a7), none, none, none, none, none, none] [vI z7] S F1 G Q
  obtain ⟨ht, hf⟩ := h
  refine go_ifeq (tgt := 25) (show decode cX10_move 9 = .ok (.ifCond .eq 16, 3) by decide +kernel) (by decide) (fun hc => ?_) (fun hc => ?_)
  · have h := ht hc
    refine go_ldc2 (show decode cX10_move 25 = .ok (.ldc2_w 174, 3) by decide +kernel) lc_X10_174 (by decide) ?_
    exact go_lret (show decode cX10_move 28 = .ok (.lreturn, 1) by decide +kernel) rfl h
  · have h := hf hc
    refine go_aload_n (show decode cX10_move 12 = .ok (.aload_n 0, 1) by decide +kernel) (by rfl) ?_
    refine go_iload_n (show decode cX10_move 13 = .ok (.iload_n 2, 1) by decide +kernel) (by rfl) ?_
    refine go_iload_n (show decode cX10_move 14 = .ok (.iload_n 3, 1) by decide +kernel) (by rfl) ?_
    refine go_iload (show decode cX10_move 15 = .ok (.iload 4, 2) by decide +kernel) (by rfl) ?_
    refine go_iload (show decode cX10_move 17 = .ok (.iload 5, 2) by decide +kernel) (by rfl) ?_
    obtain ⟨z13, p14, h⟩ := h
    refine go_callV (d2 := d - 1) (M2 := MX10_isRectangle) (n := 4) (ci := 10) (av := [vI a2, vI a3, vI a4, vI a5]) (st := []) (show decode cX10_move 19 = .ok (.invokevirtual 170, 3) by decide +kernel) ml_X10_170 mt_X10_isRectangle min_X10_isRectangle mse_X10_isRectangle (by decide) (shm_k hsm 53 (by decide) (by decide)) rfl (Nat.le_of_ble_eq_true rfl) (by omega) (ok_mono p14 (fun w9 S10 F11 G12 e9 => ?_))
    obtain ⟨e1, e2, e3, e4⟩ := e9
    subst e1
    replace e2 := e2.symm; subst e2
    replace e3 := e3.symm; subst e3
    replace e4 := e4.symm; subst e4
    show Go d MX10_move 22 [some (vR 53), some (vI a1), some (vI a2), some (vI a3), some (vI a4), some (vI a5), some (vI a6), some (vI a7), none, none, none, none, none, none] [vI z13] S F1 G Q
    obtain ⟨ht, hf⟩ := h
    refine go_ifne (tgt := 29) (show decode cX10_move 22 = .ok (.ifCond .ne 7, 3) by decide +kernel) (by decide) (fun hc => ?_) (fun hc => ?_)
    · have h := ht hc
      refine go_iload (show decode cX10_move 29 = .ok (.iload 6, 2) by decide +kernel) (by rfl) ?_
      refine go_i2l (show decode cX10_move 31 = .ok (.i2l, 1) by decide +kernel) ?_
      refine go_ldc2 (show decode cX10_move 32 = .ok (.ldc2_w 275, 3) by decide +kernel) lc_X10_275 (by decide) ?_
      refine go_ldc2 (show decode cX10_move 35 = .ok (.ldc2_w 277, 3) by decide +kernel) lc_X10_277 (by decide) ?_
      obtain ⟨z19, p20, h⟩ := h
      refine go_callS (d2 := d - 1) (M2 := MX10_isIn) (n := 3) (av := [vJ a6, vJ (-9999), vJ 9999]) (st := []) (show decode cX10_move 38 = .ok (.invokestatic 116, 3) by decide +kernel) ml_X10_116 mt_X10_isIn mst_X10_isIn rfl (Nat.le_of_ble_eq_true rfl) (by omega) (ok_mono p20 (fun w15 S16 F17 G18 e9 => ?_))
      obtain ⟨e1, e2, e3, e4⟩ := e9
      subst e1
      replace e2 := e2.symm; subst e2
      replace e3 := e3.symm; subst e3
      replace e4 := e4.symm; subst e4
      show Go d MX10_move 41 [some (vR 53), some (vI a1), some (vI a2), some (vI a3), some (vI a4), some (vI a5), some (vI a6), some (vI a7), none, none, none, none, none, none] [vI z19] S F1 G Q
      obtain ⟨ht, hf⟩ := h
      refine go_ifeq (tgt := 69) (show decode cX10_move 41 = .ok (.ifCond .eq 28, 3) by decide +kernel) (by decide) (fun hc => ?_) (fun hc => ?_)
      · have h := ht hc
        refine go_ldc2 (show decode cX10_move 69 = .ok (.ldc2_w 120, 3) by decide +kernel) lc_X10_120 (by decide) ?_
        exact go_lret (show decode cX10_move 72 = .ok (.lreturn, 1) by decide +kernel) rfl h
      · have h := hf hc
        refine go_iload (show decode cX10_move 44 = .ok (.iload 7, 2) by decide +kernel) (by rfl) ?_
        refine go_i2l (show decode cX10_move 46 = .ok (.i2l, 1) by decide +kernel) ?_
        refine go_ldc2 (show decode cX10_move 47 = .ok (.ldc2_w 275, 3) by decide +kernel) lc_X10_275 (by decide) ?_
        refine go_ldc2 (show decode cX10_move 50 = .ok (.ldc2_w 277, 3) by decide +kernel) lc_X10_277 (by decide) ?_
        obtain ⟨z25, p26, h⟩ := h
        refine go_callS (d2 := d - 1) (M2 := MX10_isIn) (n := 3) (av := [vJ a7, vJ (-9999), vJ 9999]) (st := []) (show decode cX10_move 53 = .ok (.invokestatic 116, 3) by decide +kernel) ml_X10_116 mt_X10_isIn mst_X10_isIn rfl (Nat.le_of_ble_eq_true rfl) (by omega) (ok_mono p26 (fun w21 S22 F23 G24 e9 => ?_))
        obtain ⟨e1, e2, e3, e4⟩ := e9
        subst e1
        replace e2 := e2.symm; subst e2
        replace e3 := e3.symm; subst e3
        replace e4 := e4.symm; subst e4
        show Go d MX10_move 56 [some (vR 53), some (vI a1), some (vI a2), some (vI a3), some (vI a4), some (vI a5), some (vI a6), some (vI a7), none, none, none, none, none, none] [vI z25] S F1 G Q
        obtain ⟨ht, hf⟩ := h
        refine go_ifeq (tgt := 69) (show decode cX10_move 56 = .ok (.ifCond .eq 13, 3) by decide +kernel) (by decide) (fun hc => ?_) (fun hc => ?_)
        · have h := ht hc
          refine go_ldc2 (show decode cX10_move 69 = .ok (.ldc2_w 120, 3) by decide +kernel) lc_X10_120 (by decide) ?_
          exact go_lret (show decode cX10_move 72 = .ok (.lreturn, 1) by decide +kernel) rfl h
        · have h := hf hc
          refine go_iload (show decode cX10_move 59 = .ok (.iload 6, 2) by decide +kernel) (by rfl) ?_
          obtain ⟨ht, hf⟩ := h
          refine go_ifne (tgt := 73) (show decode cX10_move 61 = .ok (.ifCond .ne 12, 3) by decide +kernel) (by decide) (fun hc => ?_) (fun hc => ?_)
          · have h := ht hc
            exact R_X10_move_73 hsm h
          · have h := hf hc
            refine go_iload (show decode cX10_move 64 = .ok (.iload 7, 2) by decide +kernel) (by rfl) ?_
            obtain ⟨ht, hf⟩ := h
            refine go_ifne (tgt := 73) (show decode cX10_move 66 = .ok (.ifCond .ne 7, 3) by decide +kernel) (by decide) (fun hc => ?_) (fun hc => ?_)
            · have h := ht hc
              exact R_X10_move_73 hsm h
            · have h := hf hc
              refine go_ldc2 (show decode cX10_move 69 = .ok (.ldc2_w 120, 3) by decide +kernel) lc_X10_120 (by decide) ?_
              exact go_lret (show decode cX10_move 72 = .ok (.lreturn, 1) by decide +kernel) rfl h
    · have h := hf hc
      refine go_ldc2 (show decode cX10_move 25 = .ok (.ldc2_w 174, 3) by decide +kernel) lc_X10_174 (by decide) ?_
      exact go_lret (show decode cX10_move 28 = .ok (.lreturn, 1) by decide +kernel) rfl h
def V_X10_wantsMoved_78 (d : Nat) (S : AS) (F : AF) (G : AG) (Q : AQ) (a1 : Int) (a2 : Int) (a3 : Int) (a4 : Int) (a5 : Int) (a6 : Int) : Prop :=
  (r32 (a5 + 1)) ∧
  Go d MX10_wantsMoved 31 [some (vR 53), some (vI a1), some (vI a2), some (vI a3), some (vI a4), some (vI (a5 + 1)), none] [] S F G Q
theorem R_X10_wantsMoved_78 {d : Nat} {S : AS} {F : AF} {G : AG} {Q : AQ} {a1 : Int} {a2 : Int} {a3 : Int} {a4 : Int} {a5 : Int} {a6 : Int} (hsm : ShM S) (h : V_X10_wantsMoved_78 d S F G Q a1 a2 a3 a4 a5 a6) : Go d MX10_wantsMoved 78 [some (vR 53), some (vI a1), some (vI a2), some (vI a3), some (vI a4), some (vI a5), some (vI a6)] [] S F G Q := by
  unfold V_X10_wantsMoved_78 at h
  obtain ⟨q1, h⟩ := h
  refine go_iinc (show decode cX10_wantsMoved 78 = .ok (.iinc 5 1, 3) by decide +kernel) (by rfl) q1 (by decide) ?_
  show Go d MX10_wantsMoved 81 [some (vR 53), some (vI a1), some (vI a2), some (vI a3), some (vI a4), some (vI (a5 + 1)), some (vI a6)] [] S F G Q
  refine go_goto (tgt := 31) (show decode cX10_wantsMoved 81 = .ok (.goto (-50), 3) by decide +kernel) (by decide) ?_
  refine go_clr 6 ?_
  exact h
def V_X10_wantsMoved_31 (d : Nat) (S : AS) (F : AF) (G : AG) (Q : AQ) (a1 : Int) (a2 : Int) (a3 : Int) (a4 : Int) (a5 : Int) : Prop :=
  ((0 : Int) ≤ a1) ∧
  ((a1 : Int) < 2) ∧
  ((G 55 a1 ≤ a5) →
    Q none S F G) ∧
  ((¬ G 55 a1 ≤ a5) →
    (r32 (48 * a1)) ∧
    (r32 ((48 * a1) + a5)) ∧
    ((0 : Int) ≤ (48 * a1) + a5) ∧
    (((48 * a1) + a5 : Int) < 96) ∧
    ∀ x7 : Int, x7 = G 54 ((48 * a1) + a5) →
    ((x7 ≤ a2) →
      V_X10_wantsMoved_78 d S F G Q a1 a2 a3 a4 a5 x7) ∧
    ((¬ x7 ≤ a2) →
      ((a3 < x7) →
        V_X10_wantsMoved_78 d S F G Q a1 a2 a3 a4 a5 x7) ∧
      ((¬ a3 < x7) →
        (r32 (x7 + a4)) ∧
        (1 ≤ d) ∧
        Ok (d - 1) MX10_wants [vR 53, vI a1, vI (x7 + a4)] S F G (fun w10 S11 F12 G13 =>
        S11 = S ∧
        w10 = none ∧
        V_X10_wantsMoved_78 d S F12 G13 Q a1 a2 a3 a4 a5 x7))))
theorem R_X10_wantsMoved_31 {d : Nat} {S : AS} {F : AF} {G : AG} {Q : AQ} {a1 : Int} {a2 : Int} {a3 : Int} {a4 : Int} {a5 : Int} (hsm : ShM S) (h : V_X10_wantsMoved_31 d S F G Q a1 a2 a3 a4 a5) : Go d MX10_wantsMoved 31 [some (vR 53), some (vI a1), some (vI a2), some (vI a3), some (vI a4), some (vI a5), none] [] S F G Q := by
  unfold V_X10_wantsMoved_31 at h
  refine go_iload (show decode cX10_wantsMoved 31 = .ok (.iload 5, 2) by decide +kernel) (by rfl) ?_
  refine go_aload_n (show decode cX10_wantsMoved 33 = .ok (.aload_n 0, 1) by decide +kernel) (by rfl) ?_
  refine go_getRc (show decode cX10_wantsMoved 34 = .ok (.getfield 29, 3) by decide +kernel) fl_X10_29 rfl (shm_k hsm 53 (by decide) (by decide)) (v := 55) (shm_r hsm 53 5 (by decide) (by decide)) ?_
  refine go_iload_n (show decode cX10_wantsMoved 37 = .ok (.iload_n 1, 1) by decide +kernel) (by rfl) ?_
  obtain ⟨q1, h⟩ := h
  obtain ⟨q2, h⟩ := h
  refine go_iaload (show decode cX10_wantsMoved 38 = .ok (.iaload, 1) by decide +kernel) (shm_k hsm 55 (by decide) (by decide)) q1 (lt_n (m := 2) q2 (shm_n hsm 55 (by decide) (by decide))) ?_
  obtain ⟨ht, hf⟩ := h
  refine go_icmpge (tgt := 84) (show decode cX10_wantsMoved 39 = .ok (.if_icmp .ge 45, 3) by decide +kernel) (by decide) (fun hc => ?_) (fun hc => ?_)
  · have h := ht hc
    exact go_vret (show decode cX10_wantsMoved 84 = .ok (.return_, 1) by decide +kernel) rfl h
  · have h := hf hc
    refine go_aload_n (show decode cX10_wantsMoved 42 = .ok (.aload_n 0, 1) by decide +kernel) (by rfl) ?_
    refine go_getRc (show decode cX10_wantsMoved 43 = .ok (.getfield 25, 3) by decide +kernel) fl_X10_25 rfl (shm_k hsm 53 (by decide) (by decide)) (v := 54) (shm_r hsm 53 4 (by decide) (by decide)) ?_
    refine go_bipush (show decode cX10_wantsMoved 46 = .ok (.bipush 48, 2) by decide +kernel) (by decide) ?_
    refine go_iload_n (show decode cX10_wantsMoved 48 = .ok (.iload_n 1, 1) by decide +kernel) (by rfl) ?_
    obtain ⟨q3, h⟩ := h
    refine go_imul (show decode cX10_wantsMoved 49 = .ok (.imul, 1) by decide +kernel) q3 ?_
    refine go_iload (show decode cX10_wantsMoved 50 = .ok (.iload 5, 2) by decide +kernel) (by rfl) ?_
    obtain ⟨q4, h⟩ := h
    refine go_iadd (show decode cX10_wantsMoved 52 = .ok (.iadd, 1) by decide +kernel) q4 ?_
    obtain ⟨q5, h⟩ := h
    obtain ⟨q6, h⟩ := h
    refine go_iaload (show decode cX10_wantsMoved 53 = .ok (.iaload, 1) by decide +kernel) (shm_k hsm 54 (by decide) (by decide)) q5 (lt_n (m := 96) q6 (shm_n hsm 54 (by decide) (by decide))) ?_
    obtain ⟨x7, x7e⟩ : ∃ x7 : Int, x7 = G 54 ((48 * a1) + a5) := ⟨_, rfl⟩
    have h := h x7 x7e
    rw [← x7e]
    refine go_istore (show decode cX10_wantsMoved 54 = .ok (.istore 6, 2) by decide +kernel) (by decide) ?_
    show Go d MX10_wantsMoved 56 [some (vR 53), some (vI a1), some (vI a2), some (vI a3), some (vI a4), some (vI a5), some (vI x7)] [] S F G Q
    refine go_iload (show decode cX10_wantsMoved 56 = .ok (.iload 6, 2) by decide +kernel) (by rfl) ?_
    refine go_iload_n (show decode cX10_wantsMoved 58 = .ok (.iload_n 2, 1) by decide +kernel) (by rfl) ?_
    obtain ⟨ht, hf⟩ := h
    refine go_icmple (tgt := 78) (show decode cX10_wantsMoved 59 = .ok (.if_icmp .le 19, 3) by decide +kernel) (by decide) (fun hc => ?_) (fun hc => ?_)
    · have h := ht hc
      exact R_X10_wantsMoved_78 hsm h
    · have h := hf hc
      refine go_iload (show decode cX10_wantsMoved 62 = .ok (.iload 6, 2) by decide +kernel) (by rfl) ?_
      refine go_iload_n (show decode cX10_wantsMoved 64 = .ok (.iload_n 3, 1) by decide +kernel) (by rfl) ?_
      obtain ⟨ht, hf⟩ := h
      refine go_icmpgt (tgt := 78) (show decode cX10_wantsMoved 65 = .ok (.if_icmp .gt 13, 3) by decide +kernel) (by decide) (fun hc => ?_) (fun hc => ?_)
      · have h := ht hc
        exact R_X10_wantsMoved_78 hsm h
      · have h := hf hc
        refine go_aload_n (show decode cX10_wantsMoved 68 = .ok (.aload_n 0, 1) by decide +kernel) (by rfl) ?_
        refine go_iload_n (show decode cX10_wantsMoved 69 = .ok (.iload_n 1, 1) by decide +kernel) (by rfl) ?_
        refine go_iload (show decode cX10_wantsMoved 70 = .ok (.iload 6, 2) by decide +kernel) (by rfl) ?_
        refine go_iload (show decode cX10_wantsMoved 72 = .ok (.iload 4, 2) by decide +kernel) (by rfl) ?_
        obtain ⟨q8, h⟩ := h
        refine go_iadd (show decode cX10_wantsMoved 74 = .ok (.iadd, 1) by decide +kernel) q8 ?_
        obtain ⟨q9, h⟩ := h
        refine go_callV (d2 := d - 1) (M2 := MX10_wants) (n := 2) (ci := 10) (av := [vI a1, vI (x7 + a4)]) (st := []) (show decode cX10_wantsMoved 75 = .ok (.invokevirtual 145, 3) by decide +kernel) ml_X10_145 mt_X10_wants min_X10_wants mse_X10_wants (by decide) (shm_k hsm 53 (by decide) (by decide)) rfl (Nat.le_of_ble_eq_true rfl) (by omega) (ok_mono h (fun w10 S11 F12 G13 h => ?_))
        obtain ⟨e8, h⟩ := h
        replace e8 := e8.symm; subst e8
        obtain ⟨e9, h⟩ := h
        subst e9
        show Go d MX10_wantsMoved 78 [some (vR 53), some (vI a1), some (vI a2), some (vI a3), some (vI a4), some (vI a5), some (vI x7)] [] S F12 G13 Q
        exact R_X10_wantsMoved_78 hsm h
def V_X10_wantsMoved_0 (d : Nat) (S : AS) (F : AF) (G : AG) (Q : AQ) (a1 : Int) (a2 : Int) (a3 : Int) (a4 : Int) : Prop :=
  (1 ≤ d) ∧
  Ok (d - 1) MX10_wantsAll [vR 53, vI a1, vI a2, vI a3, vI (-1)] S F G (fun w2 S3 F4 G5 =>
  S3 = S ∧
  w2 = none ∧
  (r32 (a2 + a4)) ∧
  Ok (d - 1) MX10_wants [vR 53, vI a1, vI (a2 + a4)] S F4 G5 (fun w7 S8 F9 G10 =>
  S8 = S ∧
  w7 = none ∧
  (r32 (a3 + a4)) ∧
  (r32 ((a3 + a4) + 1)) ∧
  Ok (d - 1) MX10_wants [vR 53, vI a1, vI ((a3 + a4) + 1)] S F9 G10 (fun w13 S14 F15 G16 =>
  S14 = S ∧
  w13 = none ∧
  Go d MX10_wantsMoved 31 [some (vR 53), some (vI a1), some (vI a2), some (vI a3), some (vI a4), some (vI 0), none] [] S F15 G16 Q)))
theorem R_X10_wantsMoved_0 {d : Nat} {S : AS} {F : AF} {G : AG} {Q : AQ} {a1 : Int} {a2 : Int} {a3 : Int} {a4 : Int} (hsm : ShM S) (h : V_X10_wantsMoved_0 d S F G Q a1 a2 a3 a4) : Go d MX10_wantsMoved 0 [some (vR 53), some (vI a1), some (vI a2), some (vI a3), some (vI a4), none, none] [] S F G Q := by
  unfold V_X10_wantsMoved_0 at h
  refine go_aload_n (show decode cX10_wantsMoved 0 = .ok (.aload_n 0, 1) by decide +kernel) (by rfl) ?_
  refine go_iload_n (show decode cX10_wantsMoved 1 = .ok (.iload_n 1, 1) by decide +kernel) (by rfl) ?_
  refine go_iload_n (show decode cX10_wantsMoved 2 = .ok (.iload_n 2, 1) by decide +kernel) (by rfl) ?_
  refine go_iload_n (show decode cX10_wantsMoved 3 = .ok (.iload_n 3, 1) by decide +kernel) (by rfl) ?_
  refine go_iconst (show decode cX10_wantsMoved 4 = .ok (.iconst (-1), 1) by decide +kernel) (by decide) ?_
  obtain ⟨q1, h⟩ := h
  refine go_callV (d2 := d - 1) (M2 := MX10_wantsAll) (n := 4) (ci := 10) (av := [vI a1, vI a2, vI a3, vI (-1)]) (st := []) (show decode cX10_wantsMoved 5 = .ok (.invokevirtual 149, 3) by decide +kernel) ml_X10_149 mt_X10_wantsAll min_X10_wantsAll mse_X10_wantsAll (by decide) (shm_k hsm 53 (by decide) (by decide)) rfl (Nat.le_of_ble_eq_true rfl) (by omega) (ok_mono h (fun w2 S3 F4 G5 h => ?_))
  obtain ⟨e8, h⟩ := h
  replace e8 := e8.symm; subst e8
  obtain ⟨e9, h⟩ := h
  subst e9
  show Go d MX10_wantsMoved 8 [some (vR 53), some (vI a1), some (vI a2), some (vI a3), some (vI a4), none, none] [] S F4 G5 Q
  refine go_aload_n (show decode cX10_wantsMoved 8 = .ok (.aload_n 0, 1) by decide +kernel) (by rfl) ?_
  refine go_iload_n (show decode cX10_wantsMoved 9 = .ok (.iload_n 1, 1) by decide +kernel) (by rfl) ?_
  refine go_iload_n (show decode cX10_wantsMoved 10 = .ok (.iload_n 2, 1) by decide +kernel) (by rfl) ?_
  refine go_iload (show decode cX10_wantsMoved 11 = .ok (.iload 4, 2) by decide +kernel) (by rfl) ?_
  obtain ⟨q6, h⟩ := h
  refine go_iadd (show decode cX10_wantsMoved 13 = .ok (.iadd, 1) by decide +kernel) q6 ?_
  refine go_callV (d2 := d - 1) (M2 := MX10_wants) (n := 2) (ci := 10) (av := [vI a1, vI (a2 + a4)]) (st := []) (show decode cX10_wantsMoved 14 = .ok (.invokevirtual 145, 3) by decide +kernel) ml_X10_145 mt_X10_wants min_X10_wants mse_X10_wants (by decide) (shm_k hsm 53 (by decide) (by decide)) rfl (Nat.le_of_ble_eq_true rfl) (by omega) (ok_mono h (fun w7 S8 F9 G10 h => ?_))
  obtain ⟨e8, h⟩ := h
  replace e8 := e8.symm; subst e8
  obtain ⟨e9, h⟩ := h
  subst e9
  show Go d MX10_wantsMoved 17 [some (vR 53), some (vI a1), some (vI a2), some (vI a3), some (vI a4), none, none] [] S F9 G10 Q
  refine go_aload_n (show decode cX10_wantsMoved 17 = .ok (.aload_n 0, 1) by decide +kernel) (by rfl) ?_
  refine go_iload_n (show decode cX10_wantsMoved 18 = .ok (.iload_n 1, 1) by decide +kernel) (by rfl) ?_
  refine go_iload_n (show decode cX10_wantsMoved 19 = .ok (.iload_n 3, 1) by decide +kernel) (by rfl) ?_
  refine go_iload (show decode cX10_wantsMoved 20 = .ok (.iload 4, 2) by decide +kernel) (by rfl) ?_
  obtain ⟨q11, h⟩ := h
  refine go_iadd (show decode cX10_wantsMoved 22 = .ok (.iadd, 1) by decide +kernel) q11 ?_
  refine go_iconst (show decode cX10_wantsMoved 23 = .ok (.iconst 1, 1) by decide +kernel) (by decide) ?_
  obtain ⟨q12, h⟩ := h
  refine go_iadd (show decode cX10_wantsMoved 24 = .ok (.iadd, 1) by decide +kernel) q12 ?_
  refine go_callV (d2 := d - 1) (M2 := MX10_wants) (n := 2) (ci := 10) (av := [vI a1, vI ((a3 + a4) + 1)]) (st := []) (show decode cX10_wantsMoved 25 = .ok (.invokevirtual 145, 3) by decide +kernel) ml_X10_145 mt_X10_wants min_X10_wants mse_X10_wants (by decide) (shm_k hsm 53 (by decide) (by decide)) rfl (Nat.le_of_ble_eq_true rfl) (by omega) (ok_mono h (fun w13 S14 F15 G16 h => ?_))
  obtain ⟨e8, h⟩ := h
  replace e8 := e8.symm; subst e8
  obtain ⟨e9, h⟩ := h
  subst e9
  show Go d MX10_wantsMoved 28 [some (vR 53), some (vI a1), some (vI a2), some (vI a3), some (vI a4), none, none] [] S F15 G16 Q
  refine go_iconst (show decode cX10_wantsMoved 28 = .ok (.iconst 0, 1) by decide +kernel) (by decide) ?_
  refine go_istore (show decode cX10_wantsMoved 29 = .ok (.istore 5, 2) by decide +kernel) (by decide) ?_
  show Go d MX10_wantsMoved 31 [some (vR 53), some (vI a1), some (vI a2), some (vI a3), some (vI a4), some (vI 0), none] [] S F15 G16 Q
  exact h
def V_X10_laysThen_55 (d : Nat) (S : AS) (F : AF) (G : AG) (Q : AQ) (a1 : Int) (a2 : Int) (a3 : Int) (a4 : Int) : Prop :=
  (r32 (48 * a1)) ∧
  (r32 ((48 * a1) + a4)) ∧
  (r32 (((48 * a1) + a4) - 1)) ∧
  ((0 : Int) ≤ ((48 * a1) + a4) - 1) ∧
  ((((48 * a1) + a4) - 1 : Int) < 96) ∧
  ((0 : Int) ≤ a3) ∧
  ((a3 : Int) < 64) ∧
  ((G 68 (((48 * a1) + a4) - 1) ≤ G 67 a3) →
    ((0 : Int) ≤ (48 * a1) + a4) ∧
    (((48 * a1) + a4 : Int) < 96) ∧
    ∀ G10 : AG, G10 = gu G 68 ((48 * a1) + a4) (G 67 a3) →
    (r32 (a2 + 1)) ∧
    (r32 (a3 + 1)) ∧
    Go d MX10_laysThen 44 [some (vR 53), some (vI a1), some (vI (a2 + 1)), some (vI (a3 + 1)), none] [] S F G10 Q) ∧
  ((¬ G 68 (((48 * a1) + a4) - 1) ≤ G 67 a3) →
    ((0 : Int) ≤ (48 * a1) + a4) ∧
    (((48 * a1) + a4 : Int) < 96) ∧
    ∀ G15 : AG, G15 = gu G 68 ((48 * a1) + a4) (G 68 (((48 * a1) + a4) - 1)) →
    (r32 (a4 + (-1))) ∧
    Go d MX10_laysThen 55 [some (vR 53), some (vI a1), some (vI a2), some (vI a3), some (vI (a4 + (-1)))] [] S F G15 Q)
theorem R_X10_laysThen_55 {d : Nat} {S : AS} {F : AF} {G : AG} {Q : AQ} {a1 : Int} {a2 : Int} {a3 : Int} {a4 : Int} (hsm : ShM S) (h : V_X10_laysThen_55 d S F G Q a1 a2 a3 a4) : Go d MX10_laysThen 55 [some (vR 53), some (vI a1), some (vI a2), some (vI a3), some (vI a4)] [] S F G Q := by
  unfold V_X10_laysThen_55 at h
  refine go_aload_n (show decode cX10_laysThen 55 = .ok (.aload_n 0, 1) by decide +kernel) (by rfl) ?_
  refine go_getRc (show decode cX10_laysThen 56 = .ok (.getfield 71, 3) by decide +kernel) fl_X10_71 rfl (shm_k hsm 53 (by decide) (by decide)) (v := 68) (shm_r hsm 53 28 (by decide) (by decide)) ?_
  refine go_bipush (show decode cX10_laysThen 59 = .ok (.bipush 48, 2) by decide +kernel) (by decide) ?_
  refine go_iload_n (show decode cX10_laysThen 61 = .ok (.iload_n 1, 1) by decide +kernel) (by rfl) ?_
  obtain ⟨q1, h⟩ := h
  refine go_imul (show decode cX10_laysThen 62 = .ok (.imul, 1) by decide +kernel) q1 ?_
  refine go_iload (show decode cX10_laysThen 63 = .ok (.iload 4, 2) by decide +kernel) (by rfl) ?_
  obtain ⟨q2, h⟩ := h
  refine go_iadd (show decode cX10_laysThen 65 = .ok (.iadd, 1) by decide +kernel) q2 ?_
  refine go_iconst (show decode cX10_laysThen 66 = .ok (.iconst 1, 1) by decide +kernel) (by decide) ?_
  obtain ⟨q3, h⟩ := h
  refine go_isub (show decode cX10_laysThen 67 = .ok (.isub, 1) by decide +kernel) q3 ?_
  obtain ⟨q4, h⟩ := h
  obtain ⟨q5, h⟩ := h
  refine go_iaload (show decode cX10_laysThen 68 = .ok (.iaload, 1) by decide +kernel) (shm_k hsm 68 (by decide) (by decide)) q4 (lt_n (m := 96) q5 (shm_n hsm 68 (by decide) (by decide))) ?_
  refine go_aload_n (show decode cX10_laysThen 69 = .ok (.aload_n 0, 1) by decide +kernel) (by rfl) ?_
  refine go_getRc (show decode cX10_laysThen 70 = .ok (.getfield 68, 3) by decide +kernel) fl_X10_68 rfl (shm_k hsm 53 (by decide) (by decide)) (v := 67) (shm_r hsm 53 19 (by decide) (by decide)) ?_
  refine go_iload_n (show decode cX10_laysThen 73 = .ok (.iload_n 3, 1) by decide +kernel) (by rfl) ?_
  obtain ⟨q6, h⟩ := h
  obtain ⟨q7, h⟩ := h
  refine go_iaload (show decode cX10_laysThen 74 = .ok (.iaload, 1) by decide +kernel) (shm_k hsm 67 (by decide) (by decide)) q6 (lt_n (m := 64) q7 (shm_n hsm 67 (by decide) (by decide))) ?_
  obtain ⟨ht, hf⟩ := h
  refine go_icmple (tgt := 110) (show decode cX10_laysThen 75 = .ok (.if_icmp .le 35, 3) by decide +kernel) (by decide) (fun hc => ?_) (fun hc => ?_)
  · have h := ht hc
    refine go_aload_n (show decode cX10_laysThen 110 = .ok (.aload_n 0, 1) by decide +kernel) (by rfl) ?_
    refine go_getRc (show decode cX10_laysThen 111 = .ok (.getfield 71, 3) by decide +kernel) fl_X10_71 rfl (shm_k hsm 53 (by decide) (by decide)) (v := 68) (shm_r hsm 53 28 (by decide) (by decide)) ?_
    refine go_bipush (show decode cX10_laysThen 114 = .ok (.bipush 48, 2) by decide +kernel) (by decide) ?_
    refine go_iload_n (show decode cX10_laysThen 116 = .ok (.iload_n 1, 1) by decide +kernel) (by rfl) ?_
    refine go_imul (show decode cX10_laysThen 117 = .ok (.imul, 1) by decide +kernel) q1 ?_
    refine go_iload (show decode cX10_laysThen 118 = .ok (.iload 4, 2) by decide +kernel) (by rfl) ?_
    refine go_iadd (show decode cX10_laysThen 120 = .ok (.iadd, 1) by decide +kernel) q2 ?_
    refine go_aload_n (show decode cX10_laysThen 121 = .ok (.aload_n 0, 1) by decide +kernel) (by rfl) ?_
    refine go_getRc (show decode cX10_laysThen 122 = .ok (.getfield 68, 3) by decide +kernel) fl_X10_68 rfl (shm_k hsm 53 (by decide) (by decide)) (v := 67) (shm_r hsm 53 19 (by decide) (by decide)) ?_
    refine go_iload_n (show decode cX10_laysThen 125 = .ok (.iload_n 3, 1) by decide +kernel) (by rfl) ?_
    refine go_iaload (show decode cX10_laysThen 126 = .ok (.iaload, 1) by decide +kernel) (shm_k hsm 67 (by decide) (by decide)) q6 (lt_n (m := 64) q7 (shm_n hsm 67 (by decide) (by decide))) ?_
    obtain ⟨q8, h⟩ := h
    obtain ⟨q9, h⟩ := h
    refine go_iastore (show decode cX10_laysThen 127 = .ok (.iastore, 1) by decide +kernel) (shm_k hsm 68 (by decide) (by decide)) q8 (lt_n (m := 96) q9 (shm_n hsm 68 (by decide) (by decide)))  ?_
    obtain ⟨G10, G10e⟩ : ∃ G10 : AG, G10 = gu G 68 ((48 * a1) + a4) (G 67 a3) := ⟨_, rfl⟩
    have h := h G10 G10e
    rw [← G10e]
    obtain ⟨q11, h⟩ := h
    refine go_iinc (show decode cX10_laysThen 128 = .ok (.iinc 2 1, 3) by decide +kernel) (by rfl) q11 (by decide) ?_
    show Go d MX10_laysThen 131 [some (vR 53), some (vI a1), some (vI (a2 + 1)), some (vI a3), some (vI a4)] [] S F G10 Q
    obtain ⟨q12, h⟩ := h
    refine go_iinc (show decode cX10_laysThen 131 = .ok (.iinc 3 1, 3) by decide +kernel) (by rfl) q12 (by decide) ?_
    show Go d MX10_laysThen 134 [some (vR 53), some (vI a1), some (vI (a2 + 1)), some (vI (a3 + 1)), some (vI a4)] [] S F G10 Q
    refine go_goto (tgt := 44) (show decode cX10_laysThen 134 = .ok (.goto (-90), 3) by decide +kernel) (by decide) ?_
    refine go_clr 4 ?_
    exact h
  · have h := hf hc
    refine go_aload_n (show decode cX10_laysThen 78 = .ok (.aload_n 0, 1) by decide +kernel) (by rfl) ?_
    refine go_getRc (show decode cX10_laysThen 79 = .ok (.getfield 71, 3) by decide +kernel) fl_X10_71 rfl (shm_k hsm 53 (by decide) (by decide)) (v := 68) (shm_r hsm 53 28 (by decide) (by decide)) ?_
    refine go_bipush (show decode cX10_laysThen 82 = .ok (.bipush 48, 2) by decide +kernel) (by decide) ?_
    refine go_iload_n (show decode cX10_laysThen 84 = .ok (.iload_n 1, 1) by decide +kernel) (by rfl) ?_
    refine go_imul (show decode cX10_laysThen 85 = .ok (.imul, 1) by decide +kernel) q1 ?_
    refine go_iload (show decode cX10_laysThen 86 = .ok (.iload 4, 2) by decide +kernel) (by rfl) ?_
    refine go_iadd (show decode cX10_laysThen 88 = .ok (.iadd, 1) by decide +kernel) q2 ?_
    refine go_aload_n (show decode cX10_laysThen 89 = .ok (.aload_n 0, 1) by decide +kernel) (by rfl) ?_
    refine go_getRc (show decode cX10_laysThen 90 = .ok (.getfield 71, 3) by decide +kernel) fl_X10_71 rfl (shm_k hsm 53 (by decide) (by decide)) (v := 68) (shm_r hsm 53 28 (by decide) (by decide)) ?_
    refine go_bipush (show decode cX10_laysThen 93 = .ok (.bipush 48, 2) by decide +kernel) (by decide) ?_
    refine go_iload_n (show decode cX10_laysThen 95 = .ok (.iload_n 1, 1) by decide +kernel) (by rfl) ?_
    refine go_imul (show decode cX10_laysThen 96 = .ok (.imul, 1) by decide +kernel) q1 ?_
    refine go_iload (show decode cX10_laysThen 97 = .ok (.iload 4, 2) by decide +kernel) (by rfl) ?_
    refine go_iadd (show decode cX10_laysThen 99 = .ok (.iadd, 1) by decide +kernel) q2 ?_
    refine go_iconst (show decode cX10_laysThen 100 = .ok (.iconst 1, 1) by decide +kernel) (by decide) ?_
    refine go_isub (show decode cX10_laysThen 101 = .ok (.isub, 1) by decide +kernel) q3 ?_
    refine go_iaload (show decode cX10_laysThen 102 = .ok (.iaload, 1) by decide +kernel) (shm_k hsm 68 (by decide) (by decide)) q4 (lt_n (m := 96) q5 (shm_n hsm 68 (by decide) (by decide))) ?_
    obtain ⟨q13, h⟩ := h
    obtain ⟨q14, h⟩ := h
    refine go_iastore (show decode cX10_laysThen 103 = .ok (.iastore, 1) by decide +kernel) (shm_k hsm 68 (by decide) (by decide)) q13 (lt_n (m := 96) q14 (shm_n hsm 68 (by decide) (by decide)))  ?_
    obtain ⟨G15, G15e⟩ : ∃ G15 : AG, G15 = gu G 68 ((48 * a1) + a4) (G 68 (((48 * a1) + a4) - 1)) := ⟨_, rfl⟩
    have h := h G15 G15e
    rw [← G15e]
    obtain ⟨q16, h⟩ := h
    refine go_iinc (show decode cX10_laysThen 104 = .ok (.iinc 4 (-1), 3) by decide +kernel) (by rfl) q16 (by decide) ?_
    show Go d MX10_laysThen 107 [some (vR 53), some (vI a1), some (vI a2), some (vI a3), some (vI (a4 + (-1)))] [] S F G15 Q
    refine go_goto (tgt := 55) (show decode cX10_laysThen 107 = .ok (.goto (-52), 3) by decide +kernel) (by decide) ?_
    exact h
def V_X10_laysThen_44 (d : Nat) (S : AS) (F : AF) (G : AG) (Q : AQ) (a1 : Int) (a2 : Int) (a3 : Int) : Prop :=
  ((F 53 20 ≤ a3) →
    ((0 : Int) ≤ a1) ∧
    ((a1 : Int) < 2) ∧
    ∀ G3 : AG, G3 = gu G 69 a1 a2 →
    Q none S F G3) ∧
  ((¬ F 53 20 ≤ a3) →
    Go d MX10_laysThen 55 [some (vR 53), some (vI a1), some (vI a2), some (vI a3), some (vI a2)] [] S F G Q)
theorem R_X10_laysThen_44 {d : Nat} {S : AS} {F : AF} {G : AG} {Q : AQ} {a1 : Int} {a2 : Int} {a3 : Int} (hsm : ShM S) (h : V_X10_laysThen_44 d S F G Q a1 a2 a3) : Go d MX10_laysThen 44 [some (vR 53), some (vI a1), some (vI a2), some (vI a3), none] [] S F G Q := by
  unfold V_X10_laysThen_44 at h
  refine go_iload_n (show decode cX10_laysThen 44 = .ok (.iload_n 3, 1) by decide +kernel) (by rfl) ?_
  refine go_aload_n (show decode cX10_laysThen 45 = .ok (.aload_n 0, 1) by decide +kernel) (by rfl) ?_
  refine go_getI (show decode cX10_laysThen 46 = .ok (.getfield 142, 3) by decide +kernel) fl_X10_142 (Or.inl rfl) (shm_k hsm 53 (by decide) (by decide)) ?_
  obtain ⟨ht, hf⟩ := h
  refine go_icmpge (tgt := 137) (show decode cX10_laysThen 49 = .ok (.if_icmp .ge 88, 3) by decide +kernel) (by decide) (fun hc => ?_) (fun hc => ?_)
  · have h := ht hc
    refine go_aload_n (show decode cX10_laysThen 137 = .ok (.aload_n 0, 1) by decide +kernel) (by rfl) ?_
    refine go_getRc (show decode cX10_laysThen 138 = .ok (.getfield 74, 3) by decide +kernel) fl_X10_74 rfl (shm_k hsm 53 (by decide) (by decide)) (v := 69) (shm_r hsm 53 29 (by decide) (by decide)) ?_
    refine go_iload_n (show decode cX10_laysThen 141 = .ok (.iload_n 1, 1) by decide +kernel) (by rfl) ?_
    refine go_iload_n (show decode cX10_laysThen 142 = .ok (.iload_n 2, 1) by decide +kernel) (by rfl) ?_
    obtain ⟨q1, h⟩ := h
    obtain ⟨q2, h⟩ := h
    refine go_iastore (show decode cX10_laysThen 143 = .ok (.iastore, 1) by decide +kernel) (shm_k hsm 69 (by decide) (by decide)) q1 (lt_n (m := 2) q2 (shm_n hsm 69 (by decide) (by decide)))  ?_
    obtain ⟨G3, G3e⟩ : ∃ G3 : AG, G3 = gu G 69 a1 a2 := ⟨_, rfl⟩
    have h := h G3 G3e
    rw [← G3e]
    exact go_vret (show decode cX10_laysThen 144 = .ok (.return_, 1) by decide +kernel) rfl h
  · have h := hf hc
    refine go_iload_n (show decode cX10_laysThen 52 = .ok (.iload_n 2, 1) by decide +kernel) (by rfl) ?_
    refine go_istore (show decode cX10_laysThen 53 = .ok (.istore 4, 2) by decide +kernel) (by decide) ?_
    show Go d MX10_laysThen 55 [some (vR 53), some (vI a1), some (vI a2), some (vI a3), some (vI a2)] [] S F G Q
    exact h
def V_X10_laysThen_9 (d : Nat) (S : AS) (F : AF) (G : AG) (Q : AQ) (a1 : Int) (a2 : Int) (a3 : Int) : Prop :=
  ((a2 ≤ a3) →
    Go d MX10_laysThen 44 [some (vR 53), some (vI a1), some (vI a2), some (vI 0), none] [] S F G Q) ∧
  ((¬ a2 ≤ a3) →
    (r32 (48 * a1)) ∧
    (r32 ((48 * a1) + a3)) ∧
    ((0 : Int) ≤ (48 * a1) + a3) ∧
    (((48 * a1) + a3 : Int) < 96) ∧
    ∀ G5 : AG, G5 = gu G 68 ((48 * a1) + a3) (G 54 ((48 * a1) + a3)) →
    (r32 (a3 + 1)) ∧
    Go d MX10_laysThen 9 [some (vR 53), some (vI a1), some (vI a2), some (vI (a3 + 1)), none] [] S F G5 Q)
theorem R_X10_laysThen_9 {d : Nat} {S : AS} {F : AF} {G : AG} {Q : AQ} {a1 : Int} {a2 : Int} {a3 : Int} (hsm : ShM S) (h : V_X10_laysThen_9 d S F G Q a1 a2 a3) : Go d MX10_laysThen 9 [some (vR 53), some (vI a1), some (vI a2), some (vI a3), none] [] S F G Q := by
  unfold V_X10_laysThen_9 at h
  refine go_iload_n (show decode cX10_laysThen 9 = .ok (.iload_n 3, 1) by decide +kernel) (by rfl) ?_
  refine go_iload_n (show decode cX10_laysThen 10 = .ok (.iload_n 2, 1) by decide +kernel) (by rfl) ?_
  obtain ⟨ht, hf⟩ := h
  refine go_icmpge (tgt := 42) (show decode cX10_laysThen 11 = .ok (.if_icmp .ge 31, 3) by decide +kernel) (by decide) (fun hc => ?_) (fun hc => ?_)
  · have h := ht hc
    refine go_iconst (show decode cX10_laysThen 42 = .ok (.iconst 0, 1) by decide +kernel) (by decide) ?_
    refine go_istore_n (show decode cX10_laysThen 43 = .ok (.istore_n 3, 1) by decide +kernel) (by decide) ?_
    show Go d MX10_laysThen 44 [some (vR 53), some (vI a1), some (vI a2), some (vI 0), none] [] S F G Q
    exact h
  · have h := hf hc
    refine go_aload_n (show decode cX10_laysThen 14 = .ok (.aload_n 0, 1) by decide +kernel) (by rfl) ?_
    refine go_getRc (show decode cX10_laysThen 15 = .ok (.getfield 71, 3) by decide +kernel) fl_X10_71 rfl (shm_k hsm 53 (by decide) (by decide)) (v := 68) (shm_r hsm 53 28 (by decide) (by decide)) ?_
    refine go_bipush (show decode cX10_laysThen 18 = .ok (.bipush 48, 2) by decide +kernel) (by decide) ?_
    refine go_iload_n (show decode cX10_laysThen 20 = .ok (.iload_n 1, 1) by decide +kernel) (by rfl) ?_
    obtain ⟨q1, h⟩ := h
    refine go_imul (show decode cX10_laysThen 21 = .ok (.imul, 1) by decide +kernel) q1 ?_
    refine go_iload_n (show decode cX10_laysThen 22 = .ok (.iload_n 3, 1) by decide +kernel) (by rfl) ?_
    obtain ⟨q2, h⟩ := h
    refine go_iadd (show decode cX10_laysThen 23 = .ok (.iadd, 1) by decide +kernel) q2 ?_
    refine go_aload_n (show decode cX10_laysThen 24 = .ok (.aload_n 0, 1) by decide +kernel) (by rfl) ?_
    refine go_getRc (show decode cX10_laysThen 25 = .ok (.getfield 25, 3) by decide +kernel) fl_X10_25 rfl (shm_k hsm 53 (by decide) (by decide)) (v := 54) (shm_r hsm 53 4 (by decide) (by decide)) ?_
    refine go_bipush (show decode cX10_laysThen 28 = .ok (.bipush 48, 2) by decide +kernel) (by decide) ?_
    refine go_iload_n (show decode cX10_laysThen 30 = .ok (.iload_n 1, 1) by decide +kernel) (by rfl) ?_
    refine go_imul (show decode cX10_laysThen 31 = .ok (.imul, 1) by decide +kernel) q1 ?_
    refine go_iload_n (show decode cX10_laysThen 32 = .ok (.iload_n 3, 1) by decide +kernel) (by rfl) ?_
    refine go_iadd (show decode cX10_laysThen 33 = .ok (.iadd, 1) by decide +kernel) q2 ?_
    obtain ⟨q3, h⟩ := h
    obtain ⟨q4, h⟩ := h
    refine go_iaload (show decode cX10_laysThen 34 = .ok (.iaload, 1) by decide +kernel) (shm_k hsm 54 (by decide) (by decide)) q3 (lt_n (m := 96) q4 (shm_n hsm 54 (by decide) (by decide))) ?_
    refine go_iastore (show decode cX10_laysThen 35 = .ok (.iastore, 1) by decide +kernel) (shm_k hsm 68 (by decide) (by decide)) q3 (lt_n (m := 96) q4 (shm_n hsm 68 (by decide) (by decide)))  ?_
    obtain ⟨G5, G5e⟩ : ∃ G5 : AG, G5 = gu G 68 ((48 * a1) + a3) (G 54 ((48 * a1) + a3)) := ⟨_, rfl⟩
    have h := h G5 G5e
    rw [← G5e]
    obtain ⟨q6, h⟩ := h
    refine go_iinc (show decode cX10_laysThen 36 = .ok (.iinc 3 1, 3) by decide +kernel) (by rfl) q6 (by decide) ?_
    show Go d MX10_laysThen 39 [some (vR 53), some (vI a1), some (vI a2), some (vI (a3 + 1)), none] [] S F G5 Q
    refine go_goto (tgt := 9) (show decode cX10_laysThen 39 = .ok (.goto (-30), 3) by decide +kernel) (by decide) ?_
    exact h
def V_X10_laysThen_0 (d : Nat) (S : AS) (F : AF) (G : AG) (Q : AQ) (a1 : Int) : Prop :=
  ((0 : Int) ≤ a1) ∧
  ((a1 : Int) < 2) ∧
  ∀ x3 : Int, x3 = G 55 a1 →
  Go d MX10_laysThen 9 [some (vR 53), some (vI a1), some (vI x3), some (vI 0), none] [] S F G Q
theorem R_X10_laysThen_0 {d : Nat} {S : AS} {F : AF} {G : AG} {Q : AQ} {a1 : Int} (hsm : ShM S) (h : V_X10_laysThen_0 d S F G Q a1) : Go d MX10_laysThen 0 [some (vR 53), some (vI a1), none, none, none] [] S F G Q := by
  unfold V_X10_laysThen_0 at h
  refine go_aload_n (show decode cX10_laysThen 0 = .ok (.aload_n 0, 1) by decide +kernel) (by rfl) ?_
  refine go_getRc (show decode cX10_laysThen 1 = .ok (.getfield 29, 3) by decide +kernel) fl_X10_29 rfl (shm_k hsm 53 (by decide) (by decide)) (v := 55) (shm_r hsm 53 5 (by decide) (by decide)) ?_
  refine go_iload_n (show decode cX10_laysThen 4 = .ok (.iload_n 1, 1) by decide +kernel) (by rfl) ?_
  obtain ⟨q1, h⟩ := h
  obtain ⟨q2, h⟩ := h
  refine go_iaload (show decode cX10_laysThen 5 = .ok (.iaload, 1) by decide +kernel) (shm_k hsm 55 (by decide) (by decide)) q1 (lt_n (m := 2) q2 (shm_n hsm 55 (by decide) (by decide))) ?_
  obtain ⟨x3, x3e⟩ : ∃ x3 : Int, x3 = G 55 a1 := ⟨_, rfl⟩
  have h := h x3 x3e
  rw [← x3e]
  refine go_istore_n (show decode cX10_laysThen 6 = .ok (.istore_n 2, 1) by decide +kernel) (by decide) ?_
  show Go d MX10_laysThen 7 [some (vR 53), some (vI a1), some (vI x3), none, none] [] S F G Q
  refine go_iconst (show decode cX10_laysThen 7 = .ok (.iconst 0, 1) by decide +kernel) (by decide) ?_
  refine go_istore_n (show decode cX10_laysThen 8 = .ok (.istore_n 3, 1) by decide +kernel) (by decide) ?_
  show Go d MX10_laysThen 9 [some (vR 53), some (vI a1), some (vI x3), some (vI 0), none] [] S F G Q
  exact h
def V_X10_keepsAcross_10 (d : Nat) (S : AS) (F : AF) (G : AG) (Q : AQ) (a1 : Int) : Prop :=
  ((F 53 20 ≤ a1) →
    Q none S F G) ∧
  ((¬ F 53 20 ≤ a1) →
    ((0 : Int) ≤ a1) ∧
    ((a1 : Int) < 64) ∧
    ∀ G3 : AG, G3 = gu G 71 a1 (G 67 a1) →
    (r32 (a1 + 1)) ∧
    Go d MX10_keepsAcross 10 [some (vR 53), some (vI (a1 + 1))] [] S F G3 Q)
theorem R_X10_keepsAcross_10 {d : Nat} {S : AS} {F : AF} {G : AG} {Q : AQ} {a1 : Int} (hsm : ShM S) (h : V_X10_keepsAcross_10 d S F G Q a1) : Go d MX10_keepsAcross 10 [some (vR 53), some (vI a1)] [] S F G Q := by
  unfold V_X10_keepsAcross_10 at h
  refine go_iload_n (show decode cX10_keepsAcross 10 = .ok (.iload_n 1, 1) by decide +kernel) (by rfl) ?_
  refine go_aload_n (show decode cX10_keepsAcross 11 = .ok (.aload_n 0, 1) by decide +kernel) (by rfl) ?_
  refine go_getI (show decode cX10_keepsAcross 12 = .ok (.getfield 142, 3) by decide +kernel) fl_X10_142 (Or.inl rfl) (shm_k hsm 53 (by decide) (by decide)) ?_
  obtain ⟨ht, hf⟩ := h
  refine go_icmpge (tgt := 36) (show decode cX10_keepsAcross 15 = .ok (.if_icmp .ge 21, 3) by decide +kernel) (by decide) (fun hc => ?_) (fun hc => ?_)
  · have h := ht hc
    exact go_vret (show decode cX10_keepsAcross 36 = .ok (.return_, 1) by decide +kernel) rfl h
  · have h := hf hc
    refine go_aload_n (show decode cX10_keepsAcross 18 = .ok (.aload_n 0, 1) by decide +kernel) (by rfl) ?_
    refine go_getRc (show decode cX10_keepsAcross 19 = .ok (.getfield 80, 3) by decide +kernel) fl_X10_80 rfl (shm_k hsm 53 (by decide) (by decide)) (v := 71) (shm_r hsm 53 31 (by decide) (by decide)) ?_
    refine go_iload_n (show decode cX10_keepsAcross 22 = .ok (.iload_n 1, 1) by decide +kernel) (by rfl) ?_
    refine go_aload_n (show decode cX10_keepsAcross 23 = .ok (.aload_n 0, 1) by decide +kernel) (by rfl) ?_
    refine go_getRc (show decode cX10_keepsAcross 24 = .ok (.getfield 68, 3) by decide +kernel) fl_X10_68 rfl (shm_k hsm 53 (by decide) (by decide)) (v := 67) (shm_r hsm 53 19 (by decide) (by decide)) ?_
    refine go_iload_n (show decode cX10_keepsAcross 27 = .ok (.iload_n 1, 1) by decide +kernel) (by rfl) ?_
    obtain ⟨q1, h⟩ := h
    obtain ⟨q2, h⟩ := h
    refine go_iaload (show decode cX10_keepsAcross 28 = .ok (.iaload, 1) by decide +kernel) (shm_k hsm 67 (by decide) (by decide)) q1 (lt_n (m := 64) q2 (shm_n hsm 67 (by decide) (by decide))) ?_
    refine go_iastore (show decode cX10_keepsAcross 29 = .ok (.iastore, 1) by decide +kernel) (shm_k hsm 71 (by decide) (by decide)) q1 (lt_n (m := 64) q2 (shm_n hsm 71 (by decide) (by decide)))  ?_
    obtain ⟨G3, G3e⟩ : ∃ G3 : AG, G3 = gu G 71 a1 (G 67 a1) := ⟨_, rfl⟩
    have h := h G3 G3e
    rw [← G3e]
    obtain ⟨q4, h⟩ := h
    refine go_iinc (show decode cX10_keepsAcross 30 = .ok (.iinc 1 1, 3) by decide +kernel) (by rfl) q4 (by decide) ?_
    show Go d MX10_keepsAcross 33 [some (vR 53), some (vI (a1 + 1))] [] S F G3 Q
    refine go_goto (tgt := 10) (show decode cX10_keepsAcross 33 = .ok (.goto (-23), 3) by decide +kernel) (by decide) ?_
    exact h
def V_X10_keepsAcross_0 (d : Nat) (S : AS) (F : AF) (G : AG) (Q : AQ)  : Prop :=
  ∀ F1 : AF, F1 = fu F 53 32 (F 53 20) →
  Go d MX10_keepsAcross 10 [some (vR 53), some (vI 0)] [] S F1 G Q
theorem R_X10_keepsAcross_0 {d : Nat} {S : AS} {F : AF} {G : AG} {Q : AQ}  (hsm : ShM S) (h : V_X10_keepsAcross_0 d S F G Q ) : Go d MX10_keepsAcross 0 [some (vR 53), none] [] S F G Q := by
  unfold V_X10_keepsAcross_0 at h
  refine go_aload_n (show decode cX10_keepsAcross 0 = .ok (.aload_n 0, 1) by decide +kernel) (by rfl) ?_
  refine go_aload_n (show decode cX10_keepsAcross 1 = .ok (.aload_n 0, 1) by decide +kernel) (by rfl) ?_
  refine go_getI (show decode cX10_keepsAcross 2 = .ok (.getfield 142, 3) by decide +kernel) fl_X10_142 (Or.inl rfl) (shm_k hsm 53 (by decide) (by decide)) ?_
  refine go_putI (show decode cX10_keepsAcross 5 = .ok (.putfield 272, 3) by decide +kernel) fl_X10_272 rfl (Or.inl rfl) (shm_k hsm 53 (by decide) (by decide)) ?_
  obtain ⟨F1, F1e⟩ : ∃ F1 : AF, F1 = fu F 53 32 (F 53 20) := ⟨_, rfl⟩
  have h := h F1 F1e
  rw [← F1e]
  refine go_iconst (show decode cX10_keepsAcross 8 = .ok (.iconst 0, 1) by decide +kernel) (by decide) ?_
  refine go_istore_n (show decode cX10_keepsAcross 9 = .ok (.istore_n 1, 1) by decide +kernel) (by decide) ?_
  show Go d MX10_keepsAcross 10 [some (vR 53), some (vI 0)] [] S F1 G Q
  exact h
def V_X10_isInside_0 (d : Nat) (S : AS) (F : AF) (G : AG) (Q : AQ) (a0 : Int) (a1 : Int) (a2 : Int) (a3 : Int) (a4 : Int) (a5 : Int) : Prop :=
  ((a0 < a2) →
    Q (some (vI 0)) S F G) ∧
  ((¬ a0 < a2) →
    ((a4 < a0) →
      Q (some (vI 0)) S F G) ∧
    ((¬ a4 < a0) →
      ((a1 < a3) →
        Q (some (vI 0)) S F G) ∧
      ((¬ a1 < a3) →
        ((a5 < a1) →
          Q (some (vI 0)) S F G) ∧
        ((¬ a5 < a1) →
          Q (some (vI 1)) S F G))))
theorem R_X10_isInside_0 {d : Nat} {S : AS} {F : AF} {G : AG} {Q : AQ} {a0 : Int} {a1 : Int} {a2 : Int} {a3 : Int} {a4 : Int} {a5 : Int} (hsm : ShM S) (h : V_X10_isInside_0 d S F G Q a0 a1 a2 a3 a4 a5) : Go d MX10_isInside 0 [some (vI a0), some (vI a1), some (vI a2), some (vI a3), some (vI a4), some (vI a5)] [] S F G Q := by
  unfold V_X10_isInside_0 at h
  refine go_iload_n (show decode cX10_isInside 0 = .ok (.iload_n 0, 1) by decide +kernel) (by rfl) ?_
  refine go_iload_n (show decode cX10_isInside 1 = .ok (.iload_n 2, 1) by decide +kernel) (by rfl) ?_
  obtain ⟨ht, hf⟩ := h
  refine go_icmplt (tgt := 26) (show decode cX10_isInside 2 = .ok (.if_icmp .lt 24, 3) by decide +kernel) (by decide) (fun hc => ?_) (fun hc => ?_)
  · have h := ht hc
    refine go_iconst (show decode cX10_isInside 26 = .ok (.iconst 0, 1) by decide +kernel) (by decide) ?_
    exact go_zret (show decode cX10_isInside 27 = .ok (.ireturn, 1) by decide +kernel) rfl (by decide) h
  · have h := hf hc
    refine go_iload_n (show decode cX10_isInside 5 = .ok (.iload_n 0, 1) by decide +kernel) (by rfl) ?_
    refine go_iload (show decode cX10_isInside 6 = .ok (.iload 4, 2) by decide +kernel) (by rfl) ?_
    obtain ⟨ht, hf⟩ := h
    refine go_icmpgt (tgt := 26) (show decode cX10_isInside 8 = .ok (.if_icmp .gt 18, 3) by decide +kernel) (by decide) (fun hc => ?_) (fun hc => ?_)
    · have h := ht hc
      refine go_iconst (show decode cX10_isInside 26 = .ok (.iconst 0, 1) by decide +kernel) (by decide) ?_
      exact go_zret (show decode cX10_isInside 27 = .ok (.ireturn, 1) by decide +kernel) rfl (by decide) h
    · have h := hf hc
      refine go_iload_n (show decode cX10_isInside 11 = .ok (.iload_n 1, 1) by decide +kernel) (by rfl) ?_
      refine go_iload_n (show decode cX10_isInside 12 = .ok (.iload_n 3, 1) by decide +kernel) (by rfl) ?_
      obtain ⟨ht, hf⟩ := h
      refine go_icmplt (tgt := 26) (show decode cX10_isInside 13 = .ok (.if_icmp .lt 13, 3) by decide +kernel) (by decide) (fun hc => ?_) (fun hc => ?_)
      · have h := ht hc
        refine go_iconst (show decode cX10_isInside 26 = .ok (.iconst 0, 1) by decide +kernel) (by decide) ?_
        exact go_zret (show decode cX10_isInside 27 = .ok (.ireturn, 1) by decide +kernel) rfl (by decide) h
      · have h := hf hc
        refine go_iload_n (show decode cX10_isInside 16 = .ok (.iload_n 1, 1) by decide +kernel) (by rfl) ?_
        refine go_iload (show decode cX10_isInside 17 = .ok (.iload 5, 2) by decide +kernel) (by rfl) ?_
        obtain ⟨ht, hf⟩ := h
        refine go_icmpgt (tgt := 26) (show decode cX10_isInside 19 = .ok (.if_icmp .gt 7, 3) by decide +kernel) (by decide) (fun hc => ?_) (fun hc => ?_)
        · have h := ht hc
          refine go_iconst (show decode cX10_isInside 26 = .ok (.iconst 0, 1) by decide +kernel) (by decide) ?_
          exact go_zret (show decode cX10_isInside 27 = .ok (.ireturn, 1) by decide +kernel) rfl (by decide) h
        · have h := hf hc
          refine go_iconst (show decode cX10_isInside 22 = .ok (.iconst 1, 1) by decide +kernel) (by decide) ?_
          refine go_goto (tgt := 27) (show decode cX10_isInside 23 = .ok (.goto 4, 3) by decide +kernel) (by decide) ?_
          exact go_zret (show decode cX10_isInside 27 = .ok (.ireturn, 1) by decide +kernel) rfl (by decide) h
def V_X10_cell_0 (d : Nat) (S : AS) (F : AF) (G : AG) (Q : AQ) (a1 : Int) (a2 : Int) (a3 : Int) : Prop :=
  (1 ≤ d) ∧
  ∃ z6 : Int, Pu (d - 1) MX10_blockAt [vR 53, vI 0, vI a2] S F G (some (vI z6)) ∧
  ∃ z12 : Int, Pu (d - 1) MX10_blockAt [vR 53, vI 1, vI a3] S F G (some (vI z12)) ∧
  ∃ z18 : Int, Pu (d - 1) MX10_in [vR 53, vI a1, vI z6, vI z12] S F G (some (vJ z18)) ∧
  Q (some (vJ z18)) S F G
theorem R_X10_cell_0 {d : Nat} {S : AS} {F : AF} {G : AG} {Q : AQ} {a1 : Int} {a2 : Int} {a3 : Int} (hsm : ShM S) (h : V_X10_cell_0 d S F G Q a1 a2 a3) : Go d MX10_cell 0 [some (vR 53), some (vI a1), some (vI a2), some (vI a3)] [] S F G Q := by
  unfold V_X10_cell_0 at h
  refine go_aload_n (show decode cX10_cell 0 = .ok (.aload_n 0, 1) by decide +kernel) (by rfl) ?_
  refine go_iload_n (show decode cX10_cell 1 = .ok (.iload_n 1, 1) by decide +kernel) (by rfl) ?_
  refine go_aload_n (show decode cX10_cell 2 = .ok (.aload_n 0, 1) by decide +kernel) (by rfl) ?_
  refine go_iconst (show decode cX10_cell 3 = .ok (.iconst 0, 1) by decide +kernel) (by decide) ?_
  refine go_iload_n (show decode cX10_cell 4 = .ok (.iload_n 2, 1) by decide +kernel) (by rfl) ?_
  obtain ⟨q1, h⟩ := h
  obtain ⟨z6, p7, h⟩ := h
  refine go_callV (d2 := d - 1) (M2 := MX10_blockAt) (n := 2) (ci := 10) (av := [vI 0, vI a2]) (st := [vI a1, vR 53]) (show decode cX10_cell 5 = .ok (.invokevirtual 265, 3) by decide +kernel) ml_X10_265 mt_X10_blockAt min_X10_blockAt mse_X10_blockAt (by decide) (shm_k hsm 53 (by decide) (by decide)) rfl (Nat.le_of_ble_eq_true rfl) (by omega) (ok_mono p7 (fun w2 S3 F4 G5 e9 => ?_))
  obtain ⟨e1, e2, e3, e4⟩ := e9
  subst e1
  replace e2 := e2.symm; subst e2
  replace e3 := e3.symm; subst e3
  replace e4 := e4.symm; subst e4
  show Go d MX10_cell 8 [some (vR 53), some (vI a1), some (vI a2), some (vI a3)] [vI z6, vI a1, vR 53] S F G Q
  refine go_aload_n (show decode cX10_cell 8 = .ok (.aload_n 0, 1) by decide +kernel) (by rfl) ?_
  refine go_iconst (show decode cX10_cell 9 = .ok (.iconst 1, 1) by decide +kernel) (by decide) ?_
  refine go_iload_n (show decode cX10_cell 10 = .ok (.iload_n 3, 1) by decide +kernel) (by rfl) ?_
  obtain ⟨z12, p13, h⟩ := h
  refine go_callV (d2 := d - 1) (M2 := MX10_blockAt) (n := 2) (ci := 10) (av := [vI 1, vI a3]) (st := [vI z6, vI a1, vR 53]) (show decode cX10_cell 11 = .ok (.invokevirtual 265, 3) by decide +kernel) ml_X10_265 mt_X10_blockAt min_X10_blockAt mse_X10_blockAt (by decide) (shm_k hsm 53 (by decide) (by decide)) rfl (Nat.le_of_ble_eq_true rfl) (by omega) (ok_mono p13 (fun w8 S9 F10 G11 e9 => ?_))
  obtain ⟨e1, e2, e3, e4⟩ := e9
  subst e1
  replace e2 := e2.symm; subst e2
  replace e3 := e3.symm; subst e3
  replace e4 := e4.symm; subst e4
  show Go d MX10_cell 14 [some (vR 53), some (vI a1), some (vI a2), some (vI a3)] [vI z12, vI z6, vI a1, vR 53] S F G Q
  obtain ⟨z18, p19, h⟩ := h
  refine go_callV (d2 := d - 1) (M2 := MX10_in) (n := 3) (ci := 10) (av := [vI a1, vI z6, vI z12]) (st := []) (show decode cX10_cell 14 = .ok (.invokevirtual 163, 3) by decide +kernel) ml_X10_163 mt_X10_in min_X10_in mse_X10_in (by decide) (shm_k hsm 53 (by decide) (by decide)) rfl (Nat.le_of_ble_eq_true rfl) (by omega) (ok_mono p19 (fun w14 S15 F16 G17 e9 => ?_))
  obtain ⟨e1, e2, e3, e4⟩ := e9
  subst e1
  replace e2 := e2.symm; subst e2
  replace e3 := e3.symm; subst e3
  replace e4 := e4.symm; subst e4
  show Go d MX10_cell 17 [some (vR 53), some (vI a1), some (vI a2), some (vI a3)] [vJ z18] S F G Q
  exact go_lret (show decode cX10_cell 17 = .ok (.lreturn, 1) by decide +kernel) rfl h
def V_X10_comesAcross_6 (d : Nat) (S : AS) (F : AF) (G : AG) (Q : AQ) (a1 : Int) : Prop :=
  ((F 53 32 ≤ a1) →
    Q none S F G) ∧
  ((¬ F 53 32 ≤ a1) →
    ((0 : Int) ≤ a1) ∧
    ((a1 : Int) < 64) ∧
    (1 ≤ d) ∧
    Ok (d - 1) MX10_comes [vR 53, vI 0, vI (G 71 a1)] S F G (fun w4 S5 F6 G7 =>
    S5 = S ∧
    w4 = none ∧
    (r32 (a1 + 1)) ∧
    Go d MX10_comesAcross 6 [some (vR 53), some (vI (a1 + 1))] [] S F6 G7 Q))
theorem R_X10_comesAcross_6 {d : Nat} {S : AS} {F : AF} {G : AG} {Q : AQ} {a1 : Int} (hsm : ShM S) (h : V_X10_comesAcross_6 d S F G Q a1) : Go d MX10_comesAcross 6 [some (vR 53), some (vI a1)] [] S F G Q := by
  unfold V_X10_comesAcross_6 at h
  refine go_iload_n (show decode cX10_comesAcross 6 = .ok (.iload_n 1, 1) by decide +kernel) (by rfl) ?_
  refine go_aload_n (show decode cX10_comesAcross 7 = .ok (.aload_n 0, 1) by decide +kernel) (by rfl) ?_
  refine go_getI (show decode cX10_comesAcross 8 = .ok (.getfield 272, 3) by decide +kernel) fl_X10_272 (Or.inl rfl) (shm_k hsm 53 (by decide) (by decide)) ?_
  obtain ⟨ht, hf⟩ := h
  refine go_icmpge (tgt := 31) (show decode cX10_comesAcross 11 = .ok (.if_icmp .ge 20, 3) by decide +kernel) (by decide) (fun hc => ?_) (fun hc => ?_)
  · have h := ht hc
    exact go_vret (show decode cX10_comesAcross 31 = .ok (.return_, 1) by decide +kernel) rfl h
  · have h := hf hc
    refine go_aload_n (show decode cX10_comesAcross 14 = .ok (.aload_n 0, 1) by decide +kernel) (by rfl) ?_
    refine go_iconst (show decode cX10_comesAcross 15 = .ok (.iconst 0, 1) by decide +kernel) (by decide) ?_
    refine go_aload_n (show decode cX10_comesAcross 16 = .ok (.aload_n 0, 1) by decide +kernel) (by rfl) ?_
    refine go_getRc (show decode cX10_comesAcross 17 = .ok (.getfield 80, 3) by decide +kernel) fl_X10_80 rfl (shm_k hsm 53 (by decide) (by decide)) (v := 71) (shm_r hsm 53 31 (by decide) (by decide)) ?_
    refine go_iload_n (show decode cX10_comesAcross 20 = .ok (.iload_n 1, 1) by decide +kernel) (by rfl) ?_
    obtain ⟨q1, h⟩ := h
    obtain ⟨q2, h⟩ := h
    refine go_iaload (show decode cX10_comesAcross 21 = .ok (.iaload, 1) by decide +kernel) (shm_k hsm 71 (by decide) (by decide)) q1 (lt_n (m := 64) q2 (shm_n hsm 71 (by decide) (by decide))) ?_
    obtain ⟨q3, h⟩ := h
    refine go_callV (d2 := d - 1) (M2 := MX10_comes) (n := 2) (ci := 10) (av := [vI 0, vI (G 71 a1)]) (st := []) (show decode cX10_comesAcross 22 = .ok (.invokevirtual 210, 3) by decide +kernel) ml_X10_210 mt_X10_comes min_X10_comes mse_X10_comes (by decide) (shm_k hsm 53 (by decide) (by decide)) rfl (Nat.le_of_ble_eq_true rfl) (by omega) (ok_mono h (fun w4 S5 F6 G7 h => ?_))
    obtain ⟨e8, h⟩ := h
    replace e8 := e8.symm; subst e8
    obtain ⟨e9, h⟩ := h
    subst e9
    show Go d MX10_comesAcross 25 [some (vR 53), some (vI a1)] [] S F6 G7 Q
    obtain ⟨q8, h⟩ := h
    refine go_iinc (show decode cX10_comesAcross 25 = .ok (.iinc 1 1, 3) by decide +kernel) (by rfl) q8 (by decide) ?_
    show Go d MX10_comesAcross 28 [some (vR 53), some (vI (a1 + 1))] [] S F6 G7 Q
    refine go_goto (tgt := 6) (show decode cX10_comesAcross 28 = .ok (.goto (-22), 3) by decide +kernel) (by decide) ?_
    exact h
def V_X10_comesAcross_0 (d : Nat) (S : AS) (F : AF) (G : AG) (Q : AQ)  : Prop :=
  (1 ≤ d) ∧
  Ok (d - 1) MX10_acts [vR 53] S F G (fun w2 S3 F4 G5 =>
  S3 = S ∧
  w2 = none ∧
  Go d MX10_comesAcross 6 [some (vR 53), some (vI 0)] [] S F4 G5 Q)
theorem R_X10_comesAcross_0 {d : Nat} {S : AS} {F : AF} {G : AG} {Q : AQ}  (hsm : ShM S) (h : V_X10_comesAcross_0 d S F G Q ) : Go d MX10_comesAcross 0 [some (vR 53), none] [] S F G Q := by
  unfold V_X10_comesAcross_0 at h
  refine go_aload_n (show decode cX10_comesAcross 0 = .ok (.aload_n 0, 1) by decide +kernel) (by rfl) ?_
  obtain ⟨q1, h⟩ := h
  refine go_callV (d2 := d - 1) (M2 := MX10_acts) (n := 0) (ci := 10) (av := []) (st := []) (show decode cX10_comesAcross 1 = .ok (.invokevirtual 207, 3) by decide +kernel) ml_X10_207 mt_X10_acts min_X10_acts mse_X10_acts (by decide) (shm_k hsm 53 (by decide) (by decide)) rfl (Nat.le_of_ble_eq_true rfl) (by omega) (ok_mono h (fun w2 S3 F4 G5 h => ?_))
  obtain ⟨e8, h⟩ := h
  replace e8 := e8.symm; subst e8
  obtain ⟨e9, h⟩ := h
  subst e9
  show Go d MX10_comesAcross 4 [some (vR 53), none] [] S F4 G5 Q
  refine go_iconst (show decode cX10_comesAcross 4 = .ok (.iconst 0, 1) by decide +kernel) (by decide) ?_
  refine go_istore_n (show decode cX10_comesAcross 5 = .ok (.istore_n 1, 1) by decide +kernel) (by decide) ?_
  show Go d MX10_comesAcross 6 [some (vR 53), some (vI 0)] [] S F4 G5 Q
  exact h
def V_X10_comesAll_7 (d : Nat) (S : AS) (F : AF) (G : AG) (Q : AQ) (a1 : Int) (a2 : Int) (a3 : Int) : Prop :=
  ((a2 ≤ a3) →
    Q none S F G) ∧
  ((¬ a2 ≤ a3) →
    ((0 : Int) ≤ a3) ∧
    ((a3 : Int) < 64) ∧
    (1 ≤ d) ∧
    Ok (d - 1) MX10_comes [vR 53, vI a1, vI (G 67 a3)] S F G (fun w4 S5 F6 G7 =>
    S5 = S ∧
    w4 = none ∧
    (r32 (a3 + 1)) ∧
    Go d MX10_comesAll 7 [some (vR 53), some (vI a1), some (vI a2), some (vI (a3 + 1))] [] S F6 G7 Q))
theorem R_X10_comesAll_7 {d : Nat} {S : AS} {F : AF} {G : AG} {Q : AQ} {a1 : Int} {a2 : Int} {a3 : Int} (hsm : ShM S) (h : V_X10_comesAll_7 d S F G Q a1 a2 a3) : Go d MX10_comesAll 7 [some (vR 53), some (vI a1), some (vI a2), some (vI a3)] [] S F G Q := by
  unfold V_X10_comesAll_7 at h
  refine go_iload_n (show decode cX10_comesAll 7 = .ok (.iload_n 3, 1) by decide +kernel) (by rfl) ?_
  refine go_iload_n (show decode cX10_comesAll 8 = .ok (.iload_n 2, 1) by decide +kernel) (by rfl) ?_
  obtain ⟨ht, hf⟩ := h
  refine go_icmpge (tgt := 29) (show decode cX10_comesAll 9 = .ok (.if_icmp .ge 20, 3) by decide +kernel) (by decide) (fun hc => ?_) (fun hc => ?_)
  · have h := ht hc
    exact go_vret (show decode cX10_comesAll 29 = .ok (.return_, 1) by decide +kernel) rfl h
  · have h := hf hc
    refine go_aload_n (show decode cX10_comesAll 12 = .ok (.aload_n 0, 1) by decide +kernel) (by rfl) ?_
    refine go_iload_n (show decode cX10_comesAll 13 = .ok (.iload_n 1, 1) by decide +kernel) (by rfl) ?_
    refine go_aload_n (show decode cX10_comesAll 14 = .ok (.aload_n 0, 1) by decide +kernel) (by rfl) ?_
    refine go_getRc (show decode cX10_comesAll 15 = .ok (.getfield 68, 3) by decide +kernel) fl_X10_68 rfl (shm_k hsm 53 (by decide) (by decide)) (v := 67) (shm_r hsm 53 19 (by decide) (by decide)) ?_
    refine go_iload_n (show decode cX10_comesAll 18 = .ok (.iload_n 3, 1) by decide +kernel) (by rfl) ?_
    obtain ⟨q1, h⟩ := h
    obtain ⟨q2, h⟩ := h
    refine go_iaload (show decode cX10_comesAll 19 = .ok (.iaload, 1) by decide +kernel) (shm_k hsm 67 (by decide) (by decide)) q1 (lt_n (m := 64) q2 (shm_n hsm 67 (by decide) (by decide))) ?_
    obtain ⟨q3, h⟩ := h
    refine go_callV (d2 := d - 1) (M2 := MX10_comes) (n := 2) (ci := 10) (av := [vI a1, vI (G 67 a3)]) (st := []) (show decode cX10_comesAll 20 = .ok (.invokevirtual 210, 3) by decide +kernel) ml_X10_210 mt_X10_comes min_X10_comes mse_X10_comes (by decide) (shm_k hsm 53 (by decide) (by decide)) rfl (Nat.le_of_ble_eq_true rfl) (by omega) (ok_mono h (fun w4 S5 F6 G7 h => ?_))
    obtain ⟨e8, h⟩ := h
    replace e8 := e8.symm; subst e8
    obtain ⟨e9, h⟩ := h
    subst e9
    show Go d MX10_comesAll 23 [some (vR 53), some (vI a1), some (vI a2), some (vI a3)] [] S F6 G7 Q
    obtain ⟨q8, h⟩ := h
    refine go_iinc (show decode cX10_comesAll 23 = .ok (.iinc 3 1, 3) by decide +kernel) (by rfl) q8 (by decide) ?_
    show Go d MX10_comesAll 26 [some (vR 53), some (vI a1), some (vI a2), some (vI (a3 + 1))] [] S F6 G7 Q
    refine go_goto (tgt := 7) (show decode cX10_comesAll 26 = .ok (.goto (-19), 3) by decide +kernel) (by decide) ?_
    exact h
def V_X10_comesAll_0 (d : Nat) (S : AS) (F : AF) (G : AG) (Q : AQ) (a1 : Int) : Prop :=
  ∀ x1 : Int, x1 = F 53 20 →
  Go d MX10_comesAll 7 [some (vR 53), some (vI a1), some (vI x1), some (vI 0)] [] S F G Q
theorem R_X10_comesAll_0 {d : Nat} {S : AS} {F : AF} {G : AG} {Q : AQ} {a1 : Int} (hsm : ShM S) (h : V_X10_comesAll_0 d S F G Q a1) : Go d MX10_comesAll 0 [some (vR 53), some (vI a1), none, none] [] S F G Q := by
  unfold V_X10_comesAll_0 at h
  refine go_aload_n (show decode cX10_comesAll 0 = .ok (.aload_n 0, 1) by decide +kernel) (by rfl) ?_
  refine go_getI (show decode cX10_comesAll 1 = .ok (.getfield 142, 3) by decide +kernel) fl_X10_142 (Or.inl rfl) (shm_k hsm 53 (by decide) (by decide)) ?_
  obtain ⟨x1, x1e⟩ : ∃ x1 : Int, x1 = F 53 20 := ⟨_, rfl⟩
  have h := h x1 x1e
  rw [← x1e]
  refine go_istore_n (show decode cX10_comesAll 4 = .ok (.istore_n 2, 1) by decide +kernel) (by decide) ?_
  show Go d MX10_comesAll 5 [some (vR 53), some (vI a1), some (vI x1), none] [] S F G Q
  refine go_iconst (show decode cX10_comesAll 5 = .ok (.iconst 0, 1) by decide +kernel) (by decide) ?_
  refine go_istore_n (show decode cX10_comesAll 6 = .ok (.istore_n 3, 1) by decide +kernel) (by decide) ?_
  show Go d MX10_comesAll 7 [some (vR 53), some (vI a1), some (vI x1), some (vI 0)] [] S F G Q
  exact h
