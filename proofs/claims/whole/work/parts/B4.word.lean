section
/-! THE WORDS OF THE REFERENCE -/
def kO (w : Nat) : Int := [0, 4, 9, 15, 22, 29].getD w 0
theorem kO_all : ∀ w : Nat, w < 5 → 0 ≤ kO w ∧ kO w + (wL w).length < 29 ∧ kO (w + 1) = kO w + ((wL w).length + 1) ∧ chS 5 (kO w + (wL w).length) = 32 ∧ ∀ j : Nat, j < 6 → j < (wL w).length → chS 5 (kO w + j) = (wL w).getD j 0 ∧ ¬ (wL w).getD j 0 = 32 := by decide +kernel
theorem l5 : lenS.getD 5 0 = 29 := rfl
/-- one word of the list -/
theorem go_word {d : Nat} {S : AS} {F : AF} {G : AG} (hd : 4 ≤ d) (hsm : ShM S) {le : Int} (p0 : 0 ≤ F 53 36) (l0 : 0 ≤ le) (l1 : le ≤ 10000) (lb : 3 ≤ le → F 53 36 + le ≤ 500) {w : Nat} (hw : w < 5) {x4 x5 x6 : Option AV} {Q : AQ} (ht : mw (G 72) (F 53 36) (F 53 36 + le) (wL w) → Q (some (vI w)) S F G) (hf : ¬ mw (G 72) (F 53 36) (F 53 36 + le) (wL w) → ∀ y4 y5 y6 : Option AV, Go d MX10_wordNext 9 [some (vR 53), some (vI le), some (vI ((w : Int) + 1)), some (vI (kO (w + 1))), y4, y5, y6] [] S F G Q) : Go d MX10_wordNext 9 [some (vR 53), some (vI le), some (vI w), some (vI (kO w)), x4, x5, x6] [] S F G Q := by
  obtain ⟨k0, k1, k2, k3, k4⟩ := kO_all w hw
  obtain ⟨-, wl2, wl3⟩ := wl_len9 w hw
  have k53 := shm_k hsm 53 (by decide) (by decide)
  have ch : ∀ j : Int, 0 ≤ j → j < (wL w).length → chS 5 (kO w + j) = (wL w).getD j.toNat 0 ∧ ¬ chS 5 (kO w + j) = 32 := by
    intro j j0 j1
    have := k4 j.toNat (by omega) (by omega)
    rw [show ((j.toNat : Nat) : Int) = j by omega] at this
    exact ⟨this.1, by rw [this.1]; exact this.2⟩
  -- behind the comparison
  have fin : ∀ (sm i : Int) (y5 y6 : Option AV), (sm = 1 ∧ mw (G 72) (F 53 36) (F 53 36 + le) (wL w)) ∨ (sm = 0 ∧ ¬ mw (G 72) (F 53 36) (F 53 36 + le) (wL w)) → Go d MX10_wordNext 109 [some (vR 53), some (vI le), some (vI w), some (vI (kO w)), some (vI (wL w).length), some (vI sm), some (vI i)] [] S F G Q := by
    intro sm i y5 y6 h
    refine go_iload (show decode cX10_wordNext 109 = .ok (.iload 5, 2) by decide +kernel) (by rfl) ?_
    rcases h with ⟨e, h⟩ | ⟨e, h⟩
    · rw [e]
      refine go_ifeq (x := 1) (tgt := 116) (show decode cX10_wordNext 111 = .ok (.ifCond .eq 5, 3) by decide +kernel) (by decide) (fun z => absurd z (by decide)) (fun _ => ?_)
      refine go_iload_n (show decode cX10_wordNext 114 = .ok (.iload_n 2, 1) by decide +kernel) (by rfl) ?_
      exact go_iret (show decode cX10_wordNext 115 = .ok (.ireturn, 1) by decide +kernel) rfl (ht h)
    · rw [e]
      refine go_ifeq (x := 0) (tgt := 116) (show decode cX10_wordNext 111 = .ok (.ifCond .eq 5, 3) by decide +kernel) (by decide) (fun _ => ?_) (fun z => absurd rfl z)
      refine go_iload_n (show decode cX10_wordNext 116 = .ok (.iload_n 3, 1) by decide +kernel) (by rfl) ?_
      refine go_iload (show decode cX10_wordNext 117 = .ok (.iload 4, 2) by decide +kernel) (by rfl) ?_
      refine go_iconst (show decode cX10_wordNext 119 = .ok (.iconst 1, 1) by decide +kernel) (by decide) ?_
      refine go_iadd (show decode cX10_wordNext 120 = .ok (.iadd, 1) by decide +kernel) (by omega) ?_
      refine go_iadd (show decode cX10_wordNext 121 = .ok (.iadd, 1) by decide +kernel) (by omega) ?_
      refine go_istore_n (show decode cX10_wordNext 122 = .ok (.istore_n 3, 1) by decide +kernel) (by decide) ?_
      refine go_iinc (show decode cX10_wordNext 123 = .ok (.iinc 2 1, 3) by decide +kernel) (by rfl) (by omega) (by decide) ?_
      refine go_goto (tgt := 9) (show decode cX10_wordNext 126 = .ok (.goto (-117), 3) by decide +kernel) (by decide) ?_
      rw [← k2]
      exact hf h _ _ _
  -- the comparison
  have cmp : ∀ sm : Int, (sm = 1 ∧ le = (wL w).length) ∨ (sm = 0 ∧ ¬ le = (wL w).length) → Go d MX10_wordNext 59 [some (vR 53), some (vI le), some (vI w), some (vI (kO w)), some (vI (wL w).length), some (vI sm), some (vI 0)] [] S F G Q := by
    intro sm hsm0
    refine up_ind (α := Int) ((wL w).length) (fun i sm => 0 ≤ i ∧ i ≤ (wL w).length ∧ ((sm = 1 ∧ le = (wL w).length ∧ ∀ t : Nat, (t : Int) < i → G 72 (F 53 36 + t) = (wL w).getD t 0) ∨ (sm = 0 ∧ ¬ mw (G 72) (F 53 36) (F 53 36 + le) (wL w)))) (fun i sm => Go d MX10_wordNext 59 [some (vR 53), some (vI le), some (vI w), some (vI (kO w)), some (vI (wL w).length), some (vI sm), some (vI i)] [] S F G Q) ?_ (fun i _ h hi => absurd h.2.1 hi) 0 sm ⟨by omega, by omega, ?_⟩
    · rintro i sm ⟨i0, i1, al⟩ hi ih
      refine go_iload (show decode cX10_wordNext 59 = .ok (.iload 6, 2) by decide +kernel) (by rfl) ?_
      refine go_iload (show decode cX10_wordNext 61 = .ok (.iload 4, 2) by decide +kernel) (by rfl) ?_
      refine go_icmpge (tgt := 109) (show decode cX10_wordNext 63 = .ok (.if_icmp .ge 46, 3) by decide +kernel) (by decide) (fun hc => ?_) (fun hc => ?_)
      · refine fin sm i none none ?_
        rcases al with ⟨e, e2, al⟩ | ⟨e, al⟩
        · exact Or.inl ⟨e, by omega, fun t tl => al t (by omega)⟩
        · exact Or.inr ⟨e, al⟩
      · refine go_iload (show decode cX10_wordNext 66 = .ok (.iload 5, 2) by decide +kernel) (by rfl) ?_
        refine go_ifeq (tgt := 109) (show decode cX10_wordNext 68 = .ok (.ifCond .eq 41, 3) by decide +kernel) (by decide) (fun hz => ?_) (fun hz => ?_)
        · refine fin sm i none none ?_
          rcases al with ⟨e, e2, al⟩ | ⟨e, al⟩
          · omega
          · exact Or.inr ⟨e, al⟩
        · rcases al with ⟨e, e2, al⟩ | ⟨e, al⟩
          · have lb' := lb (by omega)
            refine go_aload_n (show decode cX10_wordNext 71 = .ok (.aload_n 0, 1) by decide +kernel) (by rfl) ?_
            refine go_getRc (show decode cX10_wordNext 72 = .ok (.getfield 83, 3) by decide +kernel) fl_X10_83 rfl k53 (v := 72) (shm_r hsm 53 33 (by decide) (by decide)) ?_
            refine go_aload_n (show decode cX10_wordNext 75 = .ok (.aload_n 0, 1) by decide +kernel) (by rfl) ?_
            refine go_getI (show decode cX10_wordNext 76 = .ok (.getfield 316, 3) by decide +kernel) fl_X10_316 (Or.inl rfl) k53 ?_
            refine go_iload (show decode cX10_wordNext 79 = .ok (.iload 6, 2) by decide +kernel) (by rfl) ?_
            refine go_iadd (show decode cX10_wordNext 81 = .ok (.iadd, 1) by decide +kernel) (by omega) ?_
            refine go_baload (show decode cX10_wordNext 82 = .ok (.baload, 1) by decide +kernel) (shm_k hsm 72 (by decide) (by decide)) (by omega) (lt_n (m := 500) (by omega) (shm_n hsm 72 (by decide) (by decide))) ?_
            refine go_ldcwS (i := 5) (show decode cX10_wordNext 83 = .ok (.ldc_w 339, 3) by decide +kernel) (by decide) rfl rfl ?_
            refine go_iload_n (show decode cX10_wordNext 86 = .ok (.iload_n 3, 1) by decide +kernel) (by rfl) ?_
            refine go_iload (show decode cX10_wordNext 87 = .ok (.iload 6, 2) by decide +kernel) (by rfl) ?_
            refine go_iadd (show decode cX10_wordNext 89 = .ok (.iadd, 1) by decide +kernel) (by omega) ?_
            refine go_callVS (i := 5) (d2 := d - 1) (M2 := MJ0_charAt) (n := 1) (av := [vI (kO w + i)]) (st := [vI (G 72 (F 53 36 + i))]) (show decode cX10_wordNext 90 = .ok (.invokevirtual 346, 3) by decide +kernel) mlS_X10_346 mt_J0_charAt min_J0_charAt mse_J0_charAt (by decide) rfl (Nat.le_of_ble_eq_true rfl) (by omega) (ok_mono (pu_char (i := 5) (by omega) (by decide) (by omega) (by rw [l5]; omega)) (fun r S2 F2 G2 e => ?_))
            obtain ⟨e1, e2', e3, e4⟩ := e
            subst e1 e2' e3 e4
            have ci := (ch i i0 (by omega)).1
            refine go_icmpne (x := G2 72 (F2 53 36 + i)) (y := chS 5 (kO w + i)) (tgt := 100) (show decode cX10_wordNext 93 = .ok (.if_icmp .ne 7, 3) by decide +kernel) (by decide) (fun hc2 => ?_) (fun hc2 => ?_)
            · refine go_iconst (show decode cX10_wordNext 100 = .ok (.iconst 0, 1) by decide +kernel) (by decide) ?_
              refine go_istore (show decode cX10_wordNext 101 = .ok (.istore 5, 2) by decide +kernel) (by decide) ?_
              refine go_iinc (show decode cX10_wordNext 103 = .ok (.iinc 6 1, 3) by decide +kernel) (by rfl) (by omega) (by decide) ?_
              refine go_goto (tgt := 59) (show decode cX10_wordNext 106 = .ok (.goto (-47), 3) by decide +kernel) (by decide) ?_
              refine ih 0 ⟨by omega, by omega, Or.inr ⟨rfl, fun z => hc2 ?_⟩⟩
              rw [ci, ← z.2 i.toNat (by omega), show ((i.toNat : Nat) : Int) = i by omega]
            · refine go_iconst (show decode cX10_wordNext 96 = .ok (.iconst 1, 1) by decide +kernel) (by decide) ?_
              refine go_goto (tgt := 101) (show decode cX10_wordNext 97 = .ok (.goto 4, 3) by decide +kernel) (by decide) ?_
              refine go_istore (show decode cX10_wordNext 101 = .ok (.istore 5, 2) by decide +kernel) (by decide) ?_
              refine go_iinc (show decode cX10_wordNext 103 = .ok (.iinc 6 1, 3) by decide +kernel) (by rfl) (by omega) (by decide) ?_
              refine go_goto (tgt := 59) (show decode cX10_wordNext 106 = .ok (.goto (-47), 3) by decide +kernel) (by decide) ?_
              refine ih 1 ⟨by omega, by omega, Or.inl ⟨rfl, e2, fun t tl => ?_⟩⟩
              by_cases z : (t : Int) = i
              · rw [z, hc2, ci]
                congr 1
                omega
              · exact al t (by omega)
          · exact absurd e hz
    · rcases hsm0 with ⟨e, h⟩ | ⟨e, h⟩
      · exact Or.inl ⟨e, h, fun t z => absurd z (by omega)⟩
      · exact Or.inr ⟨e, fun z => h (by have := z.1; omega)⟩
  -- the head
  refine go_iload_n (show decode cX10_wordNext 9 = .ok (.iload_n 3, 1) by decide +kernel) (by rfl) ?_
  refine go_ldcwS (i := 5) (show decode cX10_wordNext 10 = .ok (.ldc_w 339, 3) by decide +kernel) (by decide) rfl rfl ?_
  refine go_callVS (i := 5) (d2 := d - 1) (M2 := MJ0_length) (n := 0) (av := []) (st := [vI (kO w)]) (show decode cX10_wordNext 13 = .ok (.invokevirtual 341, 3) by decide +kernel) mlS_X10_341 mt_J0_length min_J0_length mse_J0_length (by decide) rfl (Nat.le_of_ble_eq_true rfl) (by omega) (ok_mono (pu_slen (i := 5) (by omega) (by decide)) (fun r S1 F1 G1 e => ?_))
  obtain ⟨e1, e2, e3, e4⟩ := e
  subst e1 e2 e3 e4
  refine go_icmpge (x := kO w) (y := (lenS.getD 5 0 : Nat)) (tgt := 129) (show decode cX10_wordNext 16 = .ok (.if_icmp .ge 113, 3) by decide +kernel) (by decide) (fun hc => absurd hc (by rw [l5]; omega)) (fun _ => ?_)
  refine go_iconst (show decode cX10_wordNext 19 = .ok (.iconst 0, 1) by decide +kernel) (by decide) ?_
  refine go_istore (show decode cX10_wordNext 20 = .ok (.istore 4, 2) by decide +kernel) (by decide) ?_
  show Go d MX10_wordNext 22 [some (vR 53), some (vI le), some (vI w), some (vI (kO w)), some (vI 0), x5, x6] [] S1 F1 G1 Q
  refine up_ind (α := Unit) ((wL w).length) (fun n _ => 0 ≤ n ∧ n ≤ (wL w).length) (fun n _ => Go d MX10_wordNext 22 [some (vR 53), some (vI le), some (vI w), some (vI (kO w)), some (vI n), x5, x6] [] S1 F1 G1 Q) ?_ (fun n _ h hn => absurd h.2 hn) 0 () ⟨by omega, by omega⟩
  rintro n - ⟨n0, n1⟩ hn ih
  refine go_ldcwS (i := 5) (show decode cX10_wordNext 22 = .ok (.ldc_w 339, 3) by decide +kernel) (by decide) rfl rfl ?_
  refine go_iload_n (show decode cX10_wordNext 25 = .ok (.iload_n 3, 1) by decide +kernel) (by rfl) ?_
  refine go_iload (show decode cX10_wordNext 26 = .ok (.iload 4, 2) by decide +kernel) (by rfl) ?_
  refine go_iadd (show decode cX10_wordNext 28 = .ok (.iadd, 1) by decide +kernel) (by omega) ?_
  refine go_callVS (i := 5) (d2 := d - 1) (M2 := MJ0_charAt) (n := 1) (av := [vI (kO w + n)]) (st := []) (show decode cX10_wordNext 29 = .ok (.invokevirtual 346, 3) by decide +kernel) mlS_X10_346 mt_J0_charAt min_J0_charAt mse_J0_charAt (by decide) rfl (Nat.le_of_ble_eq_true rfl) (by omega) (ok_mono (pu_char (i := 5) (by omega) (by decide) (by omega) (by rw [l5]; omega)) (fun r S2 F2 G2 e => ?_))
  obtain ⟨e1, e2, e3, e4⟩ := e
  subst e1 e2 e3 e4
  refine go_bipush (show decode cX10_wordNext 32 = .ok (.bipush 32, 2) by decide +kernel) (by decide) ?_
  refine go_icmpeq (x := chS 5 (kO w + n)) (y := 32) (tgt := 43) (show decode cX10_wordNext 34 = .ok (.if_icmp .eq 9, 3) by decide +kernel) (by decide) (fun hc => ?_) (fun hc => ?_)
  · have en : n = (wL w).length := by
      rcases Int.lt_or_le n (wL w).length with z | z
      · exact absurd hc (ch n n0 z).2
      · omega
    subst en
    refine go_iload (show decode cX10_wordNext 43 = .ok (.iload 4, 2) by decide +kernel) (by rfl) ?_
    refine go_iload_n (show decode cX10_wordNext 45 = .ok (.iload_n 1, 1) by decide +kernel) (by rfl) ?_
    refine go_icmpne (tgt := 53) (show decode cX10_wordNext 46 = .ok (.if_icmp .ne 7, 3) by decide +kernel) (by decide) (fun hc2 => ?_) (fun hc2 => ?_)
    · refine go_iconst (show decode cX10_wordNext 53 = .ok (.iconst 0, 1) by decide +kernel) (by decide) ?_
      refine go_istore (show decode cX10_wordNext 54 = .ok (.istore 5, 2) by decide +kernel) (by decide) ?_
      refine go_iconst (show decode cX10_wordNext 56 = .ok (.iconst 0, 1) by decide +kernel) (by decide) ?_
      refine go_istore (show decode cX10_wordNext 57 = .ok (.istore 6, 2) by decide +kernel) (by decide) ?_
      exact cmp 0 (Or.inr ⟨rfl, fun z => hc2 z.symm⟩)
    · refine go_iconst (show decode cX10_wordNext 49 = .ok (.iconst 1, 1) by decide +kernel) (by decide) ?_
      refine go_goto (tgt := 54) (show decode cX10_wordNext 50 = .ok (.goto 4, 3) by decide +kernel) (by decide) ?_
      refine go_istore (show decode cX10_wordNext 54 = .ok (.istore 5, 2) by decide +kernel) (by decide) ?_
      refine go_iconst (show decode cX10_wordNext 56 = .ok (.iconst 0, 1) by decide +kernel) (by decide) ?_
      refine go_istore (show decode cX10_wordNext 57 = .ok (.istore 6, 2) by decide +kernel) (by decide) ?_
      exact cmp 1 (Or.inl ⟨rfl, hc2.symm⟩)
  · have nl : n < (wL w).length := by
      rcases Int.lt_or_le n (wL w).length with z | z
      · exact z
      · exact absurd (by rw [show n = (wL w).length by omega]; exact k3) hc
    refine go_iinc (show decode cX10_wordNext 37 = .ok (.iinc 4 1, 3) by decide +kernel) (by rfl) (by omega) (by decide) ?_
    refine go_goto (tgt := 22) (show decode cX10_wordNext 40 = .ok (.goto (-18), 3) by decide +kernel) (by decide) ?_
    exact ih () ⟨by omega, by omega⟩
theorem kwm {S : AS} (hsm : ShM S) : KWm S := by
  classical
  intro d F G Q hd hb h hq
  obtain ⟨h1, h2, h3, h4⟩ := id h
  have sp := sk_sp (G 72) (F 53 35) (F 53 36)
  have g : Go d MX10_wordNext 0 [some (vR 53), none, none, none, none, none, none] [] S F G Q := by
    refine go_aload_n (show decode cX10_wordNext 0 = .ok (.aload_n 0, 1) by decide +kernel) (by rfl) ?_
    refine go_callV (ci := 10) (d2 := d - 1) (M2 := MX10_lettersHere) (n := 0) (av := []) (st := []) (show decode cX10_wordNext 1 = .ok (.invokevirtual 336, 3) by decide +kernel) ml_X10_336 mt_X10_lettersHere min_X10_lettersHere mse_X10_lettersHere (by decide) (shm_k hsm 53 (by decide) (by decide)) rfl (Nat.le_of_ble_eq_true rfl) (by omega) (ok_lettersHere (by omega) hsm hb h ?_)
    generalize eF : fu F 53 36 (sk (G 72) (F 53 35) (F 53 36)) = F1 at *
    have e36 : F1 53 36 = sk (G 72) (F 53 35) (F 53 36) := by rw [← eF, fu_s]
    rw [← e36] at hq sp ⊢
    have rs := rn_sp (G 72) (F 53 35) 1 (F1 53 36)
    generalize hle : rn (G 72) (F 53 35) 1 (F1 53 36) - F1 53 36 = le at *
    have l0 : 0 ≤ le := by omega
    have l1 : le ≤ 10000 := by omega
    have lb : 3 ≤ le → F1 53 36 + le ≤ 500 := fun z => by omega
    have te9 : F1 53 36 + le = rn (G 72) (F 53 35) 1 (F1 53 36) := by omega
    have W : wd (G 72) (F 53 35) (F1 53 36) = if mw (G 72) (F1 53 36) (F1 53 36 + le) (wL 0) then 0 else if mw (G 72) (F1 53 36) (F1 53 36 + le) (wL 1) then 1 else if mw (G 72) (F1 53 36) (F1 53 36 + le) (wL 2) then 2 else if mw (G 72) (F1 53 36) (F1 53 36 + le) (wL 3) then 3 else if mw (G 72) (F1 53 36) (F1 53 36 + le) (wL 4) then 4 else -1 := by
      by_cases k : kd (G 72) (F 53 35) (F1 53 36) = 1
      · unfold wd
        rw [if_neg (fun z => z k)]
        have et : te (G 72) (F 53 35) (F1 53 36) = F1 53 36 + le := by
          unfold te
          rw [if_neg (by omega), if_neg (by omega), k, te9]
        rw [et]
        rfl
      · have z : rn (G 72) (F 53 35) 1 (F1 53 36) = F1 53 36 := rn_e (fun z => k z.2)
        have lz : le = 0 := by omega
        have no : ∀ w : Nat, w < 5 → ¬ mw (G 72) (F1 53 36) (F1 53 36 + le) (wL w) := fun w hw q => by
          have := q.1
          have := (wl_len9 w hw).2.1
          omega
        rw [if_neg (no 0 (by decide)), if_neg (no 1 (by decide)), if_neg (no 2 (by decide)), if_neg (no 3 (by decide)), if_neg (no 4 (by decide))]
        unfold wd
        rw [if_pos k]
    rw [W] at hq
    refine go_istore_n (x := le) (show decode cX10_wordNext 4 = .ok (.istore_n 1, 1) by decide +kernel) (by decide) ?_
    refine go_iconst (show decode cX10_wordNext 5 = .ok (.iconst 0, 1) by decide +kernel) (by decide) ?_
    refine go_istore_n (show decode cX10_wordNext 6 = .ok (.istore_n 2, 1) by decide +kernel) (by decide) ?_
    refine go_iconst (show decode cX10_wordNext 7 = .ok (.iconst 0, 1) by decide +kernel) (by decide) ?_
    refine go_istore_n (show decode cX10_wordNext 8 = .ok (.istore_n 3, 1) by decide +kernel) (by decide) ?_
    refine go_word (w := 0) (by omega) hsm (by omega) l0 l1 lb (by decide) (fun m => ?_) (fun m0 y4 y5 y6 => ?_)
    · rw [if_pos m] at hq; exact hq
    rw [if_neg m0] at hq
    refine go_word (w := 1) (by omega) hsm (by omega) l0 l1 lb (by decide) (fun m => ?_) (fun m1 y4 y5 y6 => ?_)
    · rw [if_pos m] at hq; exact hq
    rw [if_neg m1] at hq
    refine go_word (w := 2) (by omega) hsm (by omega) l0 l1 lb (by decide) (fun m => ?_) (fun m2 y4 y5 y6 => ?_)
    · rw [if_pos m] at hq; exact hq
    rw [if_neg m2] at hq
    refine go_word (w := 3) (by omega) hsm (by omega) l0 l1 lb (by decide) (fun m => ?_) (fun m3 y4 y5 y6 => ?_)
    · rw [if_pos m] at hq; exact hq
    rw [if_neg m3] at hq
    refine go_word (w := 4) (by omega) hsm (by omega) l0 l1 lb (by decide) (fun m => ?_) (fun m4 y4 y5 y6 => ?_)
    · rw [if_pos m] at hq; exact hq
    rw [if_neg m4] at hq
    refine go_iload_n (show decode cX10_wordNext 9 = .ok (.iload_n 3, 1) by decide +kernel) (by rfl) ?_
    refine go_ldcwS (i := 5) (show decode cX10_wordNext 10 = .ok (.ldc_w 339, 3) by decide +kernel) (by decide) rfl rfl ?_
    refine go_callVS (i := 5) (d2 := d - 1) (M2 := MJ0_length) (n := 0) (av := []) (st := [vI (kO (4 + 1))]) (show decode cX10_wordNext 13 = .ok (.invokevirtual 341, 3) by decide +kernel) mlS_X10_341 mt_J0_length min_J0_length mse_J0_length (by decide) rfl (Nat.le_of_ble_eq_true rfl) (by omega) (ok_mono (pu_slen (i := 5) (by omega) (by decide)) (fun r S1 F2 G1 e => ?_))
    obtain ⟨e1, e2, e3, e4⟩ := e
    subst e1 e2 e3 e4
    refine go_icmpge (x := kO (4 + 1)) (y := (lenS.getD 5 0 : Nat)) (tgt := 129) (show decode cX10_wordNext 16 = .ok (.if_icmp .ge 113, 3) by decide +kernel) (by decide) (fun _ => ?_) (fun hc => absurd (by decide) hc)
    refine go_iconst (show decode cX10_wordNext 129 = .ok (.iconst (-1), 1) by decide +kernel) (by decide) ?_
    exact go_iret (show decode cX10_wordNext 130 = .ok (.ireturn, 1) by decide +kernel) rfl hq
  exact ok_go rfl (by decide) (Nat.le_of_ble_eq_true rfl) g
end
