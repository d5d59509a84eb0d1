section
/-! COMMIT, CANCEL -/
def JoinQ (F F1 : AF) : Prop := (∀ c : Nat, c < 78 → c ≠ 2 → F1 c = F c) ∧ (∀ k : Nat, k ≠ 8 → F1 2 k = F 2 k) ∧ F1 2 8 = F 2 8 - 1 ∧ ∀ k : Nat, (k : Int) < F 2 8 - 1 → F1 (78 + 2 * k) 1 = F (78 + 2 * k) 1 + (if (k : Int) = F 2 8 - 2 then F (78 + 2 * (k + 1)) 1 else 0)
def ComS (F F1 : AF) (G G1 : AG) (z : Int) : Prop := (F 2 8 < 1 → z = -8 ∧ F1 = F ∧ G1 = G) ∧ (1 ≤ F 2 8 → z = F 2 8 - 1 ∧ JoinQ F F1 ∧ G1 = G)
theorem cs_commit {d : Nat} {S : AS} {F : AF} {G : AG} {b : Int} (hd : 3 ≤ d) (h : CI S F G b) (hbb : b ≤ 1000000) {Q : AQ} (hq : ∀ F1 G1 z, ComS F F1 G G1 z → SFr F F1 G G1 → CI S F1 G1 b → Q (some (vI z)) S F1 G1) : Ok d MX9_commit [vR 1] S F G Q := by
  have hsh := h.1.1
  refine ok_go rfl (by decide) (Nat.le_of_ble_eq_true rfl) (R_X9_commit_0 hsh ?_)
  unfold V_X9_commit_0
  refine ⟨fun q => ⟨by omega, ok_joinInnermost (by omega) hsh (ci_opn h) q (fun k hk => by have := ci_acts h hk; omega) (fun F1 v5 v6 v7 v8 => ⟨rfl, rfl, ?_⟩)⟩, fun q => hq F G _ ⟨fun _ => ⟨rfl, rfl, rfl⟩, fun n => absurd n q⟩ ⟨rfl, fun _ _ _ _ _ => rfl, fun _ _ _ => rfl⟩ h⟩
  obtain ⟨hA, hc, hl, hcap, h18, hs, hb, hT, hZ, hX⟩ := id h
  have f := fun c (hc : c < 78) (h2 : c ≠ 2) => v5 c hc h2
  have e4 := f 4 (by decide) (by decide)
  have e11 := f 11 (by decide) (by decide)
  have e27 : F1 2 7 = F 2 7 := v6 7 (by decide)
  rw [v7]
  refine hq F1 G _ ⟨fun n => absurd n (by omega), fun _ => ⟨rfl, ⟨v5, v6, v7, v8⟩, rfl⟩⟩ ⟨f 1 (by decide) (by decide), fun c a b _ _ => f c b (by omega), fun c a b => rfl⟩ ⟨⟨hA.1, hA.2.1, ?_⟩, cc_cg e4 e11 (f 17 (by decide) (by decide)) rfl rfl hc, by rw [f 3 (by decide) (by decide), f 10 (by decide) (by decide), e4, e11]; exact hl, by omega, pc_pl hc e4 e11 rfl rfl e27 (fun i _ _ => rfl) h18, fun k hk => ?_, ⟨?_, hb.2⟩, by unfold STd; rw [f 44 (by decide) (by decide)]; exact hT, zi_cg hZ e4 e11 (fun c _ c1 => f c (by omega) (by omega)), by rw [f 46 (by decide) (by decide)]; exact hX.1, by rw [f 46 (by decide) (by decide)]; exact hX.2⟩
  · obtain ⟨n, h1, h2⟩ := hA.2.2
    exact ⟨n, h1, by omega⟩
  · rw [v7] at hk
    rw [v8 k hk]
    refine ⟨pc_pl hc e4 e11 rfl rfl e27 (fun i _ _ => rfl) (hs k (by omega)).1, ?_⟩
    have a1 := (hs k (by omega)).2
    split
    · have a2 := (hs (k + 1) (by omega)).2
      omega
    · omega
  · rw [v7]
    by_cases e : F 2 8 = 1
    · rw [e, sI_0 _ (by omega)]
      exact hb.2
    · have n1 : F 2 8 - 1 = (F 2 8 - 2) + 1 := by omega
      have n2 : F 2 8 = (F 2 8 - 2 + 1) + 1 := by omega
      have o1 := hb.1
      rw [n2, sI_1 _ (by omega), sI_1 _ (by omega)] at o1
      rw [n1, sI_1 _ (by omega)]
      have q1 : sI (fun k : Int => F1 (78 + 2 * k.toNat) 1) (F 2 8 - 2) = sI (fun k : Int => F (78 + 2 * k.toNat) 1) (F 2 8 - 2) := sI_congr (fun i i0 i1 => by
        rw [v8 i.toNat (by omega), if_neg (by omega)]
        omega)
      have q2 := v8 (F 2 8 - 2).toNat (by omega)
      rw [if_pos (by omega)] at q2
      have e3 : (F 2 8 - 2 + 1).toNat = (F 2 8 - 2).toNat + 1 := by omega
      rw [e3] at o1
      rw [q1, q2]
      omega
theorem cr_commit {d : Nat} {S S' : AS} {F F1 Fr : AF} {G G1 Gr : AG} {b z : Int} (hsm : ShM S') (ci : CI S F G b) (hbb : b ≤ 1000000) (k : KK F G Fr Gr) (a : ComS F F1 G G1 z) {Q : AQ} (hq : ∀ F2 G2, KK F1 G1 F2 G2 → RFr Fr F2 Gr G2 → Q (some (vI z)) S' F2 G2) : Ok d MX10_commit [vR 53] S' Fr Gr Q := by
  have hc := ci.2.1
  have ho := ci.2.2.2.1
  refine ok_go rfl (by decide) (Nat.le_of_ble_eq_true rfl) (R_X10_commit_0 hsm ?_)
  unfold V_X10_commit_0
  intro F0 e0
  have rs0 : RS Fr F0 Gr Gr := by rw [e0]; exact rs_fu (Or.inl rfl)
  have k0 := kk_rs k rs0
  have eo := k0.2.2.1.2
  refine ⟨fun q => ⟨by omega, fun F3 ef => ?_⟩, fun q => ?_⟩
  · obtain ⟨ez, ⟨v5, v6, v7, v8⟩, eg⟩ := a.2 (by omega)
    subst eg
    have f11 : F3 53 11 = F0 53 11 - 1 := by rw [ef, fu_s]
    have fk : ∀ j : Nat, j ≠ 11 → F3 53 j = F0 53 j := fun j h => by rw [ef, fu_k h]
    have fin : ∀ G2 : AG, (∀ c : Nat, c ≠ 61 → G2 c = Gr c) → (∀ l : Nat, (l : Int) < F 2 8 - 1 → F1 (78 + 2 * l) 1 = G2 61 l) → Q (some (vI (F3 53 11))) S' F3 G2 := by
      intro G2 g2 h61
      obtain ⟨⟨k1, k2, k3, k4, k5⟩, ⟨k6, k7⟩, ⟨k8, k9⟩, k10, k11, k12, ⟨k13, k14⟩, k15⟩ := id k0
      have f := fun c (hc : c < 78) (h2 : c ≠ 2) => v5 c hc h2
      have c4 := f 4 (by decide) (by decide)
      have c11 := f 11 (by decide) (by decide)
      have q1 := fk 1 (by decide)
      have q2 := fk 2 (by decide)
      have h54 := g2 54 (by decide)
      have h55 := g2 55 (by decide)
      have em := fun a => me_cg (F := F0) (F' := F3) (G := Gr) (G' := G2) q1 q2 h54 h55 a
      have mc : ∀ (p : Nat) (off : Int), p ≠ 61 → mC F3 G2 p off = mC F0 Gr p off := by
        intro p off e
        funext g x y
        unfold mC cv
        rw [em, em, h55, g2 p e]
      have vcs : ∀ (p : Nat), vC F1 G1 p = vC F G1 p := by
        intro p
        funext g x y
        unfold vC cv
        rw [c4, c11]
      have e3 : F3 53 11 = z := by omega
      rw [e3]
      refine hq F3 G2 ⟨⟨mx_cg q1 q2 h54 h55 k1, by rw [c4, q1]; exact k2, by rw [c11, q2]; exact k3, fun q => by rw [isC_cg c4 rfl, em, h55]; exact k4 q, fun q => by rw [isC_cg c11 rfl, em, h55]; exact k5 q⟩, by rw [f 3 (by decide) (by decide), f 10 (by decide) (by decide), g2 56 (by decide)]; exact ⟨k6, k7⟩, ⟨by rw [v6 7 (by decide), fk 3 (by decide)]; exact k8, by omega⟩, by rw [vcs, mc 57 0 (by decide), c4, c11]; exact k10, by rw [vcs, c4, c11, g2 59 (by decide)]; exact k11, fun l hl => ?_, ⟨by rw [f 44 (by decide) (by decide), fk 14 (by decide)]; exact k13, ?_⟩, fun zz z0 z1 => ?_⟩ ⟨fun c hc' => ?_, fun l l0 l1 => ?_, fun c hc' => g2 c (by omega)⟩
      · rw [v7] at hl
        obtain ⟨y1, y2, y3⟩ := k12 l (by omega)
        rw [vcs, c4, c11, mc 58 _ (by decide), g2 60 (by decide)]
        exact ⟨y1, y2, h61 l hl⟩
      · have ec : ct F1 G1 = ct F G1 := by
          funext i w
          unfold ct
          rw [f 44 (by decide) (by decide)]
        rw [ec, f 44 (by decide) (by decide)]
        unfold mt
        rw [g2 62 (by decide)]
        exact k14
      · rw [f (22 + 2 * zz.toNat) (by omega) (by omega), f (22 + 2 * zz.toNat + 1) (by omega) (by omega), g2 63 (by decide), g2 64 (by decide), g2 65 (by decide)]
        exact k15 zz z0 z1
      · rw [ef, fu_row hc']
        exact rs0.1 c hc'
      · rw [fk l (by omega)]
        exact rs0.2.1 l (by omega) (by omega) (by omega)
    refine ⟨fun q2 => fin Gr (fun _ _ => rfl) (fun l hl => absurd hl (by omega)), fun q2 => ?_⟩
    have b1 := ci_acts ci (k := (F 2 8 - 2).toNat) (by omega)
    have b2 := ci_acts ci (k := (F 2 8 - 1).toNat) (by omega)
    have y1 := (k0.2.2.2.2.2.1 (F 2 8 - 2).toNat (by omega)).2.2
    have y2 := (k0.2.2.2.2.2.1 (F 2 8 - 1).toNat (by omega)).2.2
    have i1 : (((F 2 8 - 2).toNat : Nat) : Int) = F3 53 11 - 1 := by omega
    have i2 : (((F 2 8 - 1).toNat : Nat) : Int) = F3 53 11 := by omega
    rw [i1] at y1
    rw [i2] at y2
    refine ⟨by omega, by omega, by omega, by omega, by omega, by omega, fun G10 e10 => fin G10 (fun c h => by rw [e10, gu_row h]) (fun l hl => ?_)⟩
    rw [v8 l hl]
    have y3 := (k0.2.2.2.2.2.1 l (by omega)).2.2
    by_cases e : (l : Int) = F 2 8 - 2
    · have el : l = (F 2 8 - 2).toNat := by omega
      have el2 : l + 1 = (F 2 8 - 1).toNat := by omega
      have el3 : (l : Int) = F3 53 11 - 1 := by omega
      rw [if_pos e, e10, el3, gu_s, ← y1, ← y2, ← el, ← el2]
    · rw [if_neg e, e10, gu_i (by omega), y3]
      omega
  · obtain ⟨ez, ef, eg⟩ := a.1 (by omega)
    subst ef eg
    rw [← ez]
    exact hq F0 Gr k0 (rfr_rs rs0)
def CanS (F F1 : AF) (G G1 : AG) (z : Int) : Prop := (F 2 8 < 1 → z = -8 ∧ F1 = F ∧ G1 = G) ∧ (1 ≤ F 2 8 → z = F (78 + 2 * (F 2 8 - 1).toNat) 1 ∧ F1 = fu (fu F 2 8 (F 2 8 - 1)) 44 2 (max 0 (F 44 2 - z)) ∧ (∀ c : Nat, c ≠ 18 → G1 c = G c) ∧ ∀ i : Int, 0 ≤ i → i < 6912 → G1 18 i = G (79 + 2 * (F 2 8 - 1).toNat) i)
theorem cs_cancel {d : Nat} {S : AS} {F : AF} {G : AG} {b : Int} (hd : 3 ≤ d) (h : CI S F G b) (hbb : b ≤ 1000000) {Q : AQ} (hq : ∀ F1 G1 z, CanS F F1 G G1 z → SFr F F1 G G1 → CI S F1 G1 b → Q (some (vI z)) S F1 G1) : Ok d MX9_cancel [vR 1] S F G Q := by
  have hsh := h.1.1
  refine ok_go rfl (by decide) (Nat.le_of_ble_eq_true rfl) (R_X9_cancel_0 hsh ?_)
  unfold V_X9_cancel_0
  refine ⟨fun q => ⟨by omega, ok_restore (by omega) hsh (ci_opn h) q (fun G1 v1 v2 => ⟨rfl, _, rfl, ?_⟩)⟩, fun q => hq F G _ ⟨fun _ => ⟨rfl, rfl, rfl⟩, fun n => absurd n q⟩ ⟨rfl, fun _ _ _ _ _ => rfl, fun _ _ _ => rfl⟩ h⟩
  obtain ⟨hA, hc, hl, hcap, h18, hs, hb, hT, hZ, hX⟩ := id h
  have ba := ci_acts h (k := (F 2 8 - 1).toNat) (by omega)
  have p44 : fu F 2 8 (F 2 8 - 1) 44 = F 44 := fu_row (by decide)
  refine ok_dropLatest (by omega) hsh (by unfold STd; rw [p44]; exact hT) ba.1 (by omega) ⟨rfl, rfl, ?_⟩
  rw [p44]
  generalize hF1 : fu (fu F 2 8 (F 2 8 - 1)) 44 2 (max 0 (F 44 2 - F (78 + 2 * (F 2 8 - 1).toNat) 1)) = F1
  have f : ∀ c : Nat, c ≠ 2 → c ≠ 44 → F1 c = F c := fun c h1 h2 => by rw [← hF1, fu_row h2, fu_row h1]
  have e28 : F1 2 8 = F 2 8 - 1 := by rw [← hF1, fu_c (by decide), fu_s]
  have e2k : ∀ k : Nat, k ≠ 8 → F1 2 k = F 2 k := fun k hk => by rw [← hF1, fu_c (by decide), fu_k hk]
  have e441 : F1 44 1 = F 44 1 := by rw [← hF1, fu_k (by decide), p44]
  have e442 : F1 44 2 = max 0 (F 44 2 - F (78 + 2 * (F 2 8 - 1).toNat) 1) := by rw [← hF1, fu_s]
  have e4 := f 4 (by decide) (by decide)
  have e11 := f 11 (by decide) (by decide)
  have g5 := v1 5 (by decide)
  have g12 := v1 12 (by decide)
  have e27 : F1 2 7 = F 2 7 := e2k 7 (by decide)
  refine hq F1 G1 _ ⟨fun n => absurd n (by omega), fun _ => ⟨rfl, hF1.symm, v1, v2⟩⟩ ⟨f 1 (by decide) (by decide), fun c a b _ _ => f c (by omega) (by omega), fun c a b => v1 c (by omega)⟩ ⟨⟨hA.1, hA.2.1, ?_⟩, cc_cg e4 e11 (f 17 (by decide) (by decide)) g5 g12 hc, by rw [f 3 (by decide) (by decide), f 10 (by decide) (by decide), e4, e11]; exact hl, by omega, pc_pl hc e4 e11 g5 g12 e27 v2 (hs _ (by omega)).1, fun k hk => ?_, ⟨?_, hb.2⟩, ?_, zi_cg hZ e4 e11 (fun c _ c1 => f c (by omega) (by omega)), by rw [f 46 (by decide) (by decide)]; exact hX.1, by rw [f 46 (by decide) (by decide)]; exact hX.2⟩
  · obtain ⟨n, h1, h2⟩ := hA.2.2
    exact ⟨n, h1, by omega⟩
  · rw [e28] at hk
    rw [f _ (by omega) (by omega)]
    exact ⟨pc_pl hc e4 e11 g5 g12 e27 (fun i _ _ => by rw [v1 _ (by omega)]) (hs k (by omega)).1, (hs k (by omega)).2⟩
  · rw [e28]
    have q1 : sI (fun k : Int => F1 (78 + 2 * k.toNat) 1) (F 2 8 - 1) = sI (fun k : Int => F (78 + 2 * k.toNat) 1) (F 2 8 - 1) := sI_congr (fun i i0 i1 => by rw [f _ (by omega) (by omega)])
    have q2 := sI_part (f := fun k : Int => F (78 + 2 * k.toNat) 1) (n := F 2 8) (m := F 2 8 - 1) (by omega) (by omega) (fun i i0 i1 => (hs i.toNat (by omega)).2)
    have := hb.1
    omega
  · unfold STd at hT ⊢
    rw [e441, e442]
    omega
theorem cr_cancel {d : Nat} {S S' : AS} {F F1 Fr : AF} {G G1 Gr : AG} {b z : Int} (hsm : ShM S') (ci : CI S F G b) (hbb : b ≤ 1000000) (k : KK F G Fr Gr) (a : CanS F F1 G G1 z) {Q : AQ} (hq : ∀ F2 G2, KK F1 G1 F2 G2 → RFr Fr F2 Gr G2 → Q (some (vI z)) S' F2 G2) : Ok d MX10_cancel [vR 53] S' Fr Gr Q := by
  have hc := ci.2.1
  have ho := ci.2.2.2.1
  have st := ci.2.2.2.2.2.2.2.1
  refine ok_go rfl (by decide) (Nat.le_of_ble_eq_true rfl) (R_X10_cancel_0 hsm ?_)
  unfold V_X10_cancel_0
  intro F0 e0
  have rs0 : RS Fr F0 Gr Gr := by rw [e0]; exact rs_fu (Or.inl rfl)
  have k0 := kk_rs k rs0
  have eo := k0.2.2.1.2
  refine ⟨fun q => ⟨by omega, fun F3 ef => ?_⟩, fun q => ?_⟩
  · obtain ⟨ez, eF, v1, v2⟩ := a.2 (by omega)
    have f11 : F3 53 11 = F0 53 11 - 1 := by rw [ef, fu_s]
    have fk : ∀ j : Nat, j ≠ 11 → F3 53 j = F0 53 j := fun j h => by rw [ef, fu_k h]
    have kl := k0.2.2.2.2.2.1 (F 2 8 - 1).toNat (by omega)
    have il : (((F 2 8 - 1).toNat : Nat) : Int) = F3 53 11 := by omega
    rw [il] at kl
    have ba := ci_acts ci (k := (F 2 8 - 1).toNat) (by omega)
    have e14 : F 44 2 = F0 53 14 := k0.2.2.2.2.2.2.1.1
    have s2 := st.2.2.1
    have s3 := st.2.2.2
    refine up_ind (α := AG) 6911 (fun i G3 => 0 ≤ i ∧ i ≤ 6912 ∧ (∀ c : Nat, c ≠ 57 → G3 c = Gr c) ∧ ∀ j : Int, 0 ≤ j → j < i → G3 57 j = Gr 58 (6912 * F3 53 11 + j)) (fun i G3 => Go d MX10_cancel 27 [some (vR 53), some (vI i)] [] S' F3 G3 Q) ?_ ?_ 0 Gr ⟨by omega, by omega, fun _ _ => rfl, fun j p q => absurd q (by omega)⟩
    · rintro i G3 ⟨i0, i1, w1, w2⟩ hi ih
      refine R_X10_cancel_27 hsm ?_
      unfold V_X10_cancel_27
      refine ⟨fun y => absurd y (by omega), fun _ => ⟨by omega, by omega, by omega, by omega, by omega, by omega, fun G7 e7 => ⟨by omega, ih G7 ⟨by omega, by omega, fun c hc' => by rw [e7, gu_row hc']; exact w1 c hc', fun j j0 j1 => ?_⟩⟩⟩⟩
      by_cases e : j = i
      · rw [e, e7, gu_s, w1 58 (by decide)]
      · rw [e7, gu_i (by omega)]
        exact w2 j j0 (by omega)
    · rintro i G3 ⟨i0, i1, w1, w2⟩ hi
      refine R_X10_cancel_27 hsm ?_
      unfold V_X10_cancel_27
      refine ⟨fun _ => ?_, fun y => absurd y (by omega)⟩
      refine up_ind (α := AG) 2 (fun j G4 => 0 ≤ j ∧ j ≤ 3 ∧ (∀ c : Nat, c ≠ 59 → G4 c = G3 c) ∧ ∀ l : Int, 0 ≤ l → l < j → G4 59 l = Gr 60 (3 * F3 53 11 + l)) (fun j G4 => Go d MX10_cancel 63 [some (vR 53), some (vI j)] [] S' F3 G4 Q) ?_ ?_ 0 G3 ⟨by omega, by omega, fun _ _ => rfl, fun l p q => absurd q (by omega)⟩
      · rintro j G4 ⟨j0, j1, x1, x2⟩ hj ih
        refine R_X10_cancel_63 hsm ?_
        unfold V_X10_cancel_63
        refine ⟨fun y => absurd y (by omega), fun _ => ⟨by omega, by omega, by omega, by omega, by omega, by omega, fun G7 e7 => ⟨by omega, ih G7 ⟨by omega, by omega, fun c hc' => by rw [e7, gu_row hc']; exact x1 c hc', fun l l0 l1 => ?_⟩⟩⟩⟩
        by_cases e : l = j
        · rw [e, e7, gu_s, x1 60 (by decide), w1 60 (by decide)]
        · rw [e7, gu_i (by omega)]
          exact x2 l l0 (by omega)
      · rintro j G4 ⟨j0, j1, x1, x2⟩ hj
        have g4 : ∀ c : Nat, c ≠ 57 → c ≠ 59 → G4 c = Gr c := fun c h1 h2 => by rw [x1 c h2, w1 c h1]
        have g57 : G4 57 = G3 57 := x1 57 (by decide)
        have e61 : G4 61 (F3 53 11) = z := by rw [g4 61 (by decide) (by decide), ez]; exact kl.2.2.symm
        have fin : ∀ t : Int, t = max 0 (F 44 2 - z) → V_X10_cancel_128 d S' F3 G4 Q j t := by
          intro t et
          unfold V_X10_cancel_128
          intro F5 ef5
          have f5 : ∀ j : Nat, j ≠ 11 → j ≠ 14 → F5 53 j = F0 53 j := fun j h1 h2 => by rw [ef5, fu_k h2, fk j h1]
          have f5o : F5 53 11 = F3 53 11 := by rw [ef5, fu_k (by decide)]
          have f5t : F5 53 14 = t := by rw [ef5, fu_s]
          rw [f5o, e61]
          refine ⟨by omega, by omega, ?_⟩
          have f : ∀ c : Nat, c ≠ 2 → c ≠ 44 → F1 c = F c := fun c h1 h2 => by rw [eF, fu_row h2, fu_row h1]
          have p44 : fu F 2 8 (F 2 8 - 1) 44 = F 44 := fu_row (by decide)
          have e28 : F1 2 8 = F 2 8 - 1 := by rw [eF, fu_c (by decide), fu_s]
          have e27 : F1 2 7 = F 2 7 := by rw [eF, fu_c (by decide), fu_k (by decide)]
          have e441 : F1 44 1 = F 44 1 := by rw [eF, fu_k (by decide), p44]
          have e442 : F1 44 2 = max 0 (F 44 2 - z) := by rw [eF, fu_s]
          obtain ⟨⟨k1, k2, k3, k4, k5⟩, ⟨k6, k7⟩, ⟨k8, k9⟩, k10, k11, k12, ⟨k13, k14⟩, k15⟩ := id k0
          have c4 := f 4 (by decide) (by decide)
          have c11 := f 11 (by decide) (by decide)
          have d5 := v1 5 (by decide)
          have d12 := v1 12 (by decide)
          have q1 := f5 1 (by decide) (by decide)
          have q2 := f5 2 (by decide) (by decide)
          have h54 := g4 54 (by decide) (by decide)
          have h55 := g4 55 (by decide) (by decide)
          have em := fun a => me_cg (F := F0) (F' := F5) (G := Gr) (G' := G4) q1 q2 h54 h55 a
          refine hq F5 G4 ⟨⟨mx_cg q1 q2 h54 h55 k1, by rw [c4, q1]; exact k2, by rw [c11, q2]; exact k3, fun q => by rw [isC_cg c4 d5, em, h55]; exact k4 q, fun q => by rw [isC_cg c11 d12, em, h55]; exact k5 q⟩, by rw [f 3 (by decide) (by decide), f 10 (by decide) (by decide), g4 56 (by decide) (by decide)]; exact ⟨k6, k7⟩, ⟨by rw [e27, f5 3 (by decide) (by decide)]; exact k8, by omega⟩, fun g x y g0 g1 x0 xw y0 yw => ?_, fun g g0 g1 => ?_, fun l hl => ?_, ⟨by rw [e442, f5t]; exact et.symm, fun i w i0' i1' w0 w1' => ?_⟩, fun zz z0 z1 => ?_⟩ ⟨fun c hc' => ?_, fun l l0 l1 => ?_, fun c hc' => g4 c (by omega) (by omega)⟩
          · rw [c4] at xw
            rw [c11] at yw
            rw [vC_pl hc c4 c11 d5 d12 v2 g0 g1 x0 xw y0 yw, kl.1 g x y g0 g1 x0 xw y0 yw]
            exact (mC_pl k1 q1 q2 h54 h55 (fun i i0 i1 => by rw [g57, Int.zero_add]; exact w2 i i0 (by omega)) g0 g1 x0 (by omega) y0 (by omega)).symm
          · rw [aS_pl hc c4 c11 d5 d12 v2 g0 g1, x2 g g0 (by omega)]
            exact kl.2.1 g g0 g1
          · rw [e28] at hl
            obtain ⟨y1, y2, y3⟩ := k12 l (by omega)
            have vcs : vC F1 G1 (79 + 2 * l) = vC F G (79 + 2 * l) := by
              funext g x y
              unfold vC cv
              rw [c4, c11, d5, d12, v1 _ (by omega)]
            rw [vcs, c4, c11, f _ (by omega) (by omega), g4 60 (by decide) (by decide), g4 61 (by decide) (by decide)]
            refine ⟨fun g x y g0 g1 x0 xw y0 yw => ?_, y2, y3⟩
            rw [y1 g x y g0 g1 x0 xw y0 yw]
            exact (mC_pl k1 q1 q2 h54 h55 (fun i i0 i1 => by rw [g4 58 (by decide) (by decide)]) g0 g1 x0 (by omega) y0 (by omega)).symm
          · have := k14 i w i0' (by omega) w0 w1'
            unfold ct at this ⊢
            unfold mt at this ⊢
            rw [e441, v1 45 (by decide), g4 62 (by decide) (by decide)]
            exact this
          · rw [f (22 + 2 * zz.toNat) (by omega) (by omega), f (22 + 2 * zz.toNat + 1) (by omega) (by omega), g4 63 (by decide) (by decide), g4 64 (by decide) (by decide), g4 65 (by decide) (by decide)]
            exact k15 zz z0 z1
          · rw [ef5, fu_row hc', ef, fu_row hc']
            exact rs0.1 c hc'
          · rw [f5 l (by omega) (by omega)]
            exact rs0.2.1 l (by omega) (by omega) (by omega)
        refine R_X10_cancel_63 hsm ?_
        unfold V_X10_cancel_63
        rw [e61, fk 14 (by decide), ← e14]
        exact ⟨fun _ => ⟨by omega, by omega, fun y => ⟨by omega, fin _ (by omega)⟩, fun y => fin _ (by omega)⟩, fun y => absurd y (by omega)⟩
  · obtain ⟨ez, ef, eg⟩ := a.1 (by omega)
    subst ef eg
    rw [← ez]
    exact hq F0 Gr k0 (rfr_rs rs0)
end
