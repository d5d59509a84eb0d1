section
/-! BEGIN, COMMIT, CANCEL -/
theorem vC_pl {F F' : AF} {G G' : AG} (hc : CC F G) (e4 : F' 4 = F 4) (e11 : F' 11 = F 11) (g5 : G' 5 = G 5) (g12 : G' 12 = G 12) {p p' : Nat} (h : ∀ i : Int, 0 ≤ i → i < 6912 → G' p' i = G p i) {g x y : Int} (g0 : 0 ≤ g) (g1 : g ≤ 2) (x0 : 0 ≤ x) (x1 : x < F 4 2) (y0 : 0 ≤ y) (y1 : y < F 11 2) : vC F' G' p' g x y = vC F G p g x y := by
  have s4 : Sq (G 5) (F 4 1) (F 4 2) := sq_co hc.1
  have s11 : Sq (G 12) (F 11 1) (F 11 2) := sq_co hc.2.1
  have bx := bl_spec s4 x0 x1
  have by' := bl_spec s11 y0 y1
  have n4 := hc.1.2.1
  have n11 := hc.2.1.2.1
  unfold vC cv
  rw [e4, e11, g5, g12]
  exact h _ (by omega) (by omega)
theorem mC_pl {F F' : AF} {G G' : AG} (hx : MX F G) (f1 : F' 53 1 = F 53 1) (f2 : F' 53 2 = F 53 2) (g54 : G' 54 = G 54) (g55 : G' 55 = G 55) {p p' : Nat} {off off' : Int} (h : ∀ i : Int, 0 ≤ i → i < 6912 → G' p' (off' + i) = G p (off + i)) {g x y : Int} (g0 : 0 ≤ g) (g1 : g ≤ 2) (x0 : 0 ≤ x) (x1 : x < F 53 1) (y0 : 0 ≤ y) (y1 : y < F 53 2) : mC F' G' p' off' g x y = mC F G p off g x y := by
  have bx := mb_spec hx (a := 0) (p := x) (by omega) (by omega) x0 (by rw [msz_0]; exact x1)
  have by' := mb_spec hx (a := 1) (p := y) (by omega) (by omega) y0 (by rw [msz_1]; exact y1)
  have n0 := (hx 0 (by omega) (by omega)).2.1
  have n1 := (hx 1 (by omega) (by omega)).2.1
  have em := fun a => me_cg (F := F) (F' := F') (G := G) (G' := G') f1 f2 g54 g55 a
  have a := h (2304 * g + 48 * mb F G 1 y + mb F G 0 x) (by omega) (by omega)
  have e1 : ∀ o : Int, o + (2304 * g + 48 * mb F G 1 y + mb F G 0 x) = o + 2304 * g + 48 * mb F G 1 y + mb F G 0 x := fun o => by omega
  rw [e1, e1] at a
  unfold mC cv
  rw [em, em, g55]
  exact a
theorem aS_pl {F F' : AF} {G G' : AG} (hc : CC F G) (e4 : F' 4 = F 4) (e11 : F' 11 = F 11) (g5 : G' 5 = G 5) (g12 : G' 12 = G 12) {p p' : Nat} (h : ∀ i : Int, 0 ≤ i → i < 6912 → G' p' i = G p i) {g : Int} (g0 : 0 ≤ g) (g1 : g ≤ 2) : aS (vC F' G' p' g) 0 0 (F' 4 2 - 1) (F' 11 2 - 1) = aS (vC F G p g) 0 0 (F 4 2 - 1) (F 11 2 - 1) := by
  rw [e4, e11]
  exact aS_congr (fun x y x0 x1 y0 y1 => vC_pl hc e4 e11 g5 g12 h g0 g1 x0 (by omega) y0 (by omega))
theorem pc_pl {F F' : AF} {G G' : AG} (hc : CC F G) (e4 : F' 4 = F 4) (e11 : F' 11 = F 11) (g5 : G' 5 = G 5) (g12 : G' 12 = G 12) (e27 : F' 2 7 = F 2 7) {p p' : Nat} (h : ∀ i : Int, 0 ≤ i → i < 6912 → G' p' i = G p i) (k : PC F G p) : PC F' G' p' := by
  refine ⟨fun x y x0 x1 y0 y1 => ?_, fun g g0 g1 => ?_⟩
  · rw [e4] at x1
    rw [e11] at y1
    rw [vC_pl hc e4 e11 g5 g12 h (by omega) (by omega) x0 x1 y0 y1, vC_pl hc e4 e11 g5 g12 h (by omega) (by omega) x0 x1 y0 y1, vC_pl hc e4 e11 g5 g12 h (by omega) (by omega) x0 x1 y0 y1, e27]
    exact k.1 x y x0 x1 y0 y1
  · rw [aS_pl hc e4 e11 g5 g12 h g0 g1]
    exact k.2 g g0 g1
theorem zi_cg {F F' : AF} (h : ZI F) (e4 : F' 4 = F 4) (e11 : F' 11 = F 11) (ez : ∀ c : Nat, 22 ≤ c → c ≤ 33 → F' c = F c) : ZI F' := by
  intro z z0 z1
  have := h z z0 z1
  have q1 := ez (22 + 2 * z.toNat) (by omega) (by omega)
  have q2 := ez (22 + 2 * z.toNat + 1) (by omega) (by omega)
  unfold RO RG1 at *
  rw [q1, q2, e4, e11]
  exact this
def BegS (S S1 : AS) (F F1 : AF) (G G1 : AG) (z : Int) : Prop := (8 ≤ F 2 8 → z = -4 ∧ S1 = S ∧ F1 = F ∧ G1 = G) ∧ (F 2 8 < 8 → z = F 2 8 + 1 ∧ SavQ S S1 F F1 G G1)
theorem cs_begin {d : Nat} {S : AS} {F : AF} {G : AG} {b : Int} (hd : 3 ≤ d) (h : CI S F G b) {Q : AQ} (hq : ∀ S1 F1 G1 z, BegS S S1 F F1 G G1 z → SLike S S1 → SFr F F1 G G1 → CI S1 F1 G1 b → Q (some (vI z)) S1 F1 G1) : Ok d MX9_begin [vR 1] S F G Q := by
  have hsh := h.1.1
  obtain ⟨n, hn, on⟩ := h.1.2.2
  refine ok_go rfl (by decide) (Nat.le_of_ble_eq_true rfl) (R_X9_begin_0 hsh ?_)
  unfold V_X9_begin_0
  refine ⟨fun q => ⟨by omega, ok_save (by omega) hsh h.1.2.1 hn h.2.2.2.1.2.2.1 on q (fun S1 F1 G1 sv => ⟨rfl, sv.2.1, ?_⟩)⟩, fun q => hq S F G _ ⟨fun _ => ⟨rfl, rfl, rfl, rfl⟩, fun n => absurd n q⟩ ⟨rfl, rfl⟩ ⟨rfl, fun _ _ _ _ _ => rfl, fun _ _ _ => rfl⟩ h⟩
  obtain ⟨hA, hc, hl, hcap, h18, hs, hb, hT, hZ, hX⟩ := id h
  obtain ⟨v1, v2, v3, v4, v5, v6, v7, v8, v9, v10, v11⟩ := id sv
  have f := fun c (hc : c < 78) (h2 : c ≠ 2) => v5 c hc h2
  have e4 := f 4 (by decide) (by decide)
  have e11 := f 11 (by decide) (by decide)
  have g5 := v8 5 (by decide)
  have g12 := v8 12 (by decide)
  have e27 : F1 2 7 = F 2 7 := v6 7 (by decide)
  rw [v7]
  refine hq S1 F1 G1 _ ⟨fun n => absurd n (by omega), fun _ => ⟨rfl, sv⟩⟩ v1 ⟨f 1 (by decide) (by decide), fun c a b _ _ => f c b (by omega), fun c a b => v8 c b⟩ ⟨⟨v2, v3, v4⟩, cc_cg e4 e11 (f 17 (by decide) (by decide)) g5 g12 hc, by rw [f 3 (by decide) (by decide), f 10 (by decide) (by decide), e4, e11]; exact hl, by omega, pc_pl hc e4 e11 g5 g12 e27 (fun i _ _ => by rw [v8 18 (by decide)]) h18, fun k hk => ?_, ⟨?_, hb.2⟩, by unfold STd; rw [f 44 (by decide) (by decide)]; exact hT, zi_cg hZ e4 e11 (fun c _ c1 => f c (by omega) (by omega)), by rw [f 46 (by decide) (by decide)]; exact hX.1, by rw [f 46 (by decide) (by decide)]; exact hX.2⟩
  · by_cases e : (k : Int) < F 2 8
    · obtain ⟨w1, w2⟩ := v9 k e
      rw [w1]
      exact ⟨pc_pl hc e4 e11 g5 g12 e27 (fun i _ _ => by rw [w2]) (hs k e).1, (hs k e).2⟩
    · have ek : k = (F 2 8).toNat := by omega
      subst ek
      rw [v10]
      exact ⟨pc_pl hc e4 e11 g5 g12 e27 v11 h18, by omega⟩
  · rw [v7, sI_1 _ (by omega)]
    have q1 : sI (fun k : Int => F1 (78 + 2 * k.toNat) 1) (F 2 8) = sI (fun k : Int => F (78 + 2 * k.toNat) 1) (F 2 8) := sI_congr (fun i i0 i1 => (v9 i.toNat (by omega)).1)
    rw [q1, v10]
    have := hb.1
    omega
theorem cr_begin {d : Nat} {S S1 S' : AS} {F F1 Fr : AF} {G G1 Gr : AG} {b z : Int} (hsm : ShM S') (ci : CI S F G b) (k : KK F G Fr Gr) (a : BegS S S1 F F1 G G1 z) {Q : AQ} (hq : ∀ F2 G2, KK F1 G1 F2 G2 → RFr Fr F2 Gr G2 → Q (some (vI z)) S' F2 G2) : Ok d MX10_begin [vR 53] S' Fr Gr Q := by
  have hc := ci.2.1
  have ho := ci.2.2.2.1
  refine ok_go rfl (by decide) (Nat.le_of_ble_eq_true rfl) (R_X10_begin_0 hsm ?_)
  unfold V_X10_begin_0
  intro F0 e0
  have rs0 : RS Fr F0 Gr Gr := by rw [e0]; exact rs_fu (Or.inl rfl)
  have k0 := kk_rs k rs0
  have eo := k0.2.2.1.2
  refine ⟨fun q => ?_, fun q => ?_⟩
  · obtain ⟨ez, sv⟩ := a.2 (by omega)
    obtain ⟨v1, v2, v3, v4, v5, v6, v7, v8, v9, v10, v11⟩ := id sv
    refine up_ind (α := AG) 6911 (fun i G3 => 0 ≤ i ∧ i ≤ 6912 ∧ (∀ c : Nat, c ≠ 58 → G3 c = Gr c) ∧ (∀ j : Int, 0 ≤ j → j < i → G3 58 (6912 * F0 53 11 + j) = Gr 57 j) ∧ ∀ j : Int, j < 6912 * F0 53 11 → G3 58 j = Gr 58 j) (fun i G3 => Go d MX10_begin 19 [some (vR 53), some (vI i)] [] S' F0 G3 Q) ?_ ?_ 0 Gr ⟨by omega, by omega, fun _ _ => rfl, fun j p q => absurd q (by omega), fun _ _ => rfl⟩
    · rintro i G3 ⟨i0, i1, w1, w2, w3⟩ hi ih
      refine R_X10_begin_19 hsm ?_
      unfold V_X10_begin_19
      refine ⟨fun y => absurd y (by omega), fun _ => ⟨by omega, by omega, by omega, by omega, by omega, by omega, fun G7 e7 => ⟨by omega, ih G7 ⟨by omega, by omega, fun c hc' => by rw [e7, gu_row hc']; exact w1 c hc', fun j j0 j1 => ?_, fun j j1 => by rw [e7, gu_i (by omega)]; exact w3 j j1⟩⟩⟩⟩
      by_cases e : j = i
      · rw [e, e7, gu_s, w1 57 (by decide)]
      · rw [e7, gu_i (by omega)]
        exact w2 j j0 (by omega)
    · rintro i G3 ⟨i0, i1, w1, w2, w3⟩ hi
      refine R_X10_begin_19 hsm ?_
      unfold V_X10_begin_19
      refine ⟨fun _ => ?_, fun y => absurd y (by omega)⟩
      refine up_ind (α := AG) 2 (fun j G4 => 0 ≤ j ∧ j ≤ 3 ∧ (∀ c : Nat, c ≠ 60 → G4 c = G3 c) ∧ (∀ l : Int, 0 ≤ l → l < j → G4 60 (3 * F0 53 11 + l) = Gr 59 l) ∧ ∀ l : Int, l < 3 * F0 53 11 → G4 60 l = Gr 60 l) (fun j G4 => Go d MX10_begin 55 [some (vR 53), some (vI j)] [] S' F0 G4 Q) ?_ ?_ 0 G3 ⟨by omega, by omega, fun _ _ => rfl, fun l p q => absurd q (by omega), fun _ _ => by rw [w1 60 (by decide)]⟩
      · rintro j G4 ⟨j0, j1, x1, x2, x3⟩ hj ih
        refine R_X10_begin_55 hsm ?_
        unfold V_X10_begin_55
        refine ⟨fun y => absurd y (by omega), fun _ => ⟨by omega, by omega, by omega, by omega, by omega, by omega, fun G7 e7 => ⟨by omega, ih G7 ⟨by omega, by omega, fun c hc' => by rw [e7, gu_row hc']; exact x1 c hc', fun l l0 l1 => ?_, fun l l1 => by rw [e7, gu_i (by omega)]; exact x3 l l1⟩⟩⟩⟩
        by_cases e : l = j
        · rw [e, e7, gu_s, x1 59 (by decide), w1 59 (by decide)]
        · rw [e7, gu_i (by omega)]
          exact x2 l l0 (by omega)
      · rintro j G4 ⟨j0, j1, x1, x2, x3⟩ hj
        refine R_X10_begin_55 hsm ?_
        unfold V_X10_begin_55
        refine ⟨fun _ => ⟨by omega, by omega, fun G5 e5 => ⟨by omega, fun F5 ef => ?_⟩⟩, fun y => absurd y (by omega)⟩
        have f11 : F5 53 11 = F0 53 11 + 1 := by rw [ef, fu_s]
        have fk : ∀ j : Nat, j ≠ 11 → F5 53 j = F0 53 j := fun j h => by rw [ef, fu_k h]
        have g5 : ∀ c : Nat, c ≠ 58 → c ≠ 60 → c ≠ 61 → G5 c = Gr c := fun c h1 h2 h3 => by rw [e5, gu_row h3, x1 c h2, w1 c h1]
        have g58 : G5 58 = G3 58 := by rw [e5, gu_row (by decide), x1 58 (by decide)]
        have g60 : G5 60 = G4 60 := by rw [e5, gu_row (by decide)]
        have g61 : ∀ l : Int, l ≠ F0 53 11 → G5 61 l = Gr 61 l := fun l h => by rw [e5, gu_i h, x1 61 (by decide), w1 61 (by decide)]
        have g61' : G5 61 (F0 53 11) = 0 := by rw [e5, gu_s]
        obtain ⟨⟨k1, k2, k3, k4, k5⟩, ⟨k6, k7⟩, ⟨k8, k9⟩, k10, k11, k12, ⟨k13, k14⟩, k15⟩ := id k0
        have f := fun c (hc : c < 78) (h2 : c ≠ 2) => v5 c hc h2
        have c4 := f 4 (by decide) (by decide)
        have c11 := f 11 (by decide) (by decide)
        have d5 := v8 5 (by decide)
        have d12 := v8 12 (by decide)
        have q1 := fk 1 (by decide)
        have q2 := fk 2 (by decide)
        have h54 := g5 54 (by decide) (by decide) (by decide)
        have h55 := g5 55 (by decide) (by decide) (by decide)
        have em := fun a => me_cg (F := F0) (F' := F5) (G := Gr) (G' := G5) q1 q2 h54 h55 a
        have vcs : ∀ (p : Nat), G1 p = G p → vC F1 G1 p = vC F G p := by
          intro p e
          funext g x y
          unfold vC cv
          rw [c4, c11, d5, d12, e]
        rw [f11, ← eo, ← ez]
        refine hq F5 G5 ⟨⟨mx_cg q1 q2 h54 h55 k1, by rw [c4, q1]; exact k2, by rw [c11, q2]; exact k3, fun q => by rw [isC_cg c4 d5, em, h55]; exact k4 q, fun q => by rw [isC_cg c11 d12, em, h55]; exact k5 q⟩, by rw [f 3 (by decide) (by decide), f 10 (by decide) (by decide), g5 56 (by decide) (by decide) (by decide)]; exact ⟨k6, k7⟩, ⟨by rw [v6 7 (by decide), fk 3 (by decide)]; exact k8, by rw [v7, f11]; omega⟩, fun g x y g0 g1 x0 xw y0 yw => ?_, fun g g0 g1 => ?_, fun l hl => ?_, ⟨by rw [f 44 (by decide) (by decide), fk 14 (by decide)]; exact k13, ?_⟩, fun zz z0 z1 => ?_⟩ ⟨fun c hc' => ?_, fun l l0 l1 => ?_, fun c hc' => ?_⟩
        · rw [c4] at xw
          rw [c11] at yw
          rw [vcs 18 (v8 18 (by decide)), k10 g x y g0 g1 x0 xw y0 yw]
          exact (mC_pl k1 q1 q2 h54 h55 (fun i _ _ => by rw [g5 57 (by decide) (by decide) (by decide)]) g0 g1 x0 (by omega) y0 (by omega)).symm
        · rw [vcs 18 (v8 18 (by decide)), c4, c11, g5 59 (by decide) (by decide) (by decide)]
          exact k11 g g0 g1
        · rw [v7] at hl
          by_cases e : (l : Int) < F 2 8
          · obtain ⟨y1, y2, y3⟩ := k12 l e
            obtain ⟨w4, w5⟩ := v9 l e
            rw [vcs _ w5, c4, c11]
            refine ⟨fun g x y g0 g1 x0 xw y0 yw => ?_, fun g g0 g1 => ?_, ?_⟩
            · rw [y1 g x y g0 g1 x0 xw y0 yw]
              exact (mC_pl k1 q1 q2 h54 h55 (fun i i0 i1 => by rw [g58]; exact w3 _ (by omega)) g0 g1 x0 (by omega) y0 (by omega)).symm
            · rw [g60, x3 _ (by omega)]
              exact y2 g g0 g1
            · rw [w4, g61 _ (by omega)]
              exact y3
          · have el : l = (F 2 8).toNat := by omega
            subst el
            have cl : (((F 2 8).toNat : Nat) : Int) = F0 53 11 := by omega
            refine ⟨fun g x y g0 g1 x0 xw y0 yw => ?_, fun g g0 g1 => ?_, ?_⟩
            · rw [c4] at xw
              rw [c11] at yw
              rw [vC_pl hc c4 c11 d5 d12 v11 g0 g1 x0 xw y0 yw, k10 g x y g0 g1 x0 xw y0 yw, cl]
              exact (mC_pl k1 q1 q2 h54 h55 (fun i i0 i1 => by rw [g58, Int.zero_add]; exact w2 i i0 (by omega)) g0 g1 x0 (by omega) y0 (by omega)).symm
            · rw [aS_pl hc c4 c11 d5 d12 v11 g0 g1, cl, g60, x2 g g0 (by omega)]
              exact k11 g g0 g1
            · rw [v10, cl, g61']
        · have ec : ct F1 G1 = ct F G := by
            funext i w
            unfold ct
            rw [f 44 (by decide) (by decide), v8 45 (by decide)]
          rw [ec, f 44 (by decide) (by decide)]
          unfold mt
          rw [g5 62 (by decide) (by decide) (by decide)]
          exact k14
        · rw [f (22 + 2 * zz.toNat) (by omega) (by omega), f (22 + 2 * zz.toNat + 1) (by omega) (by omega), g5 63 (by decide) (by decide) (by decide), g5 64 (by decide) (by decide) (by decide), g5 65 (by decide) (by decide) (by decide)]
          exact k15 zz z0 z1
        · rw [ef, fu_row hc']
          exact rs0.1 c hc'
        · rw [fk l (by omega)]
          exact rs0.2.1 l (by omega) (by omega) (by omega)
        · exact g5 c (by omega) (by omega) (by omega)
  · obtain ⟨ez, es, ef, eg⟩ := a.1 (by omega)
    subst ef eg
    rw [← ez]
    exact hq F0 Gr k0 (rfr_rs rs0)
end
