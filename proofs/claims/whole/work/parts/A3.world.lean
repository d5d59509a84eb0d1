section
/-! WORLD, FEED -/
def BgnQ (F F' : AF) (G G' : AG) : Prop := (∀ c : Nat, c ≠ 53 → F' c = F c) ∧ (∀ k : Nat, k ≠ 11 → k ≠ 14 → F' 53 k = F 53 k) ∧ F' 53 11 = 0 ∧ F' 53 14 = 0 ∧ (∀ c : Nat, (c < 54 ∨ 57 < c) → c ≠ 59 → c ≠ 65 → G' c = G c) ∧ (G' 54 0 = 0 ∧ G' 54 48 = 0 ∧ G' 55 0 = 1 ∧ G' 55 1 = 1 ∧ G' 56 0 = 0 ∧ G' 56 1 = 0) ∧ (∀ i : Int, 0 ≤ i → i < 6912 → G' 57 i = 0) ∧ (∀ g : Int, 0 ≤ g → g < 3 → G' 59 g = 0) ∧ ∀ z : Int, 0 ≤ z → z < 6 → G' 65 z = 0
theorem ok_begins {d : Nat} {S : AS} {F : AF} {G : AG} (hsm : ShM S) {Q : AQ} (hq : ∀ F' G', BgnQ F F' G G' → Q none S F' G') : Ok d MX10_begins [vR 53] S F G Q := by
  refine ok_go rfl (by decide) (Nat.le_of_ble_eq_true rfl) (R_X10_begins_0 hsm ?_)
  unfold V_X10_begins_0
  intro G1 e1 G2 e2 G3 e3 G4 e4 G5 e5 G6 e6
  have o : ∀ c : Nat, c ≠ 54 → c ≠ 55 → c ≠ 56 → G6 c = G c := fun c h1 h2 h3 => by rw [e6, gu_row h3, e5, gu_row h3, e4, gu_row h2, e3, gu_row h2, e2, gu_row h1, e1, gu_row h1]
  have v : G6 54 0 = 0 ∧ G6 54 48 = 0 ∧ G6 55 0 = 1 ∧ G6 55 1 = 1 ∧ G6 56 0 = 0 ∧ G6 56 1 = 0 := by
    refine ⟨?_, ?_, ?_, ?_, ?_, ?_⟩
    · rw [e6, gu_c (by decide), e5, gu_c (by decide), e4, gu_c (by decide), e3, gu_c (by decide), e2, gu_i (by decide), e1, gu_s]
    · rw [e6, gu_c (by decide), e5, gu_c (by decide), e4, gu_c (by decide), e3, gu_c (by decide), e2, gu_s]
    · rw [e6, gu_c (by decide), e5, gu_c (by decide), e4, gu_i (by decide), e3, gu_s]
    · rw [e6, gu_c (by decide), e5, gu_c (by decide), e4, gu_s]
    · rw [e6, gu_i (by decide), e5, gu_s]
    · rw [e6, gu_s]
  refine up_ind (α := AG) 6911 (fun i G7 => 0 ≤ i ∧ i ≤ 6912 ∧ (∀ c : Nat, c ≠ 57 → G7 c = G6 c) ∧ ∀ j : Int, 0 ≤ j → j < i → G7 57 j = 0) (fun i G7 => Go d MX10_begins 45 [some (vR 53), some (vI i)] [] S F G7 Q) ?_ ?_ 0 G6 ⟨by omega, by omega, fun _ _ => rfl, fun j p q => absurd q (by omega)⟩
  · rintro i G7 ⟨i0, i1, w1, w2⟩ hi ih
    refine R_X10_begins_45 hsm ?_
    unfold V_X10_begins_45
    refine ⟨fun y => absurd y (by omega), fun _ => ⟨by omega, by omega, fun G8 e8 => ⟨by omega, ih G8 ⟨by omega, by omega, fun c hc => by rw [e8, gu_row hc]; exact w1 c hc, fun j j0 j1 => ?_⟩⟩⟩⟩
    by_cases e : j = i
    · rw [e, e8, gu_s]
    · rw [e8, gu_i e]; exact w2 j j0 (by omega)
  · rintro i G7 ⟨i0, i1, w1, w2⟩ hi
    refine R_X10_begins_45 hsm ?_
    unfold V_X10_begins_45
    refine ⟨fun _ => ?_, fun y => absurd y (by omega)⟩
    refine up_ind (α := AG) 2 (fun i G8 => 0 ≤ i ∧ i ≤ 3 ∧ (∀ c : Nat, c ≠ 59 → G8 c = G7 c) ∧ ∀ j : Int, 0 ≤ j → j < i → G8 59 j = 0) (fun i G8 => Go d MX10_begins 67 [some (vR 53), some (vI i)] [] S F G8 Q) ?_ ?_ 0 G7 ⟨by omega, by omega, fun _ _ => rfl, fun j p q => absurd q (by omega)⟩
    · rintro i G8 ⟨i0, i1, w3, w4⟩ hi ih
      refine R_X10_begins_67 hsm ?_
      unfold V_X10_begins_67
      refine ⟨fun y => absurd y (by omega), fun _ => ⟨by omega, by omega, fun G9 e9 => ⟨by omega, ih G9 ⟨by omega, by omega, fun c hc => by rw [e9, gu_row hc]; exact w3 c hc, fun j j0 j1 => ?_⟩⟩⟩⟩
      by_cases e : j = i
      · rw [e, e9, gu_s]
      · rw [e9, gu_i e]; exact w4 j j0 (by omega)
    · rintro i G8 ⟨i0, i1, w3, w4⟩ hi
      refine R_X10_begins_67 hsm ?_
      unfold V_X10_begins_67
      refine ⟨fun _ => fun F1 ef1 F2 ef2 => ?_, fun y => absurd y (by omega)⟩
      refine up_ind (α := AG) 5 (fun i G9 => 0 ≤ i ∧ i ≤ 6 ∧ (∀ c : Nat, c ≠ 65 → G9 c = G8 c) ∧ ∀ j : Int, 0 ≤ j → j < i → G9 65 j = 0) (fun i G9 => Go d MX10_begins 97 [some (vR 53), some (vI i)] [] S F2 G9 Q) ?_ ?_ 0 G8 ⟨by omega, by omega, fun _ _ => rfl, fun j p q => absurd q (by omega)⟩
      · rintro i G9 ⟨i0, i1, w5, w6⟩ hi ih
        refine R_X10_begins_97 hsm ?_
        unfold V_X10_begins_97
        refine ⟨fun y => absurd y (by omega), fun _ => ⟨by omega, by omega, fun G10 e10 => ⟨by omega, ih G10 ⟨by omega, by omega, fun c hc => by rw [e10, gu_row hc]; exact w5 c hc, fun j j0 j1 => ?_⟩⟩⟩⟩
        by_cases e : j = i
        · rw [e, e10, gu_s]
        · rw [e10, gu_i e]; exact w6 j j0 (by omega)
      · rintro i G9 ⟨i0, i1, w5, w6⟩ hi
        refine R_X10_begins_97 hsm ?_
        unfold V_X10_begins_97
        refine ⟨fun _ => hq F2 G9 ?_, fun y => absurd y (by omega)⟩
        have g : ∀ c : Nat, c ≠ 57 → c ≠ 59 → c ≠ 65 → G9 c = G6 c := fun c h1 h2 h3 => by rw [w5 c h3, w3 c h2, w1 c h1]
        refine ⟨fun c hc => by rw [ef2, fu_row hc, ef1, fu_row hc], fun k h1 h2 => by rw [ef2, fu_k h2, ef1, fu_k h1], by rw [ef2, fu_k (by decide), ef1, fu_s], by rw [ef2, fu_s], fun c h1 h2 h3 => by rw [g c (by omega) h2 h3, o c (by omega) (by omega) (by omega)], by rw [g 54 (by decide) (by decide) (by decide), g 55 (by decide) (by decide) (by decide), g 56 (by decide) (by decide) (by decide)]; exact v, fun j j0 j1 => by rw [w5 57 (by decide), w3 57 (by decide)]; exact w2 j j0 (by omega), fun j j0 j1 => by rw [w5 59 (by decide)]; exact w4 j j0 (by omega), fun j j0 j1 => w6 j j0 (by omega)⟩
/-- a new grid, of both -/
theorem kk_new {F1 F2 : AF} {G1 G2 : AG} (hc : CC F1 G1) (n4 : F1 4 1 = 1) (n11 : F1 11 1 = 1) (w : F1 4 2 = F2 53 1) (h : F1 11 2 = F2 53 2) (l3 : F1 3 4 = 0) (l10 : F1 10 4 = 0) (cap : F1 2 7 = F2 53 3) (op : F1 2 8 = 0) (z18 : ∀ i : Int, 0 ≤ i → i < 6912 → G1 18 i = 0) (zz : ∀ z : Int, 0 ≤ z → z < 6 → F1 (22 + 2 * z.toNat) 2 = 0) (t44 : F1 44 2 = 0) (o2 : F2 53 11 = 0) (t2 : F2 53 14 = 0) (v : G2 54 0 = 0 ∧ G2 54 48 = 0 ∧ G2 55 0 = 1 ∧ G2 55 1 = 1 ∧ G2 56 0 = 0 ∧ G2 56 1 = 0) (u57 : ∀ i : Int, 0 ≤ i → i < 6912 → G2 57 i = 0) (u59 : ∀ g : Int, 0 ≤ g → g < 3 → G2 59 g = 0) (u65 : ∀ z : Int, 0 ≤ z → z < 6 → G2 65 z = 0) : KK F1 G1 F2 G2 := by
  obtain ⟨v1, v2, v3, v4, v5, v6⟩ := v
  have b4 := hc.1.2.2.1
  have b4' := hc.1.2.2.2.1
  have b11 := hc.2.1.2.2.1
  have b11' := hc.2.1.2.2.2.1
  have m0 : me F2 G2 0 0 = 0 := by
    unfold me
    rw [if_neg (by omega)]
    exact v1
  have m1 : me F2 G2 1 0 = 0 := by
    unfold me
    rw [if_neg (by omega)]
    exact v2
  have mx : MX F2 G2 := by
    intro a a0 a1
    have : a = 0 ∨ a = 1 := by omega
    rcases this with e | e
    · subst e
      refine ⟨by omega, by omega, by rw [msz_0]; omega, by rw [msz_0]; omega, v1, fun i i0 i1 => ?_⟩
      have ei : i = 0 := by omega
      subst ei
      have : me F2 G2 0 (0 + 1) = msz F2 0 := by
        unfold me
        rw [if_pos (by omega)]
      rw [m0, this, msz_0]
      omega
    · subst e
      refine ⟨by omega, by omega, by rw [msz_1]; omega, by rw [msz_1]; omega, v2, fun i i0 i1 => ?_⟩
      have ei : i = 0 := by omega
      subst ei
      have : me F2 G2 1 (0 + 1) = msz F2 1 := by
        unfold me
        rw [if_pos (by omega)]
      rw [m1, this, msz_1]
      omega
  have g50 : G1 5 0 = 0 := hc.1.2.2.2.2.1
  have g120 : G1 12 0 = 0 := hc.2.1.2.2.2.2.1
  have vz : ∀ g x y : Int, 0 ≤ g → g ≤ 2 → 0 ≤ x → x < F1 4 2 → 0 ≤ y → y < F1 11 2 → vC F1 G1 18 g x y = 0 := by
    intro g x y g0 g1 x0 x1 y0 y1
    have s4 : Sq (G1 5) (F1 4 1) (F1 4 2) := sq_co hc.1
    have s11 : Sq (G1 12) (F1 11 1) (F1 11 2) := sq_co hc.2.1
    have bx := bl_spec s4 x0 x1
    have by' := bl_spec s11 y0 y1
    unfold vC cv
    exact z18 _ (by omega) (by omega)
  refine ⟨⟨mx, w, h, fun q => ?_, fun q => ?_⟩, ⟨by omega, by omega⟩, ⟨cap, by omega⟩, fun g x y g0 g1 x0 x1 y0 y1 => ?_, fun g g0 g1 => ?_, fun k hk => absurd hk (by omega), ⟨by omega, fun i w i0 i1 => absurd i1 (by omega)⟩, fun z z0 z1 => ?_⟩
  · constructor
    · rintro ⟨i, i0, i1, e⟩
      have ei : i = 0 := by omega
      subst ei
      refine ⟨0, by omega, by omega, ?_⟩
      rw [m0, ← e]
      exact g50.symm
    · rintro ⟨i, i0, i1, e⟩
      have ei : i = 0 := by omega
      subst ei
      refine ⟨0, by omega, by omega, ?_⟩
      rw [← e, m0]
      exact g50
  · constructor
    · rintro ⟨i, i0, i1, e⟩
      have ei : i = 0 := by omega
      subst ei
      refine ⟨0, by omega, by omega, ?_⟩
      rw [m1, ← e]
      exact g120.symm
    · rintro ⟨i, i0, i1, e⟩
      have ei : i = 0 := by omega
      subst ei
      refine ⟨0, by omega, by omega, ?_⟩
      rw [← e, m1]
      exact g120
  · rw [vz g x y g0 g1 x0 x1 y0 y1]
    have bx := mb_spec mx (a := 0) (p := x) (by omega) (by omega) x0 (by rw [msz_0]; omega)
    have by' := mb_spec mx (a := 1) (p := y) (by omega) (by omega) y0 (by rw [msz_1]; omega)
    have := u57 (0 + 2304 * g + 48 * mb F2 G2 1 y + mb F2 G2 0 x) (by omega) (by omega)
    unfold mC cv
    exact this.symm
  · rw [u59 g g0 (by omega)]
    have : aS (vC F1 G1 18 g) 0 0 (F1 4 2 - 1) (F1 11 2 - 1) = aS (fun _ _ => 0) 0 0 (F1 4 2 - 1) (F1 11 2 - 1) := aS_congr (fun x y x0 x1 y0 y1 => vz g x y g0 g1 x0 (by omega) y0 (by omega))
    rw [this, aS_z]
  · rw [zz z z0 z1, u65 z z0 z1]
    exact ⟨rfl, fun n => absurd rfl n⟩
theorem ci_new {S : AS} {F1 : AF} {G1 : AG} {b : Int} (hA : CA S F1) (hc : CC F1 G1) (n4 : F1 4 1 = 1) (n11 : F1 11 1 = 1) (l3 : F1 3 4 = 0) (l10 : F1 10 4 = 0) (c0 : 1 ≤ F1 2 7) (c1 : F1 2 7 ≤ 1000000000000) (op : F1 2 8 = 0) (z18 : ∀ i : Int, 0 ≤ i → i < 6912 → G1 18 i = 0) (zz : ∀ z : Int, 0 ≤ z → z < 6 → F1 (22 + 2 * z.toNat) 2 = 0 ∧ RO F1 (22 + 2 * z.toNat + 1)) (st : STd F1) (t0 : 0 ≤ F1 46 1) (t1 : F1 46 1 ≤ 500) (hb : 0 ≤ b) : CI S F1 G1 b := by
  have vz : ∀ g x y : Int, 0 ≤ g → g ≤ 2 → 0 ≤ x → x < F1 4 2 → 0 ≤ y → y < F1 11 2 → vC F1 G1 18 g x y = 0 := by
    intro g x y g0 g1 x0 x1 y0 y1
    have s4 : Sq (G1 5) (F1 4 1) (F1 4 2) := sq_co hc.1
    have s11 : Sq (G1 12) (F1 11 1) (F1 11 2) := sq_co hc.2.1
    have bx := bl_spec s4 x0 x1
    have by' := bl_spec s11 y0 y1
    unfold vC cv
    exact z18 _ (by omega) (by omega)
  refine ⟨hA, hc, by omega, by omega, ⟨fun x y x0 x1 y0 y1 => ?_, fun g g0 g1 => ?_⟩, fun k hk => absurd hk (by omega), ⟨by rw [op, sI_0 _ (by omega)]; exact hb, hb⟩, st, fun z z0 z1 => ⟨(zz z z0 z1).2, Or.inl (zz z z0 z1).1, fun n => absurd (zz z z0 z1).1 n⟩, t0, t1⟩
  · rw [vz 0 x y (by omega) (by omega) x0 x1 y0 y1, vz 1 x y (by omega) (by omega) x0 x1 y0 y1, vz 2 x y (by omega) (by omega) x0 x1 y0 y1]
    omega
  · have : aS (vC F1 G1 18 g) 0 0 (F1 4 2 - 1) (F1 11 2 - 1) = aS (fun _ _ => 0) 0 0 (F1 4 2 - 1) (F1 11 2 - 1) := aS_congr (fun x y x0 x1 y0 y1 => vz g x y g0 g1 x0 (by omega) y0 (by omega))
    rw [this, aS_z]
    omega
def WorS (F F1 : AF) (G G1 : AG) (w h cap z : Int) : Prop := (¬ ((1 ≤ w ∧ w ≤ 10000) ∧ (1 ≤ h ∧ h ≤ 10000) ∧ 1 ≤ cap ∧ cap ≤ 1000000000000) → z = -3 ∧ F1 = F ∧ G1 = G) ∧ ((1 ≤ w ∧ w ≤ 10000) ∧ (1 ≤ h ∧ h ≤ 10000) ∧ 1 ≤ cap ∧ cap ≤ 1000000000000 → z = w * h ∧ ∃ F4 : AF, ClrQ F F4 G G1 w h cap ∧ F1 = fu (fu F4 44 1 0) 44 2 0)
theorem cs_world {d : Nat} {S : AS} {F : AF} {G : AG} {b : Int} (hd : 3 ≤ d) (h : CI S F G b) (w hh cap : Int) {Q : AQ} (hq : ∀ F1 G1 z, WorS F F1 G G1 w hh cap z → SFr F F1 G G1 → CI S F1 G1 b → Q (some (vJ z)) S F1 G1) : Ok d MX9_world [vR 1, vI w, vI hh, vJ cap] S F G Q := by
  have hsh := h.1.1
  have bad : ¬ ((1 ≤ w ∧ w ≤ 10000) ∧ (1 ≤ hh ∧ hh ≤ 10000) ∧ 1 ≤ cap ∧ cap ≤ 1000000000000) → Q (some (vJ (-3))) S F G := fun n => hq F G _ ⟨fun _ => ⟨rfl, rfl, rfl⟩, fun m => absurd m n⟩ ⟨rfl, fun _ _ _ _ _ => rfl, fun _ _ _ => rfl⟩ h
  refine ok_go rfl (by decide) (Nat.le_of_ble_eq_true rfl) (R_X9_world_0 hsh ?_)
  unfold V_X9_world_0
  refine ⟨fun q => bad (fun n => by omega), fun q1 => ⟨fun q => bad (fun n => by omega), fun q2 => ⟨fun q => bad (fun n => by omega), fun q3 => ⟨fun q => bad (fun n => by omega), fun q4 => ⟨fun q => bad (fun n => by omega), fun q5 => ⟨fun q6 => ⟨by omega, ?_⟩, fun q => bad (fun n => by omega)⟩⟩⟩⟩⟩⟩
  have ok : (1 ≤ w ∧ w ≤ 10000) ∧ (1 ≤ hh ∧ hh ≤ 10000) ∧ 1 ≤ cap ∧ cap ≤ 1000000000000 := by omega
  refine ok_fclear (by omega) hsh ok.1.1 ok.1.2 ok.2.1.1 ok.2.1.2 (fun F4 G5 cl => ⟨rfl, rfl, ok_sclear hsh ⟨rfl, rfl, ?_⟩⟩)
  obtain ⟨c1, c2, c3, c4, c5, c6, c7, c8, c9, c10, c11, c12, c13⟩ := id cl
  generalize hF : fu (fu F4 44 1 0) 44 2 0 = F1
  have f : ∀ c : Nat, c ≠ 44 → F1 c = F4 c := fun c hc => by rw [← hF, fu_row hc, fu_row hc]
  have e17 := f 17 (by decide)
  have hc1 : CC F1 G5 := cc_cg (f 4 (by decide)) (f 11 (by decide)) e17 rfl rfl c3
  have pc := pu_cells (d := d - 1) (S := S) (G := G5) (by omega) (at_17 hsh) (F := F1) (by unfold RO; rw [hc1.2.2.1, hc1.2.2.2.1, hc1.2.2.2.2.1, hc1.2.2.2.2.2, f 4 (by decide), f 11 (by decide), c6, c7]; omega)
  rw [hc1.2.2.1, hc1.2.2.2.1, hc1.2.2.2.2.1, hc1.2.2.2.2.2, f 4 (by decide), f 11 (by decide), c6, c7] at pc
  have e1 : w - 1 - 0 + 1 = w := by omega
  have e2 : hh - 1 - 0 + 1 = hh := by omega
  rw [e1, e2] at pc
  refine ⟨_, pc, hq F1 G5 _ ⟨fun n => absurd ok n, fun _ => ⟨rfl, F4, cl, hF.symm⟩⟩ ⟨?_, fun c a b _ _ => ?_, fun c a b => c2 c (by omega) (by omega) (by omega) (by omega) (by omega)⟩ ?_⟩
  · rw [f 1 (by decide)]; exact c1 1 (by decide) (by decide) (by decide) (by decide) (by decide) (by decide) (by decide) (by decide) (by omega)
  · rw [f c (by omega)]; exact c1 c (by omega) (by omega) (by omega) (by omega) (by omega) (by omega) (by omega) (by omega) (by omega)
  · have e46 : F1 46 = F 46 := by rw [f 46 (by decide)]; exact c1 46 (by decide) (by decide) (by decide) (by decide) (by decide) (by decide) (by decide) (by decide) (by omega)
    refine ci_new ⟨h.1.1, h.1.2.1, ?_⟩ hc1 (by rw [f 4 (by decide)]; exact c4) (by rw [f 11 (by decide)]; exact c5) (by rw [f 3 (by decide)]; exact c8) (by rw [f 10 (by decide)]; exact c9) (by rw [f 2 (by decide), c10]; omega) (by rw [f 2 (by decide), c10]; omega) (by rw [f 2 (by decide)]; exact c11) c12 (fun z z0 z1 => ⟨by rw [f _ (by omega)]; exact (c13 z z0 z1).1, ?_⟩) ?_ (by rw [e46]; exact h.2.2.2.2.2.2.2.2.2.1) (by rw [e46]; exact h.2.2.2.2.2.2.2.2.2.2) h.2.2.2.2.2.2.1.2
    · obtain ⟨n, hn, on⟩ := h.1.2.2
      exact ⟨n, hn, by rw [f 2 (by decide), c11]; omega⟩
    · have := (ci_zi h z z0 z1).1
      unfold RO at *
      rw [f _ (by omega), (c13 z z0 z1).2.2]
      exact this
    · unfold STd
      rw [← hF, fu_k (by decide), fu_s, fu_s]
      omega
theorem cr_world {d : Nat} {S S' : AS} {F F1 Fr : AF} {G G1 Gr : AG} {b : Int} (hd : 3 ≤ d) (hsm : ShM S') (ci1 : CI S F1 G1 b) (k : KK F G Fr Gr) {w h cap z : Int} (a : WorS F F1 G G1 w h cap z) {Q : AQ} (hq : ∀ F2 G2, KK F1 G1 F2 G2 → RFr Fr F2 Gr G2 → Q (some (vJ z)) S' F2 G2) : Ok d MX10_world [vR 53, vI w, vI h, vJ cap] S' Fr Gr Q := by
  refine ok_go rfl (by decide) (Nat.le_of_ble_eq_true rfl) (R_X10_world_0 hsm ?_)
  unfold V_X10_world_0
  intro F0 e0
  have rs0 : RS Fr F0 Gr Gr := by rw [e0]; exact rs_fu (Or.inl rfl)
  have bad : ¬ ((1 ≤ w ∧ w ≤ 10000) ∧ (1 ≤ h ∧ h ≤ 10000) ∧ 1 ≤ cap ∧ cap ≤ 1000000000000) → Q (some (vJ (-3))) S' F0 Gr := by
    intro n
    obtain ⟨ez, ef, eg⟩ := a.1 n
    subst ef eg
    rw [← ez]
    exact hq F0 Gr (kk_rs k rs0) (rfr_rs rs0)
  refine ⟨by omega, _, pu_isIn hsm _ _ _, fun q => bad (fun n => bI_0.mp q n.1), fun q => ⟨_, pu_isIn hsm _ _ _, fun q2 => bad (fun n => bI_0.mp q2 n.2.1), fun q2 => ⟨_, pu_isIn hsm _ _ _, fun q3 => ?_, fun q3 => bad (fun n => bI_0.mp q3 n.2.2)⟩⟩⟩
  have ok : (1 ≤ w ∧ w ≤ 10000) ∧ (1 ≤ h ∧ h ≤ 10000) ∧ 1 ≤ cap ∧ cap ≤ 1000000000000 := ⟨Classical.byContradiction (fun z => q (bI_f z)), Classical.byContradiction (fun z => q2 (bI_f z)), Classical.byContradiction (fun z => q3 (bI_f z))⟩
  obtain ⟨ez, F4, cl, eF⟩ := a.2 ok
  intro F21 e21 F22 e22 F23 e23
  have r23 : ∀ j : Nat, j ≠ 1 → j ≠ 2 → j ≠ 3 → F23 53 j = F0 53 j := fun j h1 h2 h3 => by rw [e23, fu_k h3, e22, fu_k h2, e21, fu_k h1]
  have c23 : ∀ c : Nat, c ≠ 53 → F23 c = F0 c := fun c hc => by rw [e23, fu_row hc, e22, fu_row hc, e21, fu_row hc]
  have v1 : F23 53 1 = w := by rw [e23, fu_k (by decide), e22, fu_k (by decide), e21, fu_s]
  have v2 : F23 53 2 = h := by rw [e23, fu_k (by decide), e22, fu_s]
  have v3 : F23 53 3 = cap := by rw [e23, fu_s]
  refine ok_begins hsm (fun F26 G27 bq => ⟨rfl, rfl, ?_, ?_⟩)
  · have := mul_bd (a := w) (b := h) (A := 10000) (B := 10000) (by omega) (by omega) (by omega) (by omega)
    omega
  · obtain ⟨b1, b2, b3, b4, b5, b6, b7, b8, b9⟩ := bq
    obtain ⟨c1, c2, c3, c4, c5, c6, c7, c8, c9, c10, c11, c12, c13⟩ := id cl
    have f : ∀ c : Nat, c ≠ 44 → F1 c = F4 c := fun c hc => by rw [eF, fu_row hc, fu_row hc]
    rw [← ez]
    refine hq F26 G27 (kk_new ci1.2.1 (by rw [f 4 (by decide)]; exact c4) (by rw [f 11 (by decide)]; exact c5) (by rw [f 4 (by decide), c6, b2 1 (by decide) (by decide), v1]) (by rw [f 11 (by decide), c7, b2 2 (by decide) (by decide), v2]) (by rw [f 3 (by decide)]; exact c8) (by rw [f 10 (by decide)]; exact c9) (by rw [f 2 (by decide), c10, b2 3 (by decide) (by decide), v3]) (by rw [f 2 (by decide)]; exact c11) c12 (fun z z0 z1 => by rw [f _ (by omega)]; exact (c13 z z0 z1).1) (by rw [eF, fu_s]) b3 b4 b6 b7 b8 b9) ⟨fun c hc => by rw [b1 c hc, c23 c hc]; exact rs0.1 c hc, fun j j0 j1 => by rw [b2 j (by omega) (by omega), r23 j (by omega) (by omega) (by omega)]; exact rs0.2.1 j (by omega) (by omega) (by omega), fun c hc => b5 c (by omega) (by omega) (by omega)⟩
theorem prb_world {d : Nat} {S : AS} {F : AF} {G : AG} {b : Int} (hd : 7 ≤ d) (h : Inv S F G b) (w hh cap : Int) : PrB d MX9_world MX10_world [vR 1, vI w, vI hh, vJ cap] [vR 53, vI w, vI hh, vJ cap] vJ S F G b :=
  prb_of (Sp := fun S1 F1 G1 z => (S1 = S ∧ CI S F1 G1 b) ∧ WorS F F1 G G1 w hh cap z) h (fun Q hq => cs_world (by omega) (inv_ci h).1 w hh cap (fun F1 G1 z a s c => hq S F1 G1 z ⟨⟨rfl, c⟩, a⟩ ⟨rfl, rfl⟩ s c)) (fun S1 F1 G1 z sp hsm k Q hq => cr_world (by omega) hsm sp.1.2 k sp.2 hq)
end
