/-! WHAT HOLDS BETWEEN TWO CALLS -/
def InvA (S : AS) (F : AF) (G : AG) : Prop := ShC S ∧ ShM S ∧ ∃ n : Nat, ShN S n ∧ F 2 8 ≤ n
def InvB (F : AF) (G : AG) : Prop := CC F G ∧ MX F G ∧ F 4 2 = F 53 1 ∧ F 11 2 = F 53 2 ∧ F 4 1 = G 55 0 ∧ F 11 1 = G 55 1 ∧ (∀ i : Int, 0 ≤ i → i ≤ F 4 1 → G 5 i = me F G 0 i) ∧ ∀ i : Int, 0 ≤ i → i ≤ F 11 1 → G 12 i = me F G 1 i
def InvL (F : AF) (G : AG) : Prop := F 3 4 = G 56 0 ∧ F 10 4 = G 56 1 ∧ Lt G
/-- a plane: no field below 0, no field above the cap -/
def PlB (F : AF) (G : AG) (p : Nat) (off : Int) : Prop := ∀ i j : Int, 0 ≤ i → i < F 4 1 → 0 ≤ j → j < F 11 1 → 0 ≤ G p (off + 48 * j + i) ∧ 0 ≤ G p (off + (2304 + 48 * j + i)) ∧ 0 ≤ G p (off + (4608 + 48 * j + i)) ∧ G p (off + 48 * j + i) + G p (off + (2304 + 48 * j + i)) + G p (off + (4608 + 48 * j + i)) ≤ F 2 7
def PlE (F : AF) (G : AG) (p q : Nat) (off : Int) : Prop := ∀ g i j : Int, 0 ≤ g → g ≤ 2 → 0 ≤ i → i < F 4 1 → 0 ≤ j → j < F 11 1 → G p (2304 * g + 48 * j + i) = G q (off + 2304 * g + 48 * j + i)
def InvP (F : AF) (G : AG) : Prop := F 2 7 = F 53 3 ∧ 1 ≤ F 2 7 ∧ F 2 7 ≤ 1000000000000 ∧ PlE F G 18 57 0 ∧ PlB F G 57 0 ∧ ∀ g : Int, 0 ≤ g → g ≤ 2 → G 59 g = aS (mC F G 57 0 g) 0 0 (F 53 1 - 1) (F 53 2 - 1) ∧ G 59 g ≤ 3000000000000000000
def InvO (F : AF) (G : AG) (b : Int) : Prop := F 2 8 = F 53 11 ∧ 0 ≤ F 2 8 ∧ F 2 8 ≤ 8 ∧ (∀ k : Nat, (k : Int) < F 2 8 → PlE F G (79 + 2 * k) 58 (6912 * k) ∧ PlB F G 58 (6912 * k) ∧ (∀ g : Int, 0 ≤ g → g ≤ 2 → G 60 (3 * k + g) = aS (mC F G 58 (6912 * k) g) 0 0 (F 53 1 - 1) (F 53 2 - 1) ∧ G 60 (3 * k + g) ≤ 3000000000000000000) ∧ F (78 + 2 * k) 1 = G 61 k ∧ 0 ≤ G 61 k) ∧ sI (G 61) (F 2 8) ≤ b ∧ 0 ≤ b
def InvT (F : AF) (G : AG) : Prop := STd F ∧ F 44 2 = F 53 14 ∧ ∀ i w : Int, 0 ≤ i → i < F 44 2 → 0 ≤ w → w < 7 → ct F G i w = mt G i w
def InvZ (F : AF) (G : AG) : Prop := ZI F ∧ ∀ z : Int, 0 ≤ z → z < 6 → F (22 + 2 * z.toNat) 2 = G 65 z ∧ (¬ F (22 + 2 * z.toNat) 2 = 0 → F (22 + 2 * z.toNat) 1 = G 64 z ∧ F (22 + 2 * z.toNat + 1) 0 = G 63 (4 * z) ∧ F (22 + 2 * z.toNat + 1) 1 = G 63 (4 * z + 1) ∧ F (22 + 2 * z.toNat + 1) 2 = G 63 (4 * z + 2) ∧ F (22 + 2 * z.toNat + 1) 3 = G 63 (4 * z + 3))
def InvX (F : AF) (G : AG) : Prop := G 47 = G 72 ∧ F 46 1 = F 53 34 ∧ 0 ≤ F 46 1 ∧ F 46 1 ≤ 500 ∧ F 46 10 = F 53 37 ∧ F 46 11 = F 53 38 ∧ F 1 6 = F 53 39
def Inv (S : AS) (F : AF) (G : AG) (b : Int) : Prop := InvA S F G ∧ InvB F G ∧ InvL F G ∧ InvP F G ∧ InvO F G b ∧ InvT F G ∧ InvZ F G ∧ InvX F G
/-- cells that are only worked with -/
def Scr (F F' : AF) (G G' : AG) : Prop :=
  (∀ c : Nat, c ≠ 6 → c ≠ 13 → c ≠ 34 → c ≠ 35 → c ≠ 46 → c ≠ 51 → c ≠ 52 → c ≠ 53 → F' c = F c) ∧
  (F' 46 1 = F 46 1 ∧ F' 46 10 = F 46 10 ∧ F' 46 11 = F 46 11) ∧
  (F' 53 1 = F 53 1 ∧ F' 53 2 = F 53 2 ∧ F' 53 3 = F 53 3 ∧ F' 53 11 = F 53 11 ∧ F' 53 14 = F 53 14 ∧ F' 53 34 = F 53 34 ∧ F' 53 37 = F 53 37 ∧ F' 53 38 = F 53 38 ∧ F' 53 39 = F 53 39) ∧
  ∀ c : Nat, c ≠ 7 → c ≠ 8 → c ≠ 9 → c ≠ 14 → c ≠ 15 → c ≠ 16 → c ≠ 19 → (c < 36 ∨ 43 < c) → (c < 48 ∨ 50 < c) → (c < 66 ∨ 71 < c) → (c < 73 ∨ 77 < c) → G' c = G c
theorem scr_rf (F : AF) (G : AG) : Scr F F G G := ⟨fun _ _ _ _ _ _ _ _ _ => rfl, ⟨rfl, rfl, rfl⟩, ⟨rfl, rfl, rfl, rfl, rfl, rfl, rfl, rfl, rfl⟩, fun _ _ _ _ _ _ _ _ _ _ _ _ => rfl⟩
theorem scr_tr {F F1 F2 : AF} {G G1 G2 : AG} (h : Scr F F1 G G1) (k : Scr F1 F2 G1 G2) : Scr F F2 G G2 := by
  obtain ⟨a1, ⟨a2, a3, a4⟩, ⟨b1, b2, b3, b4, b5, b6, b7, b8, b9⟩, c1⟩ := h
  obtain ⟨x1, ⟨x2, x3, x4⟩, ⟨y1, y2, y3, y4, y5, y6, y7, y8, y9⟩, z1⟩ := k
  exact ⟨fun c p q r s t u v w => (x1 c p q r s t u v w).trans (a1 c p q r s t u v w), ⟨x2.trans a2, x3.trans a3, x4.trans a4⟩, ⟨y1.trans b1, y2.trans b2, y3.trans b3, y4.trans b4, y5.trans b5, y6.trans b6, y7.trans b7, y8.trans b8, y9.trans b9⟩, fun c p1 p2 p3 p4 p5 p6 p7 p8 p9 p10 p11 => (z1 c p1 p2 p3 p4 p5 p6 p7 p8 p9 p10 p11).trans (c1 c p1 p2 p3 p4 p5 p6 p7 p8 p9 p10 p11)⟩
theorem inv_scr {S : AS} {F F' : AF} {G G' : AG} {b : Int} (h : Inv S F G b) (k : Scr F F' G G') : Inv S F' G' b := by
  obtain ⟨⟨A1, A2, n, A3, A4⟩, ⟨B1, B2, B3, B4, B5, B6, B7, B8⟩, ⟨L1, L2, L3⟩, ⟨P1, P2, P3, P4, P5, P6⟩, ⟨O1, O2, O3, O4, O5, O6⟩, ⟨T1, T2, T3⟩, ⟨Z1, Z2⟩, ⟨X1, X2, X3, X4, X5, X6, X7⟩⟩ := h
  obtain ⟨a1, ⟨a2, a3, a4⟩, ⟨b1, b2, b3, b4, b5, b6, b7, b8, b9⟩, c1⟩ := k
  have f := fun (c : Nat) (h1 : c ≠ 6) (h2 : c ≠ 13) (h3 : c ≠ 34) (h4 : c ≠ 35) (h5 : c ≠ 46) (h6 : c ≠ 51) (h7 : c ≠ 52) (h8 : c ≠ 53) => a1 c h1 h2 h3 h4 h5 h6 h7 h8
  have e2 : F' 2 = F 2 := f 2 (by decide) (by decide) (by decide) (by decide) (by decide) (by decide) (by decide) (by decide)
  have e3 : F' 3 = F 3 := f 3 (by decide) (by decide) (by decide) (by decide) (by decide) (by decide) (by decide) (by decide)
  have e4 : F' 4 = F 4 := f 4 (by decide) (by decide) (by decide) (by decide) (by decide) (by decide) (by decide) (by decide)
  have e10 : F' 10 = F 10 := f 10 (by decide) (by decide) (by decide) (by decide) (by decide) (by decide) (by decide) (by decide)
  have e11 : F' 11 = F 11 := f 11 (by decide) (by decide) (by decide) (by decide) (by decide) (by decide) (by decide) (by decide)
  have e17 : F' 17 = F 17 := f 17 (by decide) (by decide) (by decide) (by decide) (by decide) (by decide) (by decide) (by decide)
  have e44 : F' 44 = F 44 := f 44 (by decide) (by decide) (by decide) (by decide) (by decide) (by decide) (by decide) (by decide)
  have e1 : F' 1 = F 1 := f 1 (by decide) (by decide) (by decide) (by decide) (by decide) (by decide) (by decide) (by decide)
  have gg := fun (c : Nat) (h1 : c ≠ 7) (h2 : c ≠ 8) (h3 : c ≠ 9) (h4 : c ≠ 14) (h5 : c ≠ 15) (h6 : c ≠ 16) (h7 : c ≠ 19) (h8 : c < 36 ∨ 43 < c) (h9 : c < 48 ∨ 50 < c) (h10 : c < 66 ∨ 71 < c) (h11 : c < 73 ∨ 77 < c) => c1 c h1 h2 h3 h4 h5 h6 h7 h8 h9 h10 h11
  have g5 : G' 5 = G 5 := gg 5 (by decide) (by decide) (by decide) (by decide) (by decide) (by decide) (by decide) (by decide) (by decide) (by decide) (by decide)
  have g12 : G' 12 = G 12 := gg 12 (by decide) (by decide) (by decide) (by decide) (by decide) (by decide) (by decide) (by decide) (by decide) (by decide) (by decide)
  have g18 : G' 18 = G 18 := gg 18 (by decide) (by decide) (by decide) (by decide) (by decide) (by decide) (by decide) (by decide) (by decide) (by decide) (by decide)
  have g45 : G' 45 = G 45 := gg 45 (by decide) (by decide) (by decide) (by decide) (by decide) (by decide) (by decide) (by decide) (by decide) (by decide) (by decide)
  have g47 : G' 47 = G 47 := gg 47 (by decide) (by decide) (by decide) (by decide) (by decide) (by decide) (by decide) (by decide) (by decide) (by decide) (by decide)
  have g54 : G' 54 = G 54 := gg 54 (by decide) (by decide) (by decide) (by decide) (by decide) (by decide) (by decide) (by decide) (by decide) (by decide) (by decide)
  have g55 : G' 55 = G 55 := gg 55 (by decide) (by decide) (by decide) (by decide) (by decide) (by decide) (by decide) (by decide) (by decide) (by decide) (by decide)
  have g56 : G' 56 = G 56 := gg 56 (by decide) (by decide) (by decide) (by decide) (by decide) (by decide) (by decide) (by decide) (by decide) (by decide) (by decide)
  have g57 : G' 57 = G 57 := gg 57 (by decide) (by decide) (by decide) (by decide) (by decide) (by decide) (by decide) (by decide) (by decide) (by decide) (by decide)
  have g58 : G' 58 = G 58 := gg 58 (by decide) (by decide) (by decide) (by decide) (by decide) (by decide) (by decide) (by decide) (by decide) (by decide) (by decide)
  have g59 : G' 59 = G 59 := gg 59 (by decide) (by decide) (by decide) (by decide) (by decide) (by decide) (by decide) (by decide) (by decide) (by decide) (by decide)
  have g60 : G' 60 = G 60 := gg 60 (by decide) (by decide) (by decide) (by decide) (by decide) (by decide) (by decide) (by decide) (by decide) (by decide) (by decide)
  have g61 : G' 61 = G 61 := gg 61 (by decide) (by decide) (by decide) (by decide) (by decide) (by decide) (by decide) (by decide) (by decide) (by decide) (by decide)
  have g62 : G' 62 = G 62 := gg 62 (by decide) (by decide) (by decide) (by decide) (by decide) (by decide) (by decide) (by decide) (by decide) (by decide) (by decide)
  have g63 : G' 63 = G 63 := gg 63 (by decide) (by decide) (by decide) (by decide) (by decide) (by decide) (by decide) (by decide) (by decide) (by decide) (by decide)
  have g64 : G' 64 = G 64 := gg 64 (by decide) (by decide) (by decide) (by decide) (by decide) (by decide) (by decide) (by decide) (by decide) (by decide) (by decide)
  have g65 : G' 65 = G 65 := gg 65 (by decide) (by decide) (by decide) (by decide) (by decide) (by decide) (by decide) (by decide) (by decide) (by decide) (by decide)
  have g72 : G' 72 = G 72 := gg 72 (by decide) (by decide) (by decide) (by decide) (by decide) (by decide) (by decide) (by decide) (by decide) (by decide) (by decide)
  have gs : ∀ k : Nat, G' (79 + 2 * k) = G (79 + 2 * k) := fun k => gg _ (by omega) (by omega) (by omega) (by omega) (by omega) (by omega) (by omega) (by omega) (by omega) (by omega) (by omega)
  have fs : ∀ k : Nat, F' (78 + 2 * k) = F (78 + 2 * k) := fun k => f _ (by omega) (by omega) (by omega) (by omega) (by omega) (by omega) (by omega) (by omega)
  have fz : ∀ z : Int, 0 ≤ z → z < 6 → F' (22 + 2 * z.toNat) = F (22 + 2 * z.toNat) ∧ F' (22 + 2 * z.toNat + 1) = F (22 + 2 * z.toNat + 1) := fun z z0 z1 => ⟨f _ (by omega) (by omega) (by omega) (by omega) (by omega) (by omega) (by omega) (by omega), f _ (by omega) (by omega) (by omega) (by omega) (by omega) (by omega) (by omega) (by omega)⟩
  have em := fun a => me_cg (F := F) (F' := F') (G := G) (G' := G') b1 b2 g54 g55 a
  have mc : ∀ (p : Nat) (off : Int), G' p = G p → mC F' G' p off = mC F G p off := by
    intro p off e
    funext g x y
    unfold mC cv
    rw [em, em, g55, e]
  refine ⟨⟨A1, A2, n, A3, by rw [e2]; exact A4⟩, ⟨cc_cg e4 e11 e17 g5 g12 B1, mx_cg b1 b2 g54 g55 B2, by rw [e4, b1]; exact B3, by rw [e11, b2]; exact B4, by rw [e4, g55]; exact B5, by rw [e11, g55]; exact B6, by rw [e4, g5, em]; exact B7, by rw [e11, g12, em]; exact B8⟩, ⟨by rw [e3, g56]; exact L1, by rw [e10, g56]; exact L2, by unfold Lt; rw [g55, g56]; exact L3⟩, ⟨by rw [e2, b3]; exact P1, by rw [e2]; exact P2, by rw [e2]; exact P3, by unfold PlE; rw [e4, e11, g18, g57]; exact P4, by unfold PlB; rw [e2, e4, e11, g57]; exact P5, by rw [g59, mc 57 0 g57, b1, b2]; exact P6⟩, ⟨by rw [e2, b4]; exact O1, by rw [e2]; exact O2, by rw [e2]; exact O3, fun k hk => ?_, by rw [g61, e2]; exact O5, O6⟩, ⟨by unfold STd; rw [e44]; exact T1, by rw [e44, b5]; exact T2, by unfold ct mt; rw [e44, g45, g62]; exact T3⟩, ⟨fun z z0 z1 => ?_, fun z z0 z1 => ?_⟩, ⟨by rw [g47, g72]; exact X1, by rw [a2, b6]; exact X2, by rw [a2]; exact X3, by rw [a2]; exact X4, by rw [a3, b7]; exact X5, by rw [a4, b8]; exact X6, by rw [e1, b9]; exact X7⟩⟩
  · rw [e2] at hk
    have := O4 k hk
    unfold PlE PlB at *
    rw [e2, e4, e11, gs k, g58, g60, g61, fs k, mc 58 _ g58, b1, b2]
    exact this
  · have := Z1 z z0 z1
    obtain ⟨q1, q2⟩ := fz z z0 z1
    unfold RO RG1 at *
    rw [q1, q2, e4, e11]
    exact this
  · have := Z2 z z0 z1
    obtain ⟨q1, q2⟩ := fz z z0 z1
    rw [q1, q2, g65, g64, g63]
    exact this
