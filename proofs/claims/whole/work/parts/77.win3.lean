/-! THE BEST WINDOW -/
def Bst (X Y : Int → Prop) (W : Int → Int → Int) (x y m : Int) : Prop := X x ∧ Y y ∧ m = W x y ∧ ∀ x' y' : Int, X x' → Y y' → W x' y' ≤ m ∧ (W x' y' = m → y < y' ∨ (y = y' ∧ x ≤ x'))
theorem bst_uniq {X Y : Int → Prop} {W : Int → Int → Int} {x y m x' y' m' : Int} (h : Bst X Y W x y m) (k : Bst X Y W x' y' m') : x = x' ∧ y = y' ∧ m = m' := by
  obtain ⟨h1, h2, h3, h4⟩ := h
  obtain ⟨k1, k2, k3, k4⟩ := k
  have a := h4 x' y' k1 k2
  have b := k4 x y h1 h2
  rw [← k3] at a
  rw [← h3] at b
  have e : m = m' := by omega
  have a2 := a.2 e.symm
  have b2 := b.2 e
  omega
theorem bst_cg {X Y X' Y' : Int → Prop} {W W' : Int → Int → Int} {x y m : Int} (h : Bst X Y W x y m) (hX : ∀ q, X q ↔ X' q) (hY : ∀ q, Y q ↔ Y' q) (hW : ∀ x y, X x → Y y → W x y = W' x y) : Bst X' Y' W' x y m := by
  obtain ⟨h1, h2, h3, h4⟩ := h
  refine ⟨(hX x).mp h1, (hY y).mp h2, by rw [← hW x y h1 h2]; exact h3, fun x' y' q1 q2 => ?_⟩
  have p1 := (hX x').mpr q1
  have p2 := (hY y').mpr q2
  rw [← hW x' y' p1 p2]
  exact h4 x' y' p1 p2
/-- the best of those that were tried -/
def Bs (Pr : Int → Int → Prop) (A B : Int → Int) (W : Int → Int → Int) (x y m : Int) : Prop := (m = -1 ∧ ∀ j i : Int, ¬ Pr j i) ∨ ((∃ j i : Int, Pr j i ∧ x = A i ∧ y = B j ∧ m = W x y) ∧ ∀ j i : Int, Pr j i → W (A i) (B j) ≤ m ∧ (W (A i) (B j) = m → y < B j ∨ (y = B j ∧ x ≤ A i)))
theorem bs_new {Pr Pr2 : Int → Int → Prop} {A B : Int → Int} {W : Int → Int → Int} {x y m j i : Int} (h : Bs Pr A B W x y m) (hp : ∀ b a : Int, Pr2 b a ↔ (Pr b a ∨ (b = j ∧ a = i))) (hv : m < W (A i) (B j) ∨ (W (A i) (B j) = m ∧ (B j < y ∨ (B j = y ∧ A i < x)))) : Bs Pr2 A B W (A i) (B j) (W (A i) (B j)) := by
  refine Or.inr ⟨⟨j, i, (hp j i).mpr (Or.inr ⟨rfl, rfl⟩), rfl, rfl, rfl⟩, fun b a q => ?_⟩
  rcases (hp b a).mp q with z | ⟨z1, z2⟩
  · rcases h with ⟨-, h2⟩ | ⟨-, h2⟩
    · exact absurd z (h2 b a)
    · have := h2 b a z
      refine ⟨by omega, fun e => ?_⟩
      have t := this.2
      omega
  · subst z1 z2
    exact ⟨Int.le_refl _, fun _ => Or.inr ⟨rfl, Int.le_refl _⟩⟩
theorem bs_old {Pr Pr2 : Int → Int → Prop} {A B : Int → Int} {W : Int → Int → Int} {x y m j i : Int} (h : Bs Pr A B W x y m) (hp : ∀ b a : Int, Pr2 b a ↔ (Pr b a ∨ (b = j ∧ a = i))) (h0 : 0 ≤ W (A i) (B j)) (hv : ¬ (m < W (A i) (B j) ∨ (W (A i) (B j) = m ∧ (B j < y ∨ (B j = y ∧ A i < x))))) : Bs Pr2 A B W x y m := by
  rcases h with ⟨h1, h2⟩ | ⟨⟨b, a, g1, g2⟩, h2⟩
  · omega
  · refine Or.inr ⟨⟨b, a, (hp b a).mpr (Or.inl g1), g2⟩, fun b a q => ?_⟩
    rcases (hp b a).mp q with z | ⟨z1, z2⟩
    · exact h2 b a z
    · subst z1 z2
      exact ⟨by omega, fun e => by omega⟩
theorem bs_c {Pr Pr2 : Int → Int → Prop} {A B : Int → Int} {W : Int → Int → Int} {x y m : Int} (h : Bs Pr A B W x y m) (hp : ∀ b a : Int, Pr b a ↔ Pr2 b a) : Bs Pr2 A B W x y m := by
  rcases h with ⟨h1, h2⟩ | ⟨⟨b, a, g1, g2⟩, h2⟩
  · exact Or.inl ⟨h1, fun b a q => h2 b a ((hp b a).mpr q)⟩
  · exact Or.inr ⟨⟨b, a, (hp b a).mp g1, g2⟩, fun b a q => h2 b a ((hp b a).mpr q)⟩
/-- units of a window that begins at a cell -/
noncomputable def winW (F : AF) (G : AG) (g a b x y : Int) : Int := aS (vu F G 18 g) x y (x + a - 1) (y + b - 1)
theorem ok_findWindow {d : Nat} {S : AS} {F : AF} {G : AG} (hd : 2 ≤ d) (hsh : ShC S) (hc : CC F G) (hb : PBA F G 18) (ht : CT F G 18) {g a b : Int} (hg : 0 ≤ g) (hg2 : g ≤ 2) (a0 : 1 ≤ a) (a1 : a ≤ F 4 2) (b0 : 1 ≤ b) (b1 : b ≤ F 11 2) {Q : AQ} (hq : ∀ (F' : AF) (G' : AG), Same34 F F' → (∀ c : Nat, c ≠ 39 → c ≠ 40 → c ≠ 41 → c ≠ 42 → c ≠ 43 → G' c = G c) → Bst (Stt F G 4 a) (Stt F G 11 b) (winW F G g a b) (F' 34 4) (F' 34 5) (F' 34 8) → Q none S F' G') : Ok d MX7_findWindow [vR 34, vI g, vI a, vI b] S F G Q := by
  have w4 := hc.1.2.2.2.1
  have w11 := hc.2.1.2.2.2.1
  refine ok_go rfl (by decide) (Nat.le_of_ble_eq_true rfl) (R_X7_findWindow_0 hsh ?_)
  unfold V_X7_findWindow_0
  refine ⟨by omega, ok_gatherStarts hsh (at_4 hsh) (at_42 hsh) (by rw [shc_n hsh 42 (by decide) (by decide)]; rfl) (by decide) hc.1 a0 a1 (fun G1 mX u1 mx0 mx1 sX => ⟨rfl, mX, rfl, ?_⟩)⟩
  have hc1 : CC F G1 := cc_cg rfl rfl rfl (u1 5 (by decide)) (u1 12 (by decide)) hc
  refine ok_gatherStarts hsh (at_11 hsh) (at_43 hsh) (by rw [shc_n hsh 43 (by decide) (by decide)]; rfl) (by decide) hc1.2.1 b0 b1 (fun G2 mY u2 my0 my1 sY => ⟨rfl, mY, rfl, ?_⟩)
  have k2 : ∀ c : Nat, c ≠ 42 → c ≠ 43 → G2 c = G c := fun c h1 h2 => (u2 c h2).trans (u1 c h1)
  have hc2 : CC F G2 := cc_cg rfl rfl rfl (k2 5 (by decide) (by decide)) (k2 12 (by decide) (by decide)) hc
  have g18 : G2 18 = G 18 := k2 18 (by decide) (by decide)
  have hb2 : PBA F G2 18 := by
    intro i j i0 i1 j0 j1
    unfold PB
    rw [g18]
    exact hb i j i0 i1 j0 j1
  refine ok_sumColumnsAbove (by omega) hsh hc2 hb2 (by omega) hg2 (fun G3 u3 hA => ⟨rfl, rfl, fun F16 e16 => ?_⟩)
  have s16 : Same34 F F16 := fun c hc => by rw [e16]; exact fu_row hc
  have v8 : F16 34 8 = -1 := by rw [e16, fu_s]
  -- starts, as they lie there
  have sX3 : ∀ q : Int, isB (G3 42) mX q ↔ Stt F G 4 a q := by
    rw [u3 42 (by decide), u2 42 (by decide)]; exact sX
  have sY3 : ∀ q : Int, isB (G3 43) mY q ↔ Stt F G 11 b q := by
    rw [u3 43 (by decide)]
    intro q
    rw [sY q]
    unfold Stt isC
    rw [u1 (11 + 1) (by decide)]
  have k3 : ∀ c : Nat, c ≠ 39 → c ≠ 42 → c ≠ 43 → G3 c = G c := fun c h0 h1 h2 => (u3 c h0).trans (k2 c h1 h2)
  have inX : ∀ i : Int, 0 ≤ i → i < mX → 0 ≤ G3 42 i ∧ G3 42 i ≤ F 4 2 - a := fun i i0 i1 => stt_in hc.1 a0 a1 ((sX3 _).mp ⟨i, i0, i1, rfl⟩)
  have inY : ∀ j : Int, 0 ≤ j → j < mY → 0 ≤ G3 43 j ∧ G3 43 j ≤ F 11 2 - b := fun j i0 i1 => stt_in hc.2.1 b0 b1 ((sY3 _).mp ⟨j, i0, i1, rfl⟩)
  refine up_ind (α := AF × AG) (mY - 1) (fun j A => 0 ≤ j ∧ j ≤ mY ∧ Same34 F A.1 ∧ (∀ c : Nat, c ≠ 40 → c ≠ 41 → A.2 c = G3 c) ∧ Bs (fun j' i' => 0 ≤ j' ∧ j' < j ∧ 0 ≤ i' ∧ i' < mX) (G3 42) (G3 43) (winW F G g a b) (A.1 34 4) (A.1 34 5) (A.1 34 8)) (fun j A => Go d MX7_findWindow 55 [some (vR 34), some (vI g), some (vI a), some (vI b), some (vI mX), some (vI mY), some (vI j), none, none, none, none, none] [] S A.1 A.2 Q) ?_ ?_ 0 (F16, G3) ⟨by omega, by omega, s16, fun _ _ _ => rfl, Or.inl ⟨v8, fun j i z => by omega⟩⟩
  · rintro j ⟨F1, G4⟩ ⟨j0, j1, s1, u4, hB⟩ hj ih
    dsimp only at s1 u4 hB ⊢
    have yb := inY j j0 (by omega)
    have e43 : G4 43 = G3 43 := u4 43 (by decide) (by decide)
    have e5 : G4 5 = G 5 := (u4 5 (by decide) (by decide)).trans (k3 5 (by decide) (by decide) (by decide))
    have e12 : G4 12 = G 12 := (u4 12 (by decide) (by decide)).trans (k3 12 (by decide) (by decide) (by decide))
    have e18 : G4 18 = G 18 := (u4 18 (by decide) (by decide)).trans (k3 18 (by decide) (by decide) (by decide))
    have hc4 : CC F1 G4 := cc_cg (s1 4 (by decide)) (s1 11 (by decide)) (s1 17 (by decide)) e5 e12 hc
    have hb4 : PBA F1 G4 18 := by
      intro i j i0 i1 j0 j1
      unfold PB
      rw [s1 4 (by decide)] at i1
      rw [s1 11 (by decide)] at j1
      rw [e18]
      exact hb i j i0 i1 j0 j1
    have ht4 : CT F1 G4 18 := by
      intro g' g0 g1
      have := ht g' g0 g1
      unfold csum cu at *
      rw [s1 4 (by decide), s1 11 (by decide), e5, e12, e18]
      exact this
    have hA4 : Abv F1 G4 g := by
      intro i j i0 i1 j0 j1
      rw [s1 4 (by decide)] at i1
      rw [s1 11 (by decide)] at j1
      have := hA i j i0 i1 j0 j1
      unfold cu at *
      rw [u4 39 (by decide) (by decide), e18, e12]
      rw [u3 18 (by decide), u3 12 (by decide), g18, k2 12 (by decide) (by decide)] at this
      exact this
    refine R_X7_findWindow_55 hsh ?_
    unfold V_X7_findWindow_55
    rw [e43]
    refine ⟨fun z => absurd z (by omega), fun _ => ⟨fun z => absurd z (by omega), fun _ => ⟨j0, by omega, by omega, by omega, ok_sumColumnsBetween (by omega) hsh hc4 hb4 ht4 hg hg2 hA4 yb.1 (by omega) (by rw [s1 11 (by decide)]; omega) (fun G5 u5 hBt => ⟨rfl, rfl, ?_⟩)⟩⟩⟩
    have u5' : ∀ c : Nat, c ≠ 40 → c ≠ 41 → G5 c = G3 c := fun c h1 h2 => (u5 c h1 h2).trans (u4 c h1 h2)
    have d43 : G5 43 = G3 43 := u5' 43 (by decide) (by decide)
    have d42 : G5 42 = G3 42 := u5' 42 (by decide) (by decide)
    have d5 : G5 5 = G 5 := (u5 5 (by decide) (by decide)).trans e5
    have d12 : G5 12 = G 12 := (u5 12 (by decide) (by decide)).trans e12
    have d18 : G5 18 = G 18 := (u5 18 (by decide) (by decide)).trans e18
    refine up_ind (α := AF) (mX - 1) (fun i F2 => 0 ≤ i ∧ i ≤ mX ∧ Same34 F F2 ∧ Bs (fun j' i' => 0 ≤ j' ∧ 0 ≤ i' ∧ i' < mX ∧ (j' < j ∨ (j' = j ∧ i' < i))) (G3 42) (G3 43) (winW F G g a b) (F2 34 4) (F2 34 5) (F2 34 8)) (fun i F2 => Go d MX7_findWindow 96 [some (vR 34), some (vI g), some (vI a), some (vI b), some (vI mX), some (vI mY), some (vI j), some (vI i), none, none, none, none] [] S F2 G5 Q) ?_ ?_ 0 F1 ⟨by omega, by omega, s1, bs_c hB (fun b a => by constructor <;> (intro z; omega))⟩
    · rintro i F2 ⟨i0, i1, s2, hB2⟩ hi ih2
      have xb := inX i i0 (by omega)
      have hc5 : CC F2 G5 := cc_cg (s2 4 (by decide)) (s2 11 (by decide)) (s2 17 (by decide)) d5 d12 hc
      have hb5 : PBA F2 G5 18 := by
        intro i j i0 i1 j0 j1
        unfold PB
        rw [s2 4 (by decide)] at i1
        rw [s2 11 (by decide)] at j1
        rw [d18]
        exact hb i j i0 i1 j0 j1
      have ht5 : CT F2 G5 18 := by
        intro g' g0 g1
        have := ht g' g0 g1
        unfold csum cu at *
        rw [s2 4 (by decide), s2 11 (by decide), d5, d12, d18]
        exact this
      have hB5 : Btw F2 G5 g (G3 43 j) (G3 43 j + b) := by
        intro k k0 k1
        rw [s2 4 (by decide)] at k1
        have := hBt k k0 (by rw [s1 4 (by decide)]; exact k1)
        unfold colB at *
        rw [s2 11 (by decide)]
        rw [s1 11 (by decide)] at this
        exact this
      have ev : vu F2 G5 18 g = vu F G 18 g := by
        funext x y
        unfold vu cv cu
        rw [s2 4 (by decide), s2 11 (by decide), d5, d12, d18]
      have f2w : F2 4 2 = F 4 2 := by rw [s2 4 (by decide)]
      have f2h : F2 11 2 = F 11 2 := by rw [s2 11 (by decide)]
      have pA := fun (p : Int) (p0 : 0 ≤ p) (p1 : p ≤ F 4 2) => pu_unitsAhead (d := d - 1) (by omega) hsh hc5 hb5 ht5 hg hg2 hB5 yb.1 (by omega) (by omega) p0 (by omega : p ≤ F2 4 2)
      rw [ev] at pA
      have dif : aS (vu F G 18 g) 0 (G3 43 j) (G3 42 i + a - 1) (G3 43 j + b - 1) - aS (vu F G 18 g) 0 (G3 43 j) (G3 42 i - 1) (G3 43 j + b - 1) = winW F G g a b (G3 42 i) (G3 43 j) := by
        unfold winW
        rw [← colB_sum, ← colB_sum, ← colB_sum, dS_split (fun x => colB F G g (G3 43 j) (G3 43 j + b) (blk (G 5) (F 4 1) x)) (a := 0) (m := G3 42 i - 1) (b := G3 42 i + a - 1) (by omega) (by omega), Int.sub_add_cancel]
        omega
      have wb := vu_le hc hb ht hg hg2 (x1 := G3 42 i) (y1 := G3 43 j) (x2 := G3 42 i + a - 1) (y2 := G3 43 j + b - 1) xb.1 (by omega) yb.1 (by omega)
      have wb' : 0 ≤ winW F G g a b (G3 42 i) (G3 43 j) ∧ winW F G g a b (G3 42 i) (G3 43 j) ≤ 3000000000000000000 := wb
      have hp : ∀ b a : Int, (0 ≤ b ∧ 0 ≤ a ∧ a < mX ∧ (b < j ∨ (b = j ∧ a < i + 1))) ↔ ((0 ≤ b ∧ 0 ≤ a ∧ a < mX ∧ (b < j ∨ (b = j ∧ a < i))) ∨ (b = j ∧ a = i)) := fun b a => by constructor <;> (intro z; omega)
      have keep' : ¬ (F2 34 8 < winW F G g a b (G3 42 i) (G3 43 j) ∨ (winW F G g a b (G3 42 i) (G3 43 j) = F2 34 8 ∧ (G3 43 j < F2 34 5 ∨ (G3 43 j = F2 34 5 ∧ G3 42 i < F2 34 4)))) → ∀ z1 z2 z3 : Int, V_X7_findWindow_231 d S F2 G5 Q g a b mX mY j i z1 z2 z3 := by
        intro y z1 z2 z3
        unfold V_X7_findWindow_231
        exact ⟨by omega, ih2 F2 ⟨by omega, by omega, s2, bs_old hB2 hp wb'.1 y⟩⟩
      have take' : (F2 34 8 < winW F G g a b (G3 42 i) (G3 43 j) ∨ (winW F G g a b (G3 42 i) (G3 43 j) = F2 34 8 ∧ (G3 43 j < F2 34 5 ∨ (G3 43 j = F2 34 5 ∧ G3 42 i < F2 34 4)))) → ∀ z1 z2 z3 : Int, z1 = G3 42 i → z2 = winW F G g a b (G3 42 i) (G3 43 j) → V_X7_findWindow_208 d S F2 G5 Q g a b mX mY j i z1 z2 z3 := by
        intro y z1 z2 z3 e1 e2
        unfold V_X7_findWindow_208
        rw [d43]
        intro F3 e3 F4 e4
        refine ⟨j0, by omega, fun F5 e5' => ?_⟩
        unfold V_X7_findWindow_231
        have q4 : F5 34 4 = G3 42 i := by rw [e5', fu_k (by decide), e4, fu_s, e1]
        have q5 : F5 34 5 = G3 43 j := by rw [e5', fu_s]
        have q8 : F5 34 8 = winW F G g a b (G3 42 i) (G3 43 j) := by rw [e5', fu_k (by decide), e4, fu_k (by decide), e3, fu_s, e2]
        refine ⟨by omega, ih2 F5 ⟨by omega, by omega, fun c hc => by rw [e5', fu_row hc, e4, fu_row hc, e3, fu_row hc]; exact s2 c hc, ?_⟩⟩
        rw [q4, q5, q8]
        exact bs_new hB2 hp y
      have t1 : (G3 43 j < F2 34 5 ∨ (G3 43 j = F2 34 5 ∧ G3 42 i < F2 34 4)) → ∀ x w : Int, x = G3 42 i → w = winW F G g a b (G3 42 i) (G3 43 j) → V_X7_findWindow_176 d S F2 G5 Q g a b mX mY j i x w := by
        intro y x w e1 e2
        unfold V_X7_findWindow_176 V_X7_findWindow_181
        exact ⟨fun z => take' (Or.inl (by omega)) _ _ _ e1 e2, fun z => ⟨fun z2 => keep' (by omega) _ _ _, fun z2 => ⟨fun z3 => absurd z3 (by decide), fun _ => take' (Or.inr ⟨by omega, y⟩) _ _ _ e1 e2⟩⟩⟩
      have t0 : ¬ (G3 43 j < F2 34 5 ∨ (G3 43 j = F2 34 5 ∧ G3 42 i < F2 34 4)) → ∀ x w : Int, x = G3 42 i → w = winW F G g a b (G3 42 i) (G3 43 j) → V_X7_findWindow_180 d S F2 G5 Q g a b mX mY j i x w := by
        intro y x w e1 e2
        unfold V_X7_findWindow_180 V_X7_findWindow_181
        exact ⟨fun z => take' (Or.inl (by omega)) _ _ _ e1 e2, fun z => ⟨fun z2 => keep' (by omega) _ _ _, fun z2 => ⟨fun _ => keep' (by omega) _ _ _, fun z3 => absurd rfl z3⟩⟩⟩
      refine R_X7_findWindow_96 hsh ?_
      unfold V_X7_findWindow_96
      rw [d42, d43]
      refine ⟨fun z => absurd z (by omega), fun _ => ⟨fun z => absurd z (by omega), fun _ => ⟨i0, by omega, fun x3 e3 => ?_⟩⟩⟩
      subst e3
      have q1 := pA (G3 42 i + a) (by omega) (by omega)
      have q2 := pA (G3 42 i) xb.1 (by omega)
      have b1' := vu_le hc hb ht hg hg2 (x1 := 0) (y1 := G3 43 j) (x2 := G3 42 i + a - 1) (y2 := G3 43 j + b - 1) (by omega) (by omega) yb.1 (by omega)
      have b2' := vu_le hc hb ht hg hg2 (x1 := 0) (y1 := G3 43 j) (x2 := G3 42 i - 1) (y2 := G3 43 j + b - 1) (by omega) (by omega) yb.1 (by omega)
      refine ⟨by omega, by omega, _, q1, _, q2, by omega, fun x19 e19 => ?_⟩
      rw [dif] at e19
      exact ⟨j0, by omega, fun z => t1 (Or.inl z) _ _ rfl e19, fun z => ⟨fun z2 => t0 (by omega) _ _ rfl e19, fun z2 => ⟨fun z3 => t0 (by omega) _ _ rfl e19, fun z3 => t1 (Or.inr ⟨z2, by omega⟩) _ _ rfl e19⟩⟩⟩
    · rintro i F2 ⟨i0, i1, s2, hB2⟩ hi
      have t2 : V_X7_findWindow_237 d S F2 G5 Q g a b mX mY j i := by
        unfold V_X7_findWindow_237
        exact ⟨by omega, ih (F2, G5) ⟨by omega, by omega, s2, u5', bs_c hB2 (fun b a => by constructor <;> (intro z; omega))⟩⟩
      refine R_X7_findWindow_96 hsh ?_
      unfold V_X7_findWindow_96
      exact ⟨fun _ => t2, fun z => absurd z (by omega)⟩
  · rintro j ⟨F1, G4⟩ ⟨j0, j1, s1, u4, hB⟩ hj
    dsimp only at s1 u4 hB ⊢
    refine R_X7_findWindow_55 hsh ?_
    unfold V_X7_findWindow_55
    refine ⟨fun _ => hq F1 G4 s1 (fun c h1 h2 h3 h4 h5 => (u4 c h2 h3).trans (k3 c h1 h4 h5)) ?_, fun z => absurd z (by omega)⟩
    rcases hB with ⟨z1, z2⟩ | ⟨⟨b', a', p1, p2, p3, p4⟩, z2⟩
    · exact absurd ⟨by omega, by omega, by omega, by omega⟩ (z2 0 0)
    · refine ⟨?_, ?_, p4, fun x' y' hx' hy' => ?_⟩
      · rw [p2]; exact (sX3 _).mp ⟨a', by omega, by omega, rfl⟩
      · rw [p3]; exact (sY3 _).mp ⟨b', by omega, by omega, rfl⟩
      · obtain ⟨i', i0', i1', ie⟩ := (sX3 x').mpr hx'
        obtain ⟨j', j0', j1', je⟩ := (sY3 y').mpr hy'
        have := z2 j' i' ⟨by omega, by omega, by omega, by omega⟩
        rw [ie, je] at this
        exact this
