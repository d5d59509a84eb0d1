/-! PLANS OF BORDERS -/
/-- a Cuts o became like another one, a; all else stays -/
def Like (F F' : AF) (G G' : AG) (o a : Nat) : Prop := (∀ c : Nat, c ≠ o → F' c = F c) ∧ (∀ c : Nat, c ≠ o + 1 → G' c = G c) ∧ F' o 1 = F a 1 ∧ F' o 2 = F a 2 ∧ ∀ j : Int, 0 ≤ j → j ≤ F a 1 → G' (o + 1) j = G (a + 1) j
theorem ok_copy {d : Nat} {S : AS} {F : AF} {G : AG} {o a : Nat} (hd : 1 ≤ d) (hk : AtCuts S o) (hk2 : AtCuts S a) (hne : a ≠ o) (h : CO F G a 103) {Q : AQ} (hq : ∀ F' G', Like F F' G G' o a → Q none S F' G') : Ok d MX1_copy [vR o, vR a] S F G Q := by
  obtain ⟨c1, c2, c3, c4, c5, c6, c7⟩ := h
  refine ok_go rfl (by decide) (Nat.le_of_ble_eq_true rfl) (R_X1_copy_0 hk hk2 ?_)
  unfold V_X1_copy_0
  intro F1 e1 F2 e2
  have f1 : F2 a 1 = F a 1 := by rw [e2, fu_c hne, e1, fu_c hne]
  have f2 : F1 a 1 = F a 1 := by rw [e1, fu_c hne]
  rw [f1]
  refine ⟨by omega, hd, by omega, by omega, fun G7 e7 => hq F2 G7 ⟨fun c hc => ?_, fun c hc => ?_, ?_, ?_, fun j j0 j1 => ?_⟩⟩
  · rw [e2, fu_row hc, e1, fu_row hc]
  · funext j
    rw [e7, gcp_c hc]
  · rw [e2, fu_s, f2]
  · rw [e2, fu_k (by decide), e1, fu_s]
  · rw [e7]
    simp only [gcp]
    rw [if_pos ⟨trivial, by omega, by omega⟩]
    congr 1
    omega
theorem like_co {F F' : AF} {G G' : AG} {o a : Nat} {m : Int} (h : Like F F' G G' o a) (hc : CO F G a m) : CO F' G' o m := by
  obtain ⟨c1, c2, c3, c4, c5, c6, c7⟩ := hc
  obtain ⟨_, _, l1, l2, l3⟩ := h
  refine ⟨by omega, by omega, by omega, by omega, ?_, ?_, ?_⟩
  · rw [l3 0 (by omega) (by omega)]; exact c5
  · rw [l1, l2, l3 _ (by omega) (by omega)]; exact c6
  · rw [l1]
    intro i i0 i1
    rw [l3 i i0 (by omega), l3 (i + 1) (by omega) (by omega)]
    exact c7 i i0 i1
theorem like_is {F F' : AF} {G G' : AG} {o a : Nat} (h : Like F F' G G' o a) (q : Int) : isC F' G' o q ↔ isC F G a q := by
  obtain ⟨_, _, l1, l2, l3⟩ := h
  constructor
  · rintro ⟨i, i0, i1, e⟩
    rw [l1] at i1
    exact ⟨i, i0, i1, by rw [← l3 i i0 (by omega)]; exact e⟩
  · rintro ⟨i, i0, i1, e⟩
    exact ⟨i, i0, by omega, by rw [l3 i i0 (by omega)]; exact e⟩
/-- borders of o: those of before and what was put; all else stays -/
def Grown (F F' : AF) (G G' : AG) (o : Nat) (n : Int) (P : Int → Prop) : Prop := CF F F' G G' o ∧ CO F' G' o (F o 1 + n) ∧ F o 1 ≤ F' o 1 ∧ ∀ q : Int, isC F' G' o q ↔ (isC F G o q ∨ (P q ∧ 0 < q ∧ q < F o 2))
theorem grown_0 {F : AF} {G : AG} {o : Nat} {m : Int} (h : CO F G o m) : Grown F F G G o 0 (fun _ => False) :=
  ⟨⟨fun _ _ => rfl, fun _ _ => rfl, rfl⟩, ⟨h.1, by omega, h.2.2⟩, Int.le_refl _, fun q => ⟨Or.inl, fun z => z.elim id (fun w => w.1.elim)⟩⟩
theorem grown_tr {F F1 F2 : AF} {G G1 G2 : AG} {o : Nat} {n n2 : Int} {P P2 : Int → Prop} (h1 : Grown F F1 G G1 o n P) (h2 : Grown F1 F2 G1 G2 o n2 P2) : Grown F F2 G G2 o (n + n2) (fun q => P q ∨ P2 q) := by
  obtain ⟨⟨a1, a2, a3⟩, a4, a5, a6⟩ := h1
  obtain ⟨⟨b1, b2, b3⟩, b4, b5, b6⟩ := h2
  have := a4.2.1
  refine ⟨⟨fun c hc => (b1 c hc).trans (a1 c hc), fun c hc => (b2 c hc).trans (a2 c hc), b3.trans a3⟩, ⟨b4.1, by have := b4.2.1; omega, b4.2.2⟩, by omega, fun q => ?_⟩
  rw [b6, a6, a3]
  constructor
  · rintro ((z | ⟨z1, z2⟩) | ⟨z1, z2⟩)
    · exact Or.inl z
    · exact Or.inr ⟨Or.inl z1, z2⟩
    · exact Or.inr ⟨Or.inr z1, z2⟩
  · rintro (z | ⟨z1 | z1, z2⟩)
    · exact Or.inl (Or.inl z)
    · exact Or.inl (Or.inr ⟨z1, z2⟩)
    · exact Or.inr ⟨z1, z2⟩
theorem ok_putG {d : Nat} {S : AS} {F : AF} {G : AG} {o : Nat} (hd : 1 ≤ d) (hk : AtCuts S o) (h : CO F G o 103) (p : Int) {Q : AQ} (hq : ∀ F' G', Grown F F' G G' o 1 (fun q => q = p) → Q none S F' G') : Ok d MX1_put [vR o, vI p] S F G Q := by
  refine ok_mono (ok_put hd hk h p) (fun r S' F' G' z => ?_)
  obtain ⟨z1, z2, z3, z4, z5, z6⟩ := z
  rw [z1, z2]
  exact hq F' G' ⟨z3, z4, z5, fun q => by
    rw [z6]
    constructor
    · rintro (w | ⟨w1, w2, w3⟩)
      · exact Or.inl w
      · exact Or.inr ⟨w1, by omega, by omega⟩
    · rintro (w | ⟨w1, w2, w3⟩)
      · exact Or.inl w
      · exact Or.inr ⟨w1, by omega, by omega⟩⟩
theorem ok_planSpan {d : Nat} {S : AS} {F : AF} {G : AG} {a : Nat} (hd : 2 ≤ d) (hk : AtAxis S a) {lo hi : Int} (h : CO F G (a + 3) 102) (hh : r32 (hi + 1)) {Q : AQ} (hq : ∀ F' G', Grown F F' G G' (a + 3) 2 (fun q => q = lo ∨ q = hi + 1) → Q none S F' G') : Ok d MX0_planSpan [vR a, vI lo, vI hi] S F G Q := by
  have hk3 : AtCuts S (a + 3) := hk.2.2.2.2.2.2.1
  have s0 := h.2.1
  refine ok_go rfl (by decide) (Nat.le_of_ble_eq_true rfl) (R_X0_planSpan_0 hk ?_)
  unfold V_X0_planSpan_0
  refine ⟨by omega, ok_putG (by omega) hk3 ⟨h.1, by omega, h.2.2⟩ lo (fun F1 G1 g1 => ⟨rfl, rfl, hh, ?_⟩)⟩
  have s1 := g1.2.1.2.1
  refine ok_putG (by omega) hk3 ⟨g1.2.1.1, by omega, g1.2.1.2.2⟩ (hi + 1) (fun F2 G2 g2 => ⟨rfl, rfl, hq F2 G2 ?_⟩)
  exact grown_tr g1 g2
theorem pu_plansTooManyA {d : Nat} {S : AS} {F : AF} {G : AG} {a : Nat} (hk : AtAxis S a) : Pu d MX0_plansTooMany [vR a] S F G (some (vI (bI (48 < F (a + 3) 1)))) := by
  refine ok_go rfl (by decide) (Nat.le_of_ble_eq_true rfl) (R_X0_plansTooMany_0 hk ?_)
  unfold V_X0_plansTooMany_0
  exact ⟨fun h => ⟨by rw [bI_f (by omega)], rfl, rfl, rfl⟩, fun h => ⟨by rw [bI_t (by omega)], rfl, rfl, rfl⟩⟩
theorem pu_grows {d : Nat} {S : AS} {F : AF} {G : AG} {a : Nat} (hk : AtAxis S a) : Pu d MX0_grows [vR a] S F G (some (vI (bI (F (a + 1) 1 < F (a + 3) 1)))) := by
  refine ok_go rfl (by decide) (Nat.le_of_ble_eq_true rfl) (R_X0_grows_0 hk ?_)
  unfold V_X0_grows_0
  exact ⟨fun h => ⟨by rw [bI_f (by omega)], rfl, rfl, rfl⟩, fun h => ⟨by rw [bI_t (by omega)], rfl, rfl, rfl⟩⟩
theorem pu_plansTooMany {d : Nat} {S : AS} {F : AF} {G : AG} (hd : 1 ≤ d) (hsh : ShC S) : Pu d MX2_plansTooMany [vR 2] S F G (some (vI (bI (48 < F 6 1 ∨ 48 < F 13 1)))) := by
  refine ok_go rfl (by decide) (Nat.le_of_ble_eq_true rfl) (R_X2_plansTooMany_0 hsh ?_)
  unfold V_X2_plansTooMany_0
  have e1 := pu_plansTooManyA (d := d - 1) (S := S) (F := F) (G := G) (at_3 hsh)
  have e2 := pu_plansTooManyA (d := d - 1) (S := S) (F := F) (G := G) (at_10 hsh)
  refine ⟨hd, _, e1, fun h => ?_, fun h => ⟨_, e2, fun h2 => ?_, fun h2 => ?_⟩⟩
  · rw [bI_0] at h
    exact ⟨by rw [bI_t (Or.inl (Decidable.not_not.mp h))], rfl, rfl, rfl⟩
  · rw [bI_0] at h h2
    exact ⟨by rw [bI_f (fun z => z.elim h h2)], rfl, rfl, rfl⟩
  · rw [bI_0] at h h2
    exact ⟨by rw [bI_t (Or.inr (Decidable.not_not.mp h2))], rfl, rfl, rfl⟩
