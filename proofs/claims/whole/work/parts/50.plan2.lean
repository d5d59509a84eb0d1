/-- a plan: the next borders of both axes are those that are there and what was asked for; nothing else has changed -/
def Pln (F F' : AF) (G G' : AG) (n m : Int) (P R : Int → Prop) : Prop := (∀ c : Nat, c ≠ 6 → c ≠ 13 → F' c = F c) ∧ (∀ c : Nat, c ≠ 7 → c ≠ 14 → G' c = G c) ∧ CO F' G' 6 (F 4 1 + n) ∧ CO F' G' 13 (F 11 1 + m) ∧ F' 6 2 = F 4 2 ∧ F' 13 2 = F 11 2 ∧ F 4 1 ≤ F' 6 1 ∧ F 11 1 ≤ F' 13 1 ∧ (∀ q : Int, isC F' G' 6 q ↔ (isC F G 4 q ∨ (P q ∧ 0 < q ∧ q < F 4 2))) ∧ ∀ q : Int, isC F' G' 13 q ↔ (isC F G 11 q ∨ (R q ∧ 0 < q ∧ q < F 11 2))
theorem pln_x {F F1 F2 : AF} {G G1 G2 : AG} {n m k : Int} {P R P2 : Int → Prop} (h : Pln F F1 G G1 n m P R) (g : Grown F1 F2 G1 G2 6 k P2) : Pln F F2 G G2 (n + k) m (fun q => P q ∨ P2 q) R := by
  obtain ⟨a1, a2, a3, a4, a5, a6, a7, a8, a9, a10⟩ := h
  obtain ⟨⟨b1, b2, b3⟩, b4, b5, b6⟩ := g
  have s1 := a3.2.1
  have f13 : F2 13 = F1 13 := b1 13 (by decide)
  have g14 : G2 14 = G1 14 := b2 14 (by decide)
  refine ⟨fun c h1 h2 => (b1 c h1).trans (a1 c h1 h2), fun c h1 h2 => (b2 c h1).trans (a2 c h1 h2), ⟨b4.1, by have := b4.2.1; omega, b4.2.2⟩, ?_, b3.trans a5, by rw [f13]; exact a6, by omega, by rw [f13]; exact a8, fun q => ?_, fun q => ?_⟩
  · obtain ⟨c1, c2, c3, c4, c5, c6, c7⟩ := a4
    simp only [CO]
    rw [f13, g14]
    exact ⟨c1, c2, c3, c4, c5, c6, c7⟩
  · rw [b6, a9, a5]
    constructor
    · rintro ((z | ⟨z1, z2⟩) | ⟨z1, z2⟩)
      · exact Or.inl z
      · exact Or.inr ⟨Or.inl z1, z2⟩
      · exact Or.inr ⟨Or.inr z1, z2⟩
    · rintro (z | ⟨z1 | z1, z2⟩)
      · exact Or.inl (Or.inl z)
      · exact Or.inl (Or.inr ⟨z1, z2⟩)
      · exact Or.inr ⟨z1, z2⟩
  · rw [← a10]
    simp only [isC]
    rw [f13, g14]
theorem pln_y {F F1 F2 : AF} {G G1 G2 : AG} {n m k : Int} {P R P2 : Int → Prop} (h : Pln F F1 G G1 n m P R) (g : Grown F1 F2 G1 G2 13 k P2) : Pln F F2 G G2 n (m + k) P (fun q => R q ∨ P2 q) := by
  obtain ⟨a1, a2, a3, a4, a5, a6, a7, a8, a9, a10⟩ := h
  obtain ⟨⟨b1, b2, b3⟩, b4, b5, b6⟩ := g
  have s1 := a4.2.1
  have f6 : F2 6 = F1 6 := b1 6 (by decide)
  have g7 : G2 7 = G1 7 := b2 7 (by decide)
  refine ⟨fun c h1 h2 => (b1 c h2).trans (a1 c h1 h2), fun c h1 h2 => (b2 c h2).trans (a2 c h1 h2), ?_, ⟨b4.1, by have := b4.2.1; omega, b4.2.2⟩, by rw [f6]; exact a5, b3.trans a6, by rw [f6]; exact a7, by omega, fun q => ?_, fun q => ?_⟩
  · obtain ⟨c1, c2, c3, c4, c5, c6, c7⟩ := a3
    simp only [CO]
    rw [f6, g7]
    exact ⟨c1, c2, c3, c4, c5, c6, c7⟩
  · rw [← a9]
    simp only [isC]
    rw [f6, g7]
  · rw [b6, a10, a6]
    constructor
    · rintro ((z | ⟨z1, z2⟩) | ⟨z1, z2⟩)
      · exact Or.inl z
      · exact Or.inr ⟨Or.inl z1, z2⟩
      · exact Or.inr ⟨Or.inr z1, z2⟩
    · rintro (z | ⟨z1 | z1, z2⟩)
      · exact Or.inl (Or.inl z)
      · exact Or.inl (Or.inr ⟨z1, z2⟩)
      · exact Or.inr ⟨z1, z2⟩
theorem ok_planMore {d : Nat} {S : AS} {F F1 : AF} {G G1 : AG} {re : Nat} (hd : 3 ≤ d) (hsh : ShC S) (hk : AtRect S re) (h6 : re ≠ 6) (h13 : re ≠ 13) {n m : Int} {P R : Int → Prop} (h : Pln F F1 G G1 n m P R) (hn : F 4 1 + n ≤ 102) (hm : F 11 1 + m ≤ 102) (hr : RO F re) {Q : AQ} (hq : ∀ F' G', Pln F F' G G' (n + 2) (m + 2) (fun q => P q ∨ q = F re 0 ∨ q = F re 2 + 1) (fun q => R q ∨ q = F re 1 ∨ q = F re 3 + 1) → Q none S F' G') : Ok d MX2_planMore [vR 2, vR re] S F1 G1 Q := by
  obtain ⟨r1, r2, r3, r4, r5, r6, r7, r8⟩ := hr
  have e : F1 re = F re := h.1 re h6 h13
  have c6 := h.2.2.1
  have c13 := h.2.2.2.1
  refine ok_go rfl (by decide) (Nat.le_of_ble_eq_true rfl) (R_X2_planMore_0 hsh hk ?_)
  unfold V_X2_planMore_0
  rw [e]
  refine ⟨by omega, ok_planSpan (by omega) (at_3 hsh) ⟨c6.1, (show F1 6 1 ≤ 102 by have := c6.2.1; omega), c6.2.2⟩ (by omega) (fun F2 G2 g2 => ⟨rfl, rfl, ?_⟩)⟩
  have p2 := pln_x h g2
  have e2 : F2 re = F re := (g2.1.1 re h6).trans e
  have c13' := p2.2.2.2.1
  rw [e2]
  refine ok_planSpan (by omega) (at_10 hsh) ⟨c13'.1, (show F2 13 1 ≤ 102 by have := c13'.2.1; omega), c13'.2.2⟩ (by omega) (fun F3 G3 g3 => ⟨rfl, rfl, hq F3 G3 (pln_y p2 g3)⟩)
theorem pln_0 {F F1 F2 : AF} {G G1 G2 : AG} (hc : CC F G) (h1 : Like F F1 G G1 6 4) (h2 : Like F1 F2 G1 G2 13 11) : Pln F F2 G G2 0 0 (fun _ => False) (fun _ => False) := by
  have f4 : F1 4 = F 4 := h1.1 4 (by decide)
  have f11 : F1 11 = F 11 := h1.1 11 (by decide)
  have g12 : G1 12 = G 12 := h1.2.1 12 (by decide)
  have f6 : F2 6 = F1 6 := h2.1 6 (by decide)
  have g7 : G2 7 = G1 7 := h2.2.1 7 (by decide)
  have c6 := like_co h1 hc.1
  have hc11 : CO F1 G1 11 48 := by
    obtain ⟨c1, c2, c3, c4, c5, c6, c7⟩ := hc.2.1
    simp only [CO]
    rw [f11, g12]
    exact ⟨c1, c2, c3, c4, c5, c6, c7⟩
  have c13 := like_co h2 hc11
  have i6 := like_is h1
  have i13 := like_is h2
  obtain ⟨a1, a2, a3, a4, a5⟩ := h1
  obtain ⟨b1, b2, b3, b4, b5⟩ := h2
  rw [f11] at b3 b4
  refine ⟨fun c q1 q2 => (b1 c q2).trans (a1 c q1), fun c q1 q2 => (b2 c q2).trans (a2 c q1), ?_, ⟨c13.1, by omega, c13.2.2⟩, by rw [f6]; exact a4, b4, by rw [f6]; omega, by omega, fun q => ?_, fun q => ?_⟩
  · obtain ⟨c1, c2, c3, c4, c5, c7, c8⟩ := c6
    simp only [CO]
    rw [f6, g7]
    exact ⟨c1, by omega, c3, c4, c5, c7, c8⟩
  · have : isC F2 G2 6 q ↔ isC F1 G1 6 q := by
      simp only [isC]
      rw [f6, g7]
    rw [this, i6]
    exact ⟨Or.inl, fun z => z.elim id (fun w => w.1.elim)⟩
  · have : isC F1 G1 11 q ↔ isC F G 11 q := by
      simp only [isC]
      rw [f11, g12]
    rw [i13, this]
    exact ⟨Or.inl, fun z => z.elim id (fun w => w.1.elim)⟩
theorem ok_plan {d : Nat} {S : AS} {F : AF} {G : AG} {re : Nat} (hd : 4 ≤ d) (hsh : ShC S) (hc : CC F G) (hk : AtRect S re) (h6 : re ≠ 6) (h13 : re ≠ 13) (hr : RO F re) {Q : AQ} (hq : ∀ F' G', Pln F F' G G' 2 2 (fun q => q = F re 0 ∨ q = F re 2 + 1) (fun q => q = F re 1 ∨ q = F re 3 + 1) → Q none S F' G') : Ok d MX2_plan [vR 2, vR re] S F G Q := by
  have x48 := hc.1.2.1
  have y48 := hc.2.1.2.1
  refine ok_go rfl (by decide) (Nat.le_of_ble_eq_true rfl) (R_X2_plan_0 hsh hk ?_)
  unfold V_X2_plan_0
  refine ⟨by omega, ok_copy (by omega) (at_6 hsh) (at_4 hsh) (by decide) ⟨hc.1.1, by omega, hc.1.2.2⟩ (fun F1 G1 l1 => ⟨rfl, rfl, ?_⟩)⟩
  have f11 : F1 11 = F 11 := l1.1 11 (by decide)
  have g12 : G1 12 = G 12 := l1.2.1 12 (by decide)
  have hc11 : CO F1 G1 11 103 := by
    obtain ⟨c1, c2, c3, c4, c5, c6, c7⟩ := hc.2.1
    simp only [CO]
    rw [f11, g12]
    exact ⟨c1, by omega, c3, c4, c5, c6, c7⟩
  refine ok_copy (by omega) (at_13 hsh) (at_11 hsh) (by decide) hc11 (fun F2 G2 l2 => ⟨rfl, rfl, ?_⟩)
  refine ok_planMore (by omega) hsh hk h6 h13 (pln_0 hc l1 l2) (by omega) (by omega) hr (fun F3 G3 p3 => ⟨rfl, rfl, hq F3 G3 ?_⟩)
  obtain ⟨a1, a2, a3, a4, a5, a6, a7, a8, a9, a10⟩ := p3
  refine ⟨a1, a2, ⟨a3.1, by have := a3.2.1; omega, a3.2.2⟩, ⟨a4.1, by have := a4.2.1; omega, a4.2.2⟩, a5, a6, a7, a8, fun q => ?_, fun q => ?_⟩
  · rw [a9]
    simp only [false_or]
  · rw [a10]
    simp only [false_or]
