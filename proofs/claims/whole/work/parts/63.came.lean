/-! BORDERS THAT CAME BY AN ACT -/
theorem ok_acts {d : Nat} {S : AS} {F : AF} {G : AG} (hsm : ShM S) (hx : MX F G) {Q : AQ} (hq : ∀ G', (∀ c : Nat, c ≠ 66 → G' c = G c) → (∀ a : Int, 0 ≤ a → a ≤ 1 → G' 66 a = me F G a (G 55 a - 1)) → Q none S F G') : Ok d MX10_acts [vR 53] S F G Q := by
  refine ok_go rfl (by decide) (Nat.le_of_ble_eq_true rfl) (R_X10_acts_0 hsm ?_)
  unfold V_X10_acts_0
  refine up_ind (α := AG) 1 (fun i G2 => 0 ≤ i ∧ i ≤ 2 ∧ (∀ c : Nat, c ≠ 66 → G2 c = G c) ∧ ∀ a : Int, 0 ≤ a → a < i → G2 66 a = me F G a (G 55 a - 1)) (fun i G2 => Go d MX10_acts 2 [some (vR 53), some (vI i)] [] S F G2 Q) ?_ ?_ 0 G ⟨by omega, by omega, fun _ _ => rfl, fun k a b => absurd b (by omega)⟩
  · rintro i G2 ⟨i0, i1, c1, c2⟩ hi ih
    have x := hx i i0 hi
    have x1 := x.1
    have x2 := x.2.1
    refine R_X10_acts_2 hsm ?_
    unfold V_X10_acts_2
    rw [c1 55 (by decide), c1 54 (by decide)]
    refine ⟨fun y => absurd y (by omega), fun _ => ⟨by omega, i0, by omega, by omega, by omega, by omega, by omega, fun G3 e3 => ⟨by omega, ih G3 ⟨by omega, by omega, fun c hc => by rw [e3, gu_row hc]; exact c1 c hc, fun a a0 a1 => ?_⟩⟩⟩⟩
    by_cases e : a = i
    · have e1 : 48 * i + G 55 i - 1 = 48 * i + (G 55 i - 1) := by omega
      rw [e3, e, gu_s, me_lo (by omega), e1]
    · rw [e3, gu_i e]; exact c2 a a0 (by omega)
  · rintro i G2 ⟨i0, i1, c1, c2⟩ hi
    refine R_X10_acts_2 hsm ?_
    unfold V_X10_acts_2
    exact ⟨fun _ => hq G2 c1 (fun a a0 a1 => c2 a a0 (by omega)), fun y => absurd y (by omega)⟩
def Came (F : AF) (G G' : AG) (PP : Int → Int → Prop) : Prop :=
  (∀ c : Nat, c ≠ 54 → c ≠ 55 → c ≠ 56 → c ≠ 57 → c ≠ 58 → G' c = G c) ∧ MX F G' ∧
  (∀ a : Int, 0 ≤ a → a ≤ 1 → (∀ q : Int, isB (me F G' a) (G' 55 a) q ↔ (isB (me F G a) (G 55 a) q ∨ (PP a q ∧ 0 < q ∧ q < msz F a))) ∧ G' 56 a = G 56 a + sI (fun i => nw (me F G a) (G 55 a) (G 66 a) (me F G' a i)) (G' 55 a) ∧ G 55 a ≤ G' 55 a ∧ G 56 a ≤ G' 56 a ∧ G' 56 a - G 56 a ≤ G' 55 a - G 55 a) ∧
  SameC F G G' 57 0 ∧ ∀ k : Int, 0 ≤ k → k < F 53 11 → SameC F G G' 58 (6912 * k)
theorem came_w {F : AF} {G G' : AG} {PP P2 : Int → Int → Prop} (h : Came F G G' PP) (hp : ∀ a q : Int, 0 ≤ a → a ≤ 1 → 0 < q → q < msz F a → ¬ isB (me F G a) (G 55 a) q → (PP a q ↔ P2 a q)) : Came F G G' P2 := by
  refine ⟨h.1, h.2.1, fun a a0 a1 => ?_, h.2.2.2⟩
  have t := h.2.2.1 a a0 a1
  refine ⟨fun q => ?_, t.2⟩
  rw [t.1 q]
  by_cases nb : isB (me F G a) (G 55 a) q
  · exact ⟨fun _ => Or.inl nb, fun _ => Or.inl nb⟩
  · constructor
    · rintro (u | ⟨u1, u2, u3⟩)
      · exact absurd u nb
      · exact Or.inr ⟨(hp a q a0 a1 u2 u3 nb).mp u1, u2, u3⟩
    · rintro (u | ⟨u1, u2, u3⟩)
      · exact absurd u nb
      · exact Or.inr ⟨(hp a q a0 a1 u2 u3 nb).mpr u1, u2, u3⟩
theorem came_0 {F : AF} {G : AG} (hx : MX F G) : Came F G G (fun _ _ => False) := by
  refine ⟨fun _ _ _ _ _ _ => rfl, hx, fun a a0 a1 => ⟨fun q => ⟨Or.inl, fun y => y.elim id (fun z => absurd z.1 id)⟩, ?_, by omega, by omega, by omega⟩, fun _ _ _ _ _ _ _ _ _ => rfl, fun _ _ _ _ _ _ _ _ _ _ _ _ => rfl⟩
  have : sI (fun i => nw (me F G a) (G 55 a) (G 66 a) (me F G a i)) (G 55 a) = sI (fun _ => 0) (G 55 a) := sI_congr (fun i i0 i1 => nw_0 (Or.inl ⟨i, i0, i1, rfl⟩))
  rw [this, sI_z, Int.add_zero]
theorem came_s {F : AF} {G G1 G2 : AG} {PP : Int → Int → Prop} {a p : Int} (a0 : 0 ≤ a) (a1 : a ≤ 1) (h : Came F G G1 PP) (c : Cam F G1 G2 a p) : Came F G G2 (fun b q => PP b q ∨ (b = a ∧ q = p)) := by
  obtain ⟨h1, h2, h3, h4, h5⟩ := h
  obtain ⟨c1, c2, c3, c4, c5, c6, c7⟩ := c
  have t66 : G1 66 = G 66 := h1 66 (by decide) (by decide) (by decide) (by decide) (by decide)
  refine ⟨fun x x1 x2 x3 x4 x5 => (c1 x x1 x2 x3 x4 x5).trans (h1 x x1 x2 x3 x4 x5), c2, fun b b0 b1 => ?_, fun g x y g0 g1 x0 x1 y0 y1 => (c6 g x y g0 g1 x0 x1 y0 y1).trans (h4 g x y g0 g1 x0 x1 y0 y1), fun k k0 k1 g x y g0 g1 x0 x1 y0 y1 => (c7 k k0 k1 g x y g0 g1 x0 x1 y0 y1).trans (h5 k k0 k1 g x y g0 g1 x0 x1 y0 y1)⟩
  obtain ⟨i1, i2, i3, i4, i5⟩ := h3 b b0 b1
  by_cases e : b = a
  · subst e
    refine ⟨fun q => ?_, ?_, ?_, ?_, ?_⟩
    · rw [c4 q, i1 q]
      constructor
      · rintro ((u | ⟨u1, u2⟩) | ⟨u1, u2, u3⟩)
        · exact Or.inl u
        · exact Or.inr ⟨Or.inl u1, u2⟩
        · exact Or.inr ⟨Or.inr ⟨rfl, u1⟩, by omega, by omega⟩
      · rintro (u | ⟨u1 | ⟨-, u1⟩, u2, u3⟩)
        · exact Or.inl (Or.inl u)
        · exact Or.inl (Or.inr ⟨u1, u2, u3⟩)
        · exact Or.inr ⟨u1, by omega, by omega⟩
    · rcases c5 with ⟨e1, e2, e3⟩ | ⟨e0, e1, e2, e3⟩
      · rw [e1, e2, e3]; exact i2
      · have nb : ¬ isB (me F G b) (G 55 b) p := fun y => e0 ((i1 p).mpr (Or.inl y))
        rw [e3 (fun q => nw (me F G b) (G 55 b) (G 66 b) q), e2, i2, t66]
        by_cases w : p < G 66 b
        · rw [if_pos w, nw_1 nb w]; omega
        · rw [if_neg w, nw_0 (Or.inr w)]; omega
    all_goals
      rcases c5 with ⟨e1, e2, e3⟩ | ⟨e0, e1, e2, e3⟩
      · omega
      · have : (if p < G1 66 b then (1 : Int) else 0) = 0 ∨ (if p < G1 66 b then (1 : Int) else 0) = 1 := by
          by_cases w : p < G1 66 b
          · rw [if_pos w]; omega
          · rw [if_neg w]; omega
        omega
  · obtain ⟨d1, d2, d3⟩ := c3 b b0 b1 e
    refine ⟨fun q => ?_, ?_, by omega, by omega, by omega⟩
    · have : isB (me F G2 b) (G2 55 b) q ↔ isB (me F G1 b) (G1 55 b) q := by
        constructor
        · rintro ⟨i, j0, j1, je⟩
          exact ⟨i, j0, by omega, by rw [← d3 i j0 (by omega)]; exact je⟩
        · rintro ⟨i, j0, j1, je⟩
          exact ⟨i, j0, by omega, by rw [d3 i j0 (by omega)]; exact je⟩
      rw [this, i1 q]
      constructor
      · rintro (u | ⟨u1, u2⟩)
        · exact Or.inl u
        · exact Or.inr ⟨Or.inl u1, u2⟩
      · rintro (u | ⟨u1 | ⟨u1, -⟩, u2⟩)
        · exact Or.inl u
        · exact Or.inr ⟨u1, u2⟩
        · exact absurd u1 e
    · rw [d2, i2, d1]
      congr 1
      exact sI_congr (fun i j0 j1 => by rw [d3 i j0 (by omega)])
/-- there is room for all that come -/
def Rm (F : AF) (G : AG) (a : Int) (P : Int → Prop) : Prop := ∃ (er : Int → Int) (nr : Int), Sq er nr (msz F a) ∧ nr ≤ 48 ∧ ∀ q : Int, isB er nr q ↔ (isB (me F G a) (G 55 a) q ∨ (P q ∧ 0 < q ∧ q < msz F a))
theorem rm_wn {F F1 F' : AF} {G G1 G' : AG} {a m : Int} {P : Int → Prop} (h : Wn F F' G G' a m P) (hr : G 55 a + F' 53 20 ≤ 48) (e1 : F1 53 1 = F 53 1) (e2 : F1 53 2 = F 53 2) (g54 : G1 54 = G 54) (g55 : G1 55 = G 55) : Rm F1 G1 a P := by
  obtain ⟨-, -, -, -, -, ⟨e', h6, h7⟩, -⟩ := h
  unfold Rm
  rw [me_cg e1 e2 g54 g55, msz_cg e1 e2, g55]
  exact ⟨e', _, h6, hr, h7⟩
def Lt (G : AG) : Prop := ∀ a : Int, 0 ≤ a → a ≤ 1 → 0 ≤ G 56 a ∧ G 56 a ≤ G 55 a - 1
theorem ok_comesC {d : Nat} {S : AS} {F : AF} {G G1 : AG} (hd : 2 ≤ d) (hsm : ShM S) (hl : Lt G) (o0 : 0 ≤ F 53 11) (o8 : F 53 11 ≤ 8) {a p : Int} {PP : Int → Int → Prop} {PF : Int → Prop} (h0 : 0 ≤ a) (h1 : a ≤ 1) (hC : Came F G G1 PP) (hR : Rm F G a PF) (hs : ∀ q : Int, PP a q → PF q) (hp : PF p) (p0 : 0 ≤ p) (p1 : p ≤ msz F a) {Q : AQ} (hq : ∀ G2, Came F G G2 (fun b q => PP b q ∨ (b = a ∧ q = p)) → Q none S F G2) : Ok d MX10_comes [vR 53, vI a, vI p] S F G1 Q := by
  have hx := hC.2.1
  obtain ⟨i1, i2, i3, i4, i5⟩ := hC.2.2.1 a h0 h1
  have l := hl a h0 h1
  have n48 := (hx a h0 h1).2.1
  have s1 := sq_mx hx h0 h1
  obtain ⟨er, nr, r1, r2, r3⟩ := hR
  refine ok_comes hd hsm hx h0 h1 p0 p1 (fun nb nw' => ?_) o0 o8 (by omega) (by omega) (fun G2 c => hq G2 (came_s h0 h1 hC c))
  have p00 : p ≠ 0 := fun y => nb (y ▸ isB_0 s1)
  have := sub_lt s1 r1 (p := p) (fun q hq' => ?_) ((r3 p).mpr (Or.inr ⟨hp, by omega, by omega⟩)) nb
  · omega
  · rcases (i1 q).mp hq' with u | ⟨u1, u2⟩
    · exact (r3 q).mpr (Or.inl u)
    · exact (r3 q).mpr (Or.inr ⟨hs q u1, u2⟩)
theorem ok_comesAll {d : Nat} {S : AS} {F : AF} {G G1 : AG} (hd : 3 ≤ d) (hsm : ShM S) (hl : Lt G) (o0 : 0 ≤ F 53 11) (o8 : F 53 11 ≤ 8) {a : Int} {PP : Int → Int → Prop} {PF : Int → Prop} (h0 : 0 ≤ a) (h1 : a ≤ 1) (hC : Came F G G1 PP) (hR : Rm F G a PF) (hs : ∀ q : Int, PP a q → PF q) (hm : F 53 20 ≤ 64) (hp : ∀ q : Int, Cmg F G q → PF q ∧ 0 ≤ q ∧ q ≤ msz F a) {Q : AQ} (hq : ∀ G2, Came F G G2 (fun b q => PP b q ∨ (b = a ∧ Cmg F G q)) → Q none S F G2) : Ok d MX10_comesAll [vR 53, vI a] S F G1 Q := by
  refine ok_go rfl (by decide) (Nat.le_of_ble_eq_true rfl) (R_X10_comesAll_0 hsm ?_)
  unfold V_X10_comesAll_0
  intro n en
  refine up_ind (α := AG) (n - 1) (fun k G2 => 0 ≤ k ∧ Came F G G2 (fun b q => PP b q ∨ (b = a ∧ ∃ l : Int, 0 ≤ l ∧ l < k ∧ l < n ∧ G 67 l = q))) (fun k G2 => Go d MX10_comesAll 7 [some (vR 53), some (vI a), some (vI n), some (vI k)] [] S F G2 Q) ?_ ?_ 0 G1 ⟨by omega, came_w hC (fun b q _ _ _ _ _ => ⟨Or.inl, fun y => y.elim id (fun z => ?_)⟩)⟩
  · rintro k G2 ⟨k0, hk⟩ hk2 ih
    have t67 : G2 67 = G 67 := hk.1 67 (by decide) (by decide) (by decide) (by decide) (by decide)
    have pk := hp (G 67 k) ⟨k, k0, by omega, rfl⟩
    refine R_X10_comesAll_7 hsm ?_
    unfold V_X10_comesAll_7
    rw [t67]
    refine ⟨fun y => absurd y (by omega), fun _ => ⟨k0, by omega, by omega, ok_comesC (by omega) hsm hl o0 o8 h0 h1 hk hR ?_ pk.1 pk.2.1 pk.2.2 (fun G3 c3 => ⟨rfl, rfl, by omega, ih G3 ⟨by omega, came_w c3 (fun b q _ _ _ _ _ => ⟨?_, ?_⟩)⟩⟩)⟩⟩
    · rintro q (u | ⟨-, l, l0, l1, l2, l3⟩)
      · exact hs q u
      · exact (hp q ⟨l, l0, by omega, l3⟩).1
    · rintro ((u | ⟨u, l, l0, l1, l2, l3⟩) | ⟨u1, u2⟩)
      · exact Or.inl u
      · exact Or.inr ⟨u, l, l0, by omega, l2, l3⟩
      · exact Or.inr ⟨u1, k, k0, by omega, by omega, u2.symm⟩
    · rintro (u | ⟨u, l, l0, l1, l2, l3⟩)
      · exact Or.inl (Or.inl u)
      · by_cases e : l = k
        · exact Or.inr ⟨u, by rw [← l3, e]⟩
        · exact Or.inl (Or.inr ⟨u, l, l0, by omega, l2, l3⟩)
  · rintro k G2 ⟨k0, hk⟩ hk2
    refine R_X10_comesAll_7 hsm ?_
    unfold V_X10_comesAll_7
    refine ⟨fun _ => hq G2 (came_w hk (fun b q _ _ _ _ _ => ⟨?_, ?_⟩)), fun y => absurd y (by omega)⟩
    · rintro (u | ⟨u, l, l0, l1, l2, l3⟩)
      · exact Or.inl u
      · exact Or.inr ⟨u, l, l0, by omega, l3⟩
    · rintro (u | ⟨u, l, l0, l1, l3⟩)
      · exact Or.inl u
      · exact Or.inr ⟨u, l, l0, by omega, by omega, l3⟩
  · obtain ⟨-, l, l0, l1, -⟩ := z
    omega
def CmA (F : AF) (G : AG) (q : Int) : Prop := ∃ k : Int, 0 ≤ k ∧ k < F 53 32 ∧ G 71 k = q
theorem ok_comesAcross {d : Nat} {S : AS} {F : AF} {G : AG} (hd : 3 ≤ d) (hsm : ShM S) (hx : MX F G) (hl : Lt G) (o0 : 0 ≤ F 53 11) (o8 : F 53 11 ≤ 8) {PF : Int → Prop} (hR : Rm F G 0 PF) (hm : F 53 32 ≤ 64) (hp : ∀ q : Int, CmA F G q → PF q ∧ 0 ≤ q ∧ q ≤ msz F 0) {Q : AQ} (hq : ∀ G1 G2, (∀ c : Nat, c ≠ 66 → G1 c = G c) → (∀ a : Int, 0 ≤ a → a ≤ 1 → G1 66 a = me F G a (G 55 a - 1)) → Came F G1 G2 (fun b q => b = 0 ∧ CmA F G q) → Q none S F G2) : Ok d MX10_comesAcross [vR 53] S F G Q := by
  refine ok_go rfl (by decide) (Nat.le_of_ble_eq_true rfl) (R_X10_comesAcross_0 hsm ?_)
  unfold V_X10_comesAcross_0
  refine ⟨by omega, ok_acts hsm hx (fun G1 a1 a2 => ⟨rfl, rfl, ?_⟩)⟩
  have hx1 : MX F G1 := mx_cg rfl rfl (a1 54 (by decide)) (a1 55 (by decide)) hx
  have hl1 : Lt G1 := by
    intro a b c
    rw [a1 55 (by decide), a1 56 (by decide)]; exact hl a b c
  have hR1 : Rm F G1 0 PF := by
    unfold Rm
    rw [me_cg (F' := F) (G' := G1) (F := F) (G := G) rfl rfl (a1 54 (by decide)) (a1 55 (by decide)), a1 55 (by decide)]
    exact hR
  refine up_ind (α := AG) (F 53 32 - 1) (fun k G2 => 0 ≤ k ∧ Came F G1 G2 (fun b q => b = 0 ∧ ∃ l : Int, 0 ≤ l ∧ l < k ∧ l < F 53 32 ∧ G 71 l = q)) (fun k G2 => Go d MX10_comesAcross 6 [some (vR 53), some (vI k)] [] S F G2 Q) ?_ ?_ 0 G1 ⟨by omega, came_w (came_0 hx1) (fun b q _ _ _ _ _ => ⟨fun y => absurd y id, fun y => ?_⟩)⟩
  · rintro k G2 ⟨k0, hk⟩ hk2 ih
    have t71 : G2 71 = G 71 := (hk.1 71 (by decide) (by decide) (by decide) (by decide) (by decide)).trans (a1 71 (by decide))
    have pk := hp (G 71 k) ⟨k, k0, by omega, rfl⟩
    refine R_X10_comesAcross_6 hsm ?_
    unfold V_X10_comesAcross_6
    rw [t71]
    refine ⟨fun y => absurd y (by omega), fun _ => ⟨k0, by omega, by omega, ok_comesC (by omega) hsm hl1 o0 o8 (by omega) (by omega) hk hR1 ?_ pk.1 pk.2.1 pk.2.2 (fun G3 c3 => ⟨rfl, rfl, by omega, ih G3 ⟨by omega, came_w c3 (fun b q _ _ _ _ _ => ⟨?_, ?_⟩)⟩⟩)⟩⟩
    · rintro q ⟨-, l, l0, l1, l2, l3⟩
      exact (hp q ⟨l, l0, by omega, l3⟩).1
    · rintro (⟨u, l, l0, l1, l2, l3⟩ | ⟨u1, u2⟩)
      · exact ⟨u, l, l0, by omega, l2, l3⟩
      · exact ⟨u1, k, k0, by omega, by omega, u2.symm⟩
    · rintro ⟨u, l, l0, l1, l2, l3⟩
      by_cases e : l = k
      · exact Or.inr ⟨u, by rw [← l3, e]⟩
      · exact Or.inl ⟨u, l, l0, by omega, l2, l3⟩
  · rintro k G2 ⟨k0, hk⟩ hk2
    refine R_X10_comesAcross_6 hsm ?_
    unfold V_X10_comesAcross_6
    refine ⟨fun _ => hq G1 G2 a1 a2 (came_w hk (fun b q _ _ _ _ _ => ⟨?_, ?_⟩)), fun y => absurd y (by omega)⟩
    · rintro ⟨u, l, l0, l1, l2, l3⟩
      exact ⟨u, l, l0, by omega, l3⟩
    · rintro ⟨u, l, l0, l1, l3⟩
      exact ⟨u, l, l0, by omega, by omega, l3⟩
  · obtain ⟨-, l, l0, l1, -⟩ := y
    omega
