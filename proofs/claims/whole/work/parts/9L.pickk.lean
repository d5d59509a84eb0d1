section
/-! THE REFERENCE'S PICK, TIED TO THE SYSTEM'S -/
def P2 (A B : Int → Prop) (b q : Int) : Prop := (b = 0 ∧ A q) ∨ (b = 1 ∧ B q)
theorem p2_0 {A B : Int → Prop} {q : Int} : P2 A B 0 q ↔ A q := ⟨fun h => h.elim (fun z => z.2) (fun z => absurd z.1 (by decide)), fun h => Or.inl ⟨rfl, h⟩⟩
theorem p2_1 {A B : Int → Prop} {q : Int} : P2 A B 1 q ↔ B q := ⟨fun h => h.elim (fun z => absurd z.1 (by decide)) (fun z => z.2), fun h => Or.inr ⟨rfl, h⟩⟩
theorem came_00 {F : AF} {G : AG} (hx : MX F G) : Came F G G (P2 (fun _ => (0 : Int) = 1) (fun _ => (0 : Int) = 1)) := came_w (came_0 hx) (fun a q _ _ _ _ _ => ⟨fun z => absurd z id, fun z => z.elim (fun y => absurd y.2 (show ¬ ((0 : Int) = 1) by decide)) (fun y => absurd y.2 (show ¬ ((0 : Int) = 1) by decide))⟩)
theorem ok_comesX {d : Nat} {S : AS} {F : AF} {G G1 : AG} (hd : 2 ≤ d) (hsm : ShM S) (hl : Lt G) (o0 : 0 ≤ F 53 11) (o8 : F 53 11 ≤ 8) {p : Int} {A B : Int → Prop} {PF : Int → Prop} (hC : Came F G G1 (P2 A B)) (hR : Rm F G 0 PF) (hs : ∀ q : Int, A q → PF q) (hp : PF p) (p0 : 0 ≤ p) (p1 : p ≤ F 53 1) {Q : AQ} (hq : ∀ G2, Came F G G2 (P2 (fun q => A q ∨ q = p) B) → Q none S F G2) : Ok d MX10_comes [vR 53, vI 0, vI p] S F G1 Q := by
  refine ok_comesC hd hsm hl o0 o8 (by omega) (by omega) hC hR (fun q z => hs q (p2_0.mp z)) hp p0 (by rw [msz_0]; exact p1) (fun G2 cm => hq G2 (came_w cm (fun a q a0 a1 _ _ _ => ?_)))
  constructor
  · rintro ((⟨e, z⟩ | z) | ⟨e, z⟩)
    · exact Or.inl ⟨e, Or.inl z⟩
    · exact Or.inr z
    · exact Or.inl ⟨e, Or.inr z⟩
  · rintro (⟨e, z | z⟩ | z)
    · exact Or.inl (Or.inl ⟨e, z⟩)
    · exact Or.inr ⟨e, z⟩
    · exact Or.inl (Or.inr z)
theorem ok_comesY {d : Nat} {S : AS} {F : AF} {G G1 : AG} (hd : 2 ≤ d) (hsm : ShM S) (hl : Lt G) (o0 : 0 ≤ F 53 11) (o8 : F 53 11 ≤ 8) {p : Int} {A B : Int → Prop} {PF : Int → Prop} (hC : Came F G G1 (P2 A B)) (hR : Rm F G 1 PF) (hs : ∀ q : Int, B q → PF q) (hp : PF p) (p0 : 0 ≤ p) (p1 : p ≤ F 53 2) {Q : AQ} (hq : ∀ G2, Came F G G2 (P2 A (fun q => B q ∨ q = p)) → Q none S F G2) : Ok d MX10_comes [vR 53, vI 1, vI p] S F G1 Q := by
  refine ok_comesC hd hsm hl o0 o8 (by omega) (by omega) hC hR (fun q z => hs q (p2_1.mp z)) hp p0 (by rw [msz_1]; exact p1) (fun G2 cm => hq G2 (came_w cm (fun a q a0 a1 _ _ _ => ?_)))
  constructor
  · rintro ((z | ⟨e, z⟩) | ⟨e, z⟩)
    · exact Or.inl z
    · exact Or.inr ⟨e, Or.inl z⟩
    · exact Or.inr ⟨e, Or.inr z⟩
  · rintro (z | ⟨e, z | z⟩)
    · exact Or.inl (Or.inl z)
    · exact Or.inl (Or.inr ⟨e, z⟩)
    · exact Or.inr ⟨e, z⟩
theorem emp_cells {F : AF} {G G' : AG} {g x1 y1 x2 y2 : Int} (hx : MX F G) (g0 : 0 ≤ g) (g1 : g ≤ 2) (u : Upd G G' 57 (2304 * g) (fun i j => i < G 55 0 ∧ j < G 55 1 ∧ ovB F G x1 y1 x2 y2 i j) (fun _ _ => 0)) (r : MR F x1 y1 x2 y2) (dx1 : isD (me F G 0) (G 55 0) x1) (dx2 : isD (me F G 0) (G 55 0) (x2 + 1)) (dy1 : isD (me F G 1) (G 55 1) y1) (dy2 : isD (me F G 1) (G 55 1) (y2 + 1)) {g' x y : Int} (g0' : 0 ≤ g') (g1' : g' ≤ 2) (x0 : 0 ≤ x) (xw : x < F 53 1) (y0 : 0 ≤ y) (yw : y < F 53 2) : mC F G' 57 0 g' x y = if g' = g then (if inR x1 y1 x2 y2 x y then 0 else mC F G 57 0 g x y) else mC F G 57 0 g' x y := by
  obtain ⟨u1, u2, u3⟩ := mc_upd hx g0 g1 u g0' g1' x0 xw y0 yw
  have bx := mb_spec hx (a := 0) (p := x) (by omega) (by omega) x0 (by rw [msz_0]; exact xw)
  have by' := mb_spec hx (a := 1) (p := y) (by omega) (by omega) y0 (by rw [msz_1]; exact yw)
  obtain ⟨r1, r2, r3, r4, r5, r6⟩ := r
  have ox := ov_cellD (sq_x hx) dx1 dx2 r1 r2 r3 x0 xw
  have oy := ov_cellD (sq_y hx) dy1 dy2 r4 r5 r6 y0 yw
  by_cases eg : g' = g
  · rw [if_pos eg]
    by_cases ir : inR x1 y1 x2 y2 x y
    · rw [if_pos ir, u1 eg ⟨bx.2.1, by'.2.1, ox.mpr ⟨ir.1, ir.2.1⟩, oy.mpr ⟨ir.2.2.1, ir.2.2.2⟩⟩]
    · rw [if_neg ir, u2 eg (fun n => ir ⟨(ox.mp n.2.2.1).1, (ox.mp n.2.2.1).2, (oy.mp n.2.2.2).1, (oy.mp n.2.2.2).2⟩), eg]
  · rw [if_neg eg]
    exact u3 eg
theorem one_cells {F : AF} {G G' : AG} {g x y v : Int} (hx : MX F G) (g0 : 0 ≤ g) (g1 : g ≤ 2) (x0 : 0 ≤ x) (xw : x < F 53 1) (y0 : 0 ≤ y) (yw : y < F 53 2) (dx1 : isD (me F G 0) (G 55 0) x) (dx2 : isD (me F G 0) (G 55 0) (x + 1)) (dy1 : isD (me F G 1) (G 55 1) y) (dy2 : isD (me F G 1) (G 55 1) (y + 1)) (e : G' = gu G 57 (2304 * g + 48 * mb F G 1 y + mb F G 0 x) (G 57 (2304 * g + 48 * mb F G 1 y + mb F G 0 x) - v)) {g' a b : Int} (g0' : 0 ≤ g') (g1' : g' ≤ 2) (a0 : 0 ≤ a) (aw : a < F 53 1) (b0 : 0 ≤ b) (bw : b < F 53 2) : mC F G' 57 0 g' a b = if g' = g then (if inR x y x y a b then mC F G 57 0 g x y - v else mC F G 57 0 g a b) else mC F G 57 0 g' a b := by
  have bx := mb_spec hx (a := 0) (p := x) (by omega) (by omega) x0 (by rw [msz_0]; exact xw)
  have by' := mb_spec hx (a := 1) (p := y) (by omega) (by omega) y0 (by rw [msz_1]; exact yw)
  have n0 := (hx 0 (by omega) (by omega)).2.1
  have n1 := (hx 1 (by omega) (by omega)).2.1
  have u : Upd G G' 57 (2304 * g) (fun i j => i = mb F G 0 x ∧ j = mb F G 1 y) (fun _ _ => G 57 (2304 * g + 48 * mb F G 1 y + mb F G 0 x) - v) := upd_s (P := fun _ _ => False) (i := mb F G 0 x) (j := mb F G 1 y) (v := fun _ _ => G 57 (2304 * g + 48 * mb F G 1 y + mb F G 0 x) - v) (upd_0 (fun _ _ _ _ _ _ z => z)) bx.1 (by omega) by'.1 (by omega) e rfl (fun a b => ⟨fun z => Or.inr z, fun z => z.elim (fun y => absurd y id) id⟩)
  obtain ⟨u1, u2, u3⟩ := mc_upd hx g0 g1 u g0' g1' a0 aw b0 bw
  have lx := bl_lo (sq_x hx) dx1 x0 xw a0 aw
  have hx' := bl_hi (sq_x hx) dx2 x0 xw a0 aw
  have ly := bl_lo (sq_y hx) dy1 y0 yw b0 bw
  have hy' := bl_hi (sq_y hx) dy2 y0 yw b0 bw
  by_cases eg : g' = g
  · rw [if_pos eg]
    by_cases ir : inR x y x y a b
    · have e1 : a = x := by omega
      have e2 : b = y := by omega
      subst e1 e2
      rw [if_pos ir, u1 eg ⟨rfl, rfl⟩]
      unfold mC cv mb
      dsimp only
      rw [Int.zero_add]
    · rw [if_neg ir, u2 eg (fun n => ir ?_), eg]
      have n1 := n.1
      have n2 := n.2
      unfold mb at n1 n2
      rw [← n1] at lx hx'
      rw [← n2] at ly hy'
      exact ⟨lx.mpr (Int.le_refl _), hx'.mpr (Int.le_refl _), ly.mpr (Int.le_refl _), hy'.mpr (Int.le_refl _)⟩
  · rw [if_neg eg]
    exact u3 eg
end
