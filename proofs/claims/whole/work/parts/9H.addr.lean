section
/-! THE REFERENCE'S ADD -/
theorem add_loop {d : Nat} {S : AS} {F : AF} {G : AG} (hd : 3 ≤ d) (hsm : ShM S) (hx : MX F G) {g x1 y1 x2 y2 v a7 a8 : Int} (hg : 0 ≤ g) (hg2 : g ≤ 2) (hr : MR F x1 y1 x2 y2) (hb : ∀ i j : Int, 0 ≤ i → i < G 55 0 → 0 ≤ j → j < G 55 1 → 0 ≤ G 57 (2304 * g + 48 * j + i) ∧ G 57 (2304 * g + 48 * j + i) ≤ 1000000000000) (v0 : -1000000000 ≤ v) (v1 : v ≤ 1000000000) {Q : AQ} (hq : ∀ G', Upd G G' 57 (2304 * g) (fun i j => i < G 55 0 ∧ j < G 55 1 ∧ ovB F G x1 y1 x2 y2 i j) (fun i j => G 57 (2304 * g + 48 * j + i) + v) → V_X10_add_259 d S F G' Q g x1 y1 x2 y2 v a7 a8 (G 55 0)) : Go d MX10_add 259 [some (vR 53), some (vI g), some (vI x1), some (vI y1), some (vI x2), some (vI y2), some (vI v), some (vI a7), some (vJ a8), none, some (vI 0), none] [] S F G Q := by
  obtain ⟨r1, r2, r3, r4, r5, r6⟩ := id hr
  have w1 := (hx 0 (by omega) (by omega)).2.2.2.1
  have w2 := (hx 1 (by omega) (by omega)).2.2.2.1
  have n1 := (hx 0 (by omega) (by omega)).2.1
  have n2 := (hx 1 (by omega) (by omega)).2.1
  have n0 := (hx 0 (by omega) (by omega)).1
  rw [msz_0] at w1
  rw [msz_1] at w2
  refine up_ind (α := AG) (G 55 0 - 1) (fun i G1 => 0 ≤ i ∧ i ≤ G 55 0 ∧ Upd G G1 57 (2304 * g) (fun a b => a < i ∧ b < G 55 1 ∧ ovB F G x1 y1 x2 y2 a b) (fun i j => G 57 (2304 * g + 48 * j + i) + v)) (fun i G1 => Go d MX10_add 259 [some (vR 53), some (vI g), some (vI x1), some (vI y1), some (vI x2), some (vI y2), some (vI v), some (vI a7), some (vJ a8), none, some (vI i), none] [] S F G1 Q) ?_ ?_ 0 G ⟨by omega, by omega, upd_0 (fun i j i0 _ _ _ y => by omega)⟩
  · rintro i G1 ⟨i0, i1, u⟩ hi ih
    have t55 : G1 55 = G 55 := u.1 55 (by decide)
    have t54 : G1 54 = G 54 := u.1 54 (by decide)
    refine R_X10_add_259 hsm ?_
    unfold V_X10_add_259
    rw [t55]
    refine ⟨fun y => absurd y (by omega), fun _ => ?_⟩
    refine up_ind (α := AG) (G 55 1 - 1) (fun j G2 => 0 ≤ j ∧ Upd G G2 57 (2304 * g) (fun a b => (a < i ∨ (a = i ∧ b < j)) ∧ b < G 55 1 ∧ ovB F G x1 y1 x2 y2 a b) (fun i j => G 57 (2304 * g + 48 * j + i) + v)) (fun j G2 => Go d MX10_add 273 [some (vR 53), some (vI g), some (vI x1), some (vI y1), some (vI x2), some (vI y2), some (vI v), some (vI a7), some (vJ a8), none, some (vI i), some (vI j)] [] S F G2 Q) ?_ ?_ 0 G1 ⟨by omega, upd_c u (fun a b _ _ _ _ => ⟨fun y => ⟨Or.inl y.1, y.2⟩, fun y => ⟨by have := y.1; omega, y.2⟩⟩)⟩
    · rintro j G2 ⟨j0, u2⟩ hj ih2
      have s55 : G2 55 = G 55 := u2.1 55 (by decide)
      have s54 : G2 54 = G 54 := u2.1 54 (by decide)
      have hx2 : MX F G2 := mx_cg rfl rfl s54 s55 hx
      have em := fun a => me_cg (F := F) (F' := F) (G := G) (G' := G2) rfl rfl s54 s55 a
      have fin : ∀ G3 : AG, Upd G G3 57 (2304 * g) (fun a b => (a < i ∨ (a = i ∧ b < j + 1)) ∧ b < G 55 1 ∧ ovB F G x1 y1 x2 y2 a b) (fun i j => G 57 (2304 * g + 48 * j + i) + v) → V_X10_add_329 d S F G3 Q g x1 y1 x2 y2 v a7 a8 i j := by
        intro G3 u3
        unfold V_X10_add_329
        exact ⟨by omega, ih2 G3 ⟨by omega, u3⟩⟩
      have sk : ¬ ovB F G x1 y1 x2 y2 i j → V_X10_add_329 d S F G2 Q g x1 y1 x2 y2 v a7 a8 i j := by
        intro y
        refine fin G2 (upd_c u2 (fun a b _ _ _ _ => ⟨fun z => ⟨by have := z.1; omega, z.2⟩, fun z => ⟨?_, z.2⟩⟩))
        by_cases e : a = i ∧ b = j
        · obtain ⟨rfl, rfl⟩ := e
          exact absurd z.2.2 y
        · have := z.1
          omega
      have o1 := ov_pos (me F G 0 i) (me F G 0 (i + 1)) x1 x2
      have o2 := ov_pos (me F G 1 j) (me F G 1 (j + 1)) y1 y2
      have p0 := pu_part (d := d - 1) (S := S) (F := F) (G := G2) (by omega) hsm hx2 (a := 0) (i := i) (x := x1) (y := x2) (by omega) (by omega) i0 (by rw [s55]; omega) (by omega) (by omega) (by omega) (by omega)
      have p1 := pu_part (d := d - 1) (S := S) (F := F) (G := G2) (by omega) hsm hx2 (a := 1) (i := j) (x := y1) (y := y2) (by omega) (by omega) j0 (by rw [s55]; omega) (by omega) (by omega) (by omega) (by omega)
      rw [em] at p0 p1
      have old : G2 57 (2304 * g + 48 * j + i) = G 57 (2304 * g + 48 * j + i) := (u2.2.1 i j i0 (by omega) j0 (by omega)).2 (fun z => by have := z.1; omega)
      have bo := hb i j i0 (by omega) j0 (by omega)
      refine R_X10_add_273 hsm ?_
      unfold V_X10_add_273
      rw [s55]
      refine ⟨fun y => absurd y (by omega), fun _ => ⟨by omega, _, p0, fun y => sk (fun z => absurd z.1 (by omega)), fun y => ⟨_, p1, fun yy => sk (fun z => absurd z.2 (by omega)), fun yy => ⟨_, pu_slot hsm hg hg2 i0 (by omega) j0 (by omega), by omega, by omega, by rw [old]; omega, fun G3 e3 => fin G3 (upd_s (i := i) (j := j) u2 i0 (by omega) j0 (by omega) (by rw [e3, old]) rfl (fun a b => ⟨fun z => ?_, fun z => ?_⟩))⟩⟩⟩⟩
      · by_cases e : a = i ∧ b = j
        · exact Or.inr e
        · exact Or.inl ⟨by have := z.1; omega, z.2⟩
      · rcases z with z | ⟨z1, z2⟩
        · exact ⟨by have := z.1; omega, z.2⟩
        · subst z1 z2
          exact ⟨by omega, by omega, by omega, by omega⟩
    · rintro j G2 ⟨j0, u2⟩ hj
      have s55 : G2 55 = G 55 := u2.1 55 (by decide)
      refine R_X10_add_273 hsm ?_
      unfold V_X10_add_273
      rw [s55]
      refine ⟨fun _ => ⟨by omega, ih G2 ⟨by omega, by omega, upd_c u2 (fun a b _ _ _ _ => ⟨fun z => ⟨by have := z.1; have := z.2.1; omega, z.2⟩, fun z => ⟨by have := z.1; have := z.2.1; omega, z.2⟩⟩)⟩⟩, fun y => absurd y (by omega)⟩
  · rintro i G1 ⟨i0, i1, u⟩ hi
    have e : i = G 55 0 := by omega
    subst e
    refine R_X10_add_259 hsm (hq G1 u)
end
