section
/-! THE REFERENCE'S MOVE: what it does -/
theorem mv_old {d : Nat} {S : AS} {F : AF} {G : AG} (hd : 2 ≤ d) (hsm : ShM S) (hx : MX F G) (hb : MBA G) {g x1 y1 x2 y2 dx dy a8 : Int} (g0 : 0 ≤ g) (g1 : g ≤ 2) {Q : AQ} (hq : ∀ G', Upd G G' 70 0 (fun i j => i < G 55 0 ∧ j < G 55 1) (fun i j => G 57 (2304 * g + 48 * j + i)) → Go d MX10_move 575 [some (vR 53), some (vI g), some (vI x1), some (vI y1), some (vI x2), some (vI y2), some (vI dx), some (vI dy), some (vJ a8), none, some (vI 0), none, none, none] [] S F G' Q) : Go d MX10_move 513 [some (vR 53), some (vI g), some (vI x1), some (vI y1), some (vI x2), some (vI y2), some (vI dx), some (vI dy), some (vJ a8), none, some (vI 0), none, none, none] [] S F G Q := by
  have n1 := (hx 0 (by omega) (by omega)).2.1
  have n2 := (hx 1 (by omega) (by omega)).2.1
  have n0 := (hx 0 (by omega) (by omega)).1
  refine up_ind (α := AG) (G 55 0 - 1) (fun i G1 => 0 ≤ i ∧ i ≤ G 55 0 ∧ Upd G G1 70 0 (fun a b => a < i ∧ b < G 55 1) (fun i j => G 57 (2304 * g + 48 * j + i))) (fun i G1 => Go d MX10_move 513 [some (vR 53), some (vI g), some (vI x1), some (vI y1), some (vI x2), some (vI y2), some (vI dx), some (vI dy), some (vJ a8), none, some (vI i), none, none, none] [] S F G1 Q) ?_ ?_ 0 G ⟨by omega, by omega, upd_0 (fun i j i0 _ _ _ y => by omega)⟩
  · rintro i G1 ⟨i0, i1, u⟩ hi ih
    have t55 : G1 55 = G 55 := u.1 55 (by decide)
    refine R_X10_move_513 hsm ?_
    unfold V_X10_move_513
    rw [t55]
    refine ⟨fun y => absurd y (by omega), fun _ => ?_⟩
    refine up_ind (α := AG) (G 55 1 - 1) (fun j G2 => 0 ≤ j ∧ Upd G G2 70 0 (fun a b => (a < i ∨ (a = i ∧ b < j)) ∧ b < G 55 1) (fun i j => G 57 (2304 * g + 48 * j + i))) (fun j G2 => Go d MX10_move 527 [some (vR 53), some (vI g), some (vI x1), some (vI y1), some (vI x2), some (vI y2), some (vI dx), some (vI dy), some (vJ a8), none, some (vI i), some (vI j), none, none] [] S F G2 Q) ?_ ?_ 0 G1 ⟨by omega, upd_c u (fun a b _ _ _ _ => ⟨fun y => ⟨Or.inl y.1, y.2⟩, fun y => ⟨by have := y.1; omega, y.2⟩⟩)⟩
    · rintro j G2 ⟨j0, u2⟩ hj ih2
      have s55 : G2 55 = G 55 := u2.1 55 (by decide)
      have s57 : G2 57 = G 57 := u2.1 57 (by decide)
      have mb' : MB G2 i j := by
        unfold MB
        rw [s57]
        exact hb i j i0 (by omega) j0 (by omega)
      have pi := pu_in (d := d - 1) (S := S) (F := F) (by omega) hsm mb' (g := g) (by omega) g1 i0 (by omega) j0 (by omega)
      have em : mu G2 g i j = G 57 (2304 * g + 48 * j + i) := by
        unfold mu
        rw [if_neg (by omega), s57]
      rw [em] at pi
      refine R_X10_move_527 hsm ?_
      unfold V_X10_move_527
      rw [s55]
      refine ⟨fun y => absurd y (by omega), fun _ => ⟨by omega, by omega, by omega, _, pi, by omega, by omega, fun G3 e3 => ⟨by omega, ih2 G3 ⟨by omega, upd_s (i := i) (j := j) u2 i0 (by omega) j0 (by omega) e3 (by omega) (fun a b => ⟨fun z => ?_, fun z => ?_⟩)⟩⟩⟩⟩
      · by_cases e : a = i ∧ b = j
        · exact Or.inr e
        · exact Or.inl ⟨by have := z.1; omega, z.2⟩
      · rcases z with z | ⟨z1, z2⟩
        · exact ⟨by have := z.1; omega, z.2⟩
        · subst z1 z2
          exact ⟨by omega, by omega⟩
    · rintro j G2 ⟨j0, u2⟩ hj
      have s55 : G2 55 = G 55 := u2.1 55 (by decide)
      refine R_X10_move_527 hsm ?_
      unfold V_X10_move_527
      rw [s55]
      refine ⟨fun _ => ⟨by omega, ih G2 ⟨by omega, by omega, upd_c u2 (fun a b _ _ _ _ => ⟨fun z => ⟨by have := z.1; have := z.2; omega, z.2⟩, fun z => ⟨by have := z.1; have := z.2; omega, z.2⟩⟩)⟩⟩, fun y => absurd y (by omega)⟩
  · rintro i G1 ⟨i0, i1, u⟩ hi
    have t55 : G1 55 = G 55 := u.1 55 (by decide)
    refine R_X10_move_513 hsm ?_
    unfold V_X10_move_513
    rw [t55]
    exact ⟨fun _ => hq G1 (upd_c u (fun a b _ _ _ _ => ⟨fun z => ⟨by have := z.1; omega, z.2⟩, fun z => ⟨by have := z.1; omega, z.2⟩⟩)), fun y => absurd y (by omega)⟩
theorem mv_fill {d : Nat} {S : AS} {F : AF} {G : AG} (hd : 3 ≤ d) (hsm : ShM S) (hx : MX F G) {g x1 y1 x2 y2 dx dy a8 : Int} {f : Int → Int → Int} (g0 : 0 ≤ g) (g1 : g ≤ 2) (r : MR F x1 y1 x2 y2) (d1 : -9999 ≤ dx) (d2 : dx ≤ 9999) (d3 : -9999 ≤ dy) (d4 : dy ≤ 9999) (hf : ∀ i j : Int, 0 ≤ i → i < G 55 0 → 0 ≤ j → j < G 55 1 → G 57 (2304 * g + 48 * j + i) = f (me F G 0 i) (me F G 1 j)) (h70 : ∀ x y : Int, 0 ≤ x → x < F 53 1 → 0 ≤ y → y < F 53 2 → G 70 (48 * mb F G 1 y + mb F G 0 x) = f x y) (fb : ∀ x y : Int, 0 ≤ x → x < F 53 1 → 0 ≤ y → y < F 53 2 → 0 ≤ f x y ∧ f x y ≤ 1000000000000) {Q : AQ} (hq : ∀ G', Upd G G' 57 (2304 * g) (fun i j => i < G 55 0 ∧ j < G 55 1) (fun i j => tMov f x1 y1 x2 y2 dx dy (me F G 0 i) (me F G 1 j)) → V_X10_move_575 d S F G' Q g x1 y1 x2 y2 dx dy a8 (G 55 0)) : Go d MX10_move 575 [some (vR 53), some (vI g), some (vI x1), some (vI y1), some (vI x2), some (vI y2), some (vI dx), some (vI dy), some (vJ a8), none, some (vI 0), none, none, none] [] S F G Q := by
  obtain ⟨r1, r2, r3, r4, r5, r6⟩ := id r
  have n1 := (hx 0 (by omega) (by omega)).2.1
  have n2 := (hx 1 (by omega) (by omega)).2.1
  have n0 := (hx 0 (by omega) (by omega)).1
  refine up_ind (α := AG) (G 55 0 - 1) (fun i G1 => 0 ≤ i ∧ i ≤ G 55 0 ∧ Upd G G1 57 (2304 * g) (fun a b => a < i ∧ b < G 55 1) (fun i j => tMov f x1 y1 x2 y2 dx dy (me F G 0 i) (me F G 1 j))) (fun i G1 => Go d MX10_move 575 [some (vR 53), some (vI g), some (vI x1), some (vI y1), some (vI x2), some (vI y2), some (vI dx), some (vI dy), some (vJ a8), none, some (vI i), none, none, none] [] S F G1 Q) ?_ ?_ 0 G ⟨by omega, by omega, upd_0 (fun i j i0 _ _ _ y => by omega)⟩
  · rintro i G1 ⟨i0, i1, u⟩ hi ih
    have t55 : G1 55 = G 55 := u.1 55 (by decide)
    refine R_X10_move_575 hsm ?_
    unfold V_X10_move_575
    rw [t55]
    refine ⟨fun y => absurd y (by omega), fun _ => ?_⟩
    refine up_ind (α := AG) (G 55 1 - 1) (fun j G2 => 0 ≤ j ∧ Upd G G2 57 (2304 * g) (fun a b => (a < i ∨ (a = i ∧ b < j)) ∧ b < G 55 1) (fun i j => tMov f x1 y1 x2 y2 dx dy (me F G 0 i) (me F G 1 j))) (fun j G2 => Go d MX10_move 589 [some (vR 53), some (vI g), some (vI x1), some (vI y1), some (vI x2), some (vI y2), some (vI dx), some (vI dy), some (vJ a8), none, some (vI i), some (vI j), none, none] [] S F G2 Q) ?_ ?_ 0 G1 ⟨by omega, upd_c u (fun a b _ _ _ _ => ⟨fun y => ⟨Or.inl y.1, y.2⟩, fun y => ⟨by have := y.1; omega, y.2⟩⟩)⟩
    · rintro j G2 ⟨j0, u2⟩ hj ih2
      have s55 : G2 55 = G 55 := u2.1 55 (by decide)
      have s54 : G2 54 = G 54 := u2.1 54 (by decide)
      have hx2 : MX F G2 := mx_cg rfl rfl s54 s55 hx
      have em := fun a => me_cg (F := F) (F' := F) (G := G) (G' := G2) rfl rfl s54 s55 a
      have old : G2 57 (2304 * g + 48 * j + i) = f (me F G 0 i) (me F G 1 j) := by
        rw [(u2.2.1 i j i0 (by omega) j0 (by omega)).2 (fun z => by have := z.1; omega)]
        exact hf i j i0 (by omega) j0 (by omega)
      have bX := isB_in (sq_x hx) ⟨i, i0, by omega, rfl⟩
      have bY := isB_in (sq_y hx) ⟨j, j0, by omega, rfl⟩
      have p0 := pu_edgeAt (d := d - 1) (S := S) (by omega) hsm hx2 (a := 0) (i := i) (by omega) (by omega) i0 (by rw [s55]; omega)
      have p1 := pu_edgeAt (d := d - 1) (S := S) (by omega) hsm hx2 (a := 1) (i := j) (by omega) (by omega) j0 (by rw [s55]; omega)
      rw [em] at p0 p1
      have fin : ∀ (G3 : AG) (X Y : Int), G3 = gu G2 57 (2304 * g + 48 * j + i) (tMov f x1 y1 x2 y2 dx dy (me F G 0 i) (me F G 1 j)) → V_X10_move_715 d S F G3 Q g x1 y1 x2 y2 dx dy a8 i j X Y := by
        intro G3 X Y e3
        unfold V_X10_move_715
        refine ⟨by omega, ih2 G3 ⟨by omega, upd_s (i := i) (j := j) u2 i0 (by omega) j0 (by omega) e3 rfl (fun a b => ⟨fun z => ?_, fun z => ?_⟩)⟩⟩
        · by_cases e : a = i ∧ b = j
          · exact Or.inr e
          · exact Or.inl ⟨by have := z.1; omega, z.2⟩
        · rcases z with z | ⟨z1, z2⟩
          · exact ⟨by have := z.1; omega, z.2⟩
          · subst z1 z2
            exact ⟨by omega, by omega⟩
      have w1 := (hx 0 (by omega) (by omega)).2.2.2.1
      have w2 := (hx 1 (by omega) (by omega)).2.2.2.1
      rw [msz_0] at w1
      rw [msz_1] at w2
      have fXY := fb _ _ bX.1 bX.2 bY.1 bY.2
      generalize hX : me F G 0 i = X at *
      generalize hY : me F G 1 j = Y at *
      have st2 : ∀ (G6 : AG) (u : Int), G6 = gu G2 57 (2304 * g + 48 * j + i) u → u = (if inR x1 y1 x2 y2 X Y then 0 else f X Y) → V_X10_move_648 d S F G6 Q g x1 y1 x2 y2 dx dy a8 i j X Y := by
        intro G6 u e6 eu
        have k6 : ∀ c : Nat, c ≠ 57 → G6 c = G2 c := fun c h => by rw [e6, gu_row h]
        have k54 : G6 54 = G 54 := (k6 54 (by decide)).trans s54
        have k55 : G6 55 = G 55 := (k6 55 (by decide)).trans s55
        have hx6 : MX F G6 := mx_cg rfl rfl k54 k55 hx
        have em6 := fun a => me_cg (F := F) (F' := F) (G := G) (G' := G6) rfl rfl k54 k55 a
        have bmb : ∀ a p, mb F G6 a p = mb F G a p := fun a p => by
          unfold mb
          rw [em6, k55]
        unfold V_X10_move_648
        refine ⟨by omega, by omega, by omega, _, pu_isInside hsm _ _ _ _ _ _, fun q => fin G6 X Y ?_, fun q => ?_⟩
        · rw [e6]
          congr 1
          unfold tMov
          rw [if_neg (fun z => bI_0.mp q (by omega)), eu]
        · have yi : x1 ≤ X - dx ∧ X - dx ≤ x2 ∧ y1 ≤ Y - dy ∧ Y - dy ≤ y2 := Classical.byContradiction (fun z => q (bI_f z))
          have pb1 := pu_blockAt (d := d - 1) (S := S) (by omega) hsm hx6 (a := 1) (p := Y - dy) (by omega) (by omega) (by omega) (by rw [msz_1]; omega)
          have pb0 := pu_blockAt (d := d - 1) (S := S) (by omega) hsm hx6 (a := 0) (p := X - dx) (by omega) (by omega) (by omega) (by rw [msz_0]; omega)
          rw [bmb] at pb0 pb1
          have bx := mb_spec hx (a := 0) (p := X - dx) (by omega) (by omega) (by omega) (by rw [msz_0]; omega)
          have by' := mb_spec hx (a := 1) (p := Y - dy) (by omega) (by omega) (by omega) (by rw [msz_1]; omega)
          have v70 : G6 70 (48 * mb F G 1 (Y - dy) + mb F G 0 (X - dx)) = f (X - dx) (Y - dy) := by
            rw [k6 70 (by decide), u2.1 70 (by decide)]
            exact h70 _ _ (by omega) (by omega) (by omega) (by omega)
          have v57 : G6 57 (2304 * g + 48 * j + i) = u := by rw [e6, gu_s]
          have f2 := fb (X - dx) (Y - dy) (by omega) (by omega) (by omega) (by omega)
          have ub : 0 ≤ u ∧ u ≤ 1000000000000 := by
            rw [eu]
            split <;> omega
          refine ⟨_, pu_slot hsm g0 g1 i0 (by omega) j0 (by omega), by omega, by omega, _, pb1, by omega, _, pb0, by omega, by omega, by omega, by rw [v57, v70]; omega, fun G35 e35 => fin G35 X Y ?_⟩
          rw [e35, v57, v70, e6, gu_gu]
          congr 1
          unfold tMov
          rw [if_pos (by omega : inR (x1 + dx) (y1 + dy) (x2 + dx) (y2 + dy) X Y), eu]
      refine R_X10_move_589 hsm ?_
      unfold V_X10_move_589
      rw [s55]
      refine ⟨fun y => absurd y (by omega), fun _ => ⟨by omega, _, p0, _, p1, _, pu_isInside hsm _ _ _ _ _ _, fun q => st2 G2 (f X Y) ?_ ?_, fun q => ⟨_, pu_slot hsm g0 g1 i0 (by omega) j0 (by omega), by omega, by omega, fun G29 e29 => st2 G29 0 e29 ?_⟩⟩⟩
      · exact (gu_id old.symm).symm
      · rw [if_neg (bI_0.mp q)]
      · have yi : x1 ≤ X ∧ X ≤ x2 ∧ y1 ≤ Y ∧ Y ≤ y2 := Classical.byContradiction (fun z => q (bI_f z))
        rw [if_pos yi]
    · rintro j G2 ⟨j0, u2⟩ hj
      have s55 : G2 55 = G 55 := u2.1 55 (by decide)
      refine R_X10_move_589 hsm ?_
      unfold V_X10_move_589
      rw [s55]
      refine ⟨fun _ => ⟨by omega, ih G2 ⟨by omega, by omega, upd_c u2 (fun a b _ _ _ _ => ⟨fun z => ⟨by have := z.1; have := z.2; omega, z.2⟩, fun z => ⟨by have := z.1; have := z.2; omega, z.2⟩⟩)⟩⟩, fun y => absurd y (by omega)⟩
  · rintro i G1 ⟨i0, i1, u⟩ hi
    have e : i = G 55 0 := by omega
    subst e
    exact R_X10_move_575 hsm (hq G1 u)
end
