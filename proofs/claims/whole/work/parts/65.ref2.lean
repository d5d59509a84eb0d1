/-! THE REFERENCE: emptying, meeting, telling, beginning -/
def ovB (F : AF) (G : AG) (x1 y1 x2 y2 i j : Int) : Prop := 0 < ov (me F G 0 i) (me F G 0 (i + 1)) x1 x2 ∧ 0 < ov (me F G 1 j) (me F G 1 (j + 1)) y1 y2
theorem ok_empties {d : Nat} {S : AS} {F : AF} {G : AG} (hd : 3 ≤ d) (hsm : ShM S) (hx : MX F G) {g x1 y1 x2 y2 : Int} (hg : 0 ≤ g) (hg2 : g ≤ 2) (hr : MR F x1 y1 x2 y2) {Q : AQ} (hq : ∀ G', Upd G G' 57 (2304 * g) (fun i j => i < G 55 0 ∧ j < G 55 1 ∧ ovB F G x1 y1 x2 y2 i j) (fun _ _ => 0) → Q none S F G') : Ok d MX10_empties [vR 53, vI g, vI x1, vI y1, vI x2, vI y2] S F G Q := by
  obtain ⟨r1, r2, r3, r4, r5, r6⟩ := id hr
  have w1 := (hx 0 (by omega) (by omega)).2.2.2.1
  have w2 := (hx 1 (by omega) (by omega)).2.2.2.1
  have n1 := (hx 0 (by omega) (by omega)).2.1
  have n2 := (hx 1 (by omega) (by omega)).2.1
  have n0 := (hx 0 (by omega) (by omega)).1
  rw [msz_0] at w1
  rw [msz_1] at w2
  refine ok_go rfl (by decide) (Nat.le_of_ble_eq_true rfl) (R_X10_empties_0 hsm ?_)
  unfold V_X10_empties_0
  refine up_ind (α := AG) (G 55 0 - 1) (fun i G1 => 0 ≤ i ∧ i ≤ G 55 0 ∧ Upd G G1 57 (2304 * g) (fun a b => a < i ∧ b < G 55 1 ∧ ovB F G x1 y1 x2 y2 a b) (fun _ _ => 0)) (fun i G1 => Go d MX10_empties 3 [some (vR 53), some (vI g), some (vI x1), some (vI y1), some (vI x2), some (vI y2), some (vI i), none] [] S F G1 Q) ?_ ?_ 0 G ⟨by omega, by omega, upd_0 (fun i j i0 _ _ _ y => by omega)⟩
  · rintro i G1 ⟨i0, i1, u⟩ hi ih
    have t55 : G1 55 = G 55 := u.1 55 (by decide)
    have t54 : G1 54 = G 54 := u.1 54 (by decide)
    refine R_X10_empties_3 hsm ?_
    unfold V_X10_empties_3
    rw [t55]
    refine ⟨fun y => absurd y (by omega), fun _ => ?_⟩
    refine up_ind (α := AG) (G 55 1 - 1) (fun j G2 => 0 ≤ j ∧ Upd G G2 57 (2304 * g) (fun a b => (a < i ∨ (a = i ∧ b < j)) ∧ b < G 55 1 ∧ ovB F G x1 y1 x2 y2 a b) (fun _ _ => 0)) (fun j G2 => Go d MX10_empties 17 [some (vR 53), some (vI g), some (vI x1), some (vI y1), some (vI x2), some (vI y2), some (vI i), some (vI j)] [] S F G2 Q) ?_ ?_ 0 G1 ⟨by omega, upd_c u (fun a b _ _ _ _ => ⟨fun y => ⟨Or.inl y.1, y.2⟩, fun y => ⟨by have := y.1; omega, y.2⟩⟩)⟩
    · rintro j G2 ⟨j0, u2⟩ hj ih2
      have s55 : G2 55 = G 55 := u2.1 55 (by decide)
      have s54 : G2 54 = G 54 := u2.1 54 (by decide)
      have hx2 : MX F G2 := mx_cg rfl rfl s54 s55 hx
      have em := fun a => me_cg (F := F) (F' := F) (G := G) (G' := G2) rfl rfl s54 s55 a
      have fin : ∀ G3 : AG, Upd G G3 57 (2304 * g) (fun a b => (a < i ∨ (a = i ∧ b < j + 1)) ∧ b < G 55 1 ∧ ovB F G x1 y1 x2 y2 a b) (fun _ _ => 0) → V_X10_empties_68 d S F G3 Q g x1 y1 x2 y2 i j := by
        intro G3 u3
        unfold V_X10_empties_68
        exact ⟨by omega, ih2 G3 ⟨by omega, u3⟩⟩
      have sk : ¬ ovB F G x1 y1 x2 y2 i j → V_X10_empties_68 d S F G2 Q g x1 y1 x2 y2 i j := by
        intro y
        refine fin G2 (upd_c u2 (fun a b _ _ _ _ => ⟨fun z => ⟨by have := z.1; omega, z.2⟩, fun z => ⟨?_, z.2⟩⟩))
        by_cases e : a = i ∧ b = j
        · obtain ⟨rfl, rfl⟩ := e
          exact absurd z.2.2 y
        · have := z.1
          omega
      have o1 := ov_pos (me F G 0 i) (me F G 0 (i + 1)) x1 x2
      have o2 := ov_pos (me F G 1 j) (me F G 1 (j + 1)) y1 y2
      have p0 := pu_part (d := d - 1) (S := S) (F := F) (G := G2) (by omega) hsm hx2 (a := 0) (i := i) (x := x1) (y := x2) (by omega) (by omega) i0 (by rw [s55]; omega) (by omega) (by omega) (by omega) (by omega)
      have p1 := pu_part (d := d - 1) (S := S) (F := F) (G := G2) (by omega) hsm hx2 (a := 1) (i := j) (x := y1) (y := y2) (by omega) (by omega) j0 (by rw [s55]; omega) (by omega) (by omega) (by omega) (by omega)
      rw [em] at p0 p1
      refine R_X10_empties_17 hsm ?_
      unfold V_X10_empties_17
      rw [s55]
      refine ⟨fun y => absurd y (by omega), fun _ => ⟨by omega, _, p0, fun y => sk (fun z => absurd z.1 (by omega)), fun y => ⟨_, p1, fun yy => sk (fun z => absurd z.2 (by omega)), fun yy => ⟨_, pu_slot hsm hg hg2 i0 (by omega) j0 (by omega), by omega, by omega, fun G3 e3 => fin G3 (upd_s (i := i) (j := j) u2 i0 (by omega) j0 (by omega) e3 rfl (fun a b => ⟨fun z => ?_, fun z => ?_⟩))⟩⟩⟩⟩
      · by_cases e : a = i ∧ b = j
        · exact Or.inr e
        · exact Or.inl ⟨by have := z.1; omega, z.2⟩
      · rcases z with z | ⟨z1, z2⟩
        · exact ⟨by have := z.1; omega, z.2⟩
        · subst z1 z2
          exact ⟨by omega, by omega, by omega, by omega⟩
    · rintro j G2 ⟨j0, u2⟩ hj
      have s55 : G2 55 = G 55 := u2.1 55 (by decide)
      refine R_X10_empties_17 hsm ?_
      unfold V_X10_empties_17
      rw [s55]
      refine ⟨fun _ => ⟨by omega, ih G2 ⟨by omega, by omega, upd_c u2 (fun a b _ _ _ _ => ⟨fun z => ⟨by have := z.1; have := z.2.1; omega, z.2⟩, fun z => ⟨by have := z.1; have := z.2.1; omega, z.2⟩⟩)⟩⟩, fun y => absurd y (by omega)⟩
  · rintro i G1 ⟨i0, i1, u⟩ hi
    have t55 : G1 55 = G 55 := u.1 55 (by decide)
    refine R_X10_empties_3 hsm ?_
    unfold V_X10_empties_3
    rw [t55]
    exact ⟨fun _ => hq G1 (upd_c u (fun a b _ _ _ _ => ⟨fun z => ⟨by have := z.1; omega, z.2⟩, fun z => ⟨by have := z.1; omega, z.2⟩⟩)), fun y => absurd y (by omega)⟩
def metF (F : AF) (G : AG) (z x1 y1 x2 y2 : Int) : AF := fu (fu (fu (fu F 53 24 (max x1 (G 63 (4 * z)))) 53 25 (max y1 (G 63 (4 * z + 1)))) 53 26 (min x2 (G 63 (4 * z + 2)))) 53 27 (min y2 (G 63 (4 * z + 3)))
theorem met_24 {F : AF} {G : AG} {z x1 y1 x2 y2 : Int} : metF F G z x1 y1 x2 y2 53 24 = max x1 (G 63 (4 * z)) := by simp [metF, fu]
theorem met_25 {F : AF} {G : AG} {z x1 y1 x2 y2 : Int} : metF F G z x1 y1 x2 y2 53 25 = max y1 (G 63 (4 * z + 1)) := by simp [metF, fu]
theorem met_26 {F : AF} {G : AG} {z x1 y1 x2 y2 : Int} : metF F G z x1 y1 x2 y2 53 26 = min x2 (G 63 (4 * z + 2)) := by simp [metF, fu]
theorem met_27 {F : AF} {G : AG} {z x1 y1 x2 y2 : Int} : metF F G z x1 y1 x2 y2 53 27 = min y2 (G 63 (4 * z + 3)) := by simp [metF, fu]
theorem met_c {F : AF} {G : AG} {z x1 y1 x2 y2 : Int} {c : Nat} (h : c ≠ 53) : metF F G z x1 y1 x2 y2 c = F c := by
  funext k
  simp [metF, fu, h]
theorem met_k {F : AF} {G : AG} {z x1 y1 x2 y2 : Int} {k : Nat} (h : k < 24 ∨ 27 < k) : metF F G z x1 y1 x2 y2 53 k = F 53 k := by
  have h1 : k ≠ 24 := by omega
  have h2 : k ≠ 25 := by omega
  have h3 : k ≠ 26 := by omega
  have h4 : k ≠ 27 := by omega
  simp [metF, fu, h1, h2, h3, h4]
theorem ok_meets {d : Nat} {S : AS} {F : AF} {G : AG} (hsm : ShM S) {z x1 y1 x2 y2 : Int} (z0 : 0 ≤ z) (z1 : z < 6) {Q : AQ} (hq : Q (some (vI (bI (max x1 (G 63 (4 * z)) ≤ min x2 (G 63 (4 * z + 2)) ∧ max y1 (G 63 (4 * z + 1)) ≤ min y2 (G 63 (4 * z + 3)))))) S (metF F G z x1 y1 x2 y2) G) : Ok d MX10_meets [vR 53, vI z, vI x1, vI y1, vI x2, vI y2] S F G Q := by
  refine ok_go rfl (by decide) (Nat.le_of_ble_eq_true rfl) (R_X10_meets_0 hsm ?_)
  have e4 : ∀ F1 s, F1 = fu (fu (fu F 53 24 (max x1 (G 63 (4 * z)))) 53 25 (max y1 (G 63 (4 * z + 1)))) 53 26 (min x2 (G 63 (4 * z + 2))) → s = min y2 (G 63 (4 * z + 3)) → V_X10_meets_125 d S F1 G Q z x1 y1 x2 y2 s := by
    intro F1 s eF es
    unfold V_X10_meets_125
    intro F2 eF2
    have eq : F2 = metF F G z x1 y1 x2 y2 := by rw [eF2, eF, es]; rfl
    rw [eq, met_24, met_25, met_26, met_27]
    refine ⟨fun y => ?_, fun y => ⟨fun y2 => ?_, fun y2 => ?_⟩⟩
    · rw [bI_f (by omega)] at hq; exact hq
    · rw [bI_f (by omega)] at hq; exact hq
    · rw [bI_t (by omega)] at hq; exact hq
  have e3 : ∀ F1 s, F1 = fu (fu F 53 24 (max x1 (G 63 (4 * z)))) 53 25 (max y1 (G 63 (4 * z + 1))) → s = min x2 (G 63 (4 * z + 2)) → V_X10_meets_91 d S F1 G Q z x1 y1 x2 y2 s := by
    intro F1 s eF es
    unfold V_X10_meets_91
    intro F2 eF2
    exact ⟨by omega, by omega, by omega, by omega, fun y => e4 F2 _ (by rw [eF2, eF, es]) (by omega), fun y => e4 F2 _ (by rw [eF2, eF, es]) (by omega)⟩
  have e2 : ∀ F1 s, F1 = fu F 53 24 (max x1 (G 63 (4 * z))) → s = max y1 (G 63 (4 * z + 1)) → V_X10_meets_57 d S F1 G Q z x1 y1 x2 y2 s := by
    intro F1 s eF es
    unfold V_X10_meets_57
    intro F2 eF2
    exact ⟨by omega, by omega, by omega, by omega, fun y => e3 F2 _ (by rw [eF2, eF, es]) (by omega), fun y => e3 F2 _ (by rw [eF2, eF, es]) (by omega)⟩
  have e1 : ∀ s, s = max x1 (G 63 (4 * z)) → V_X10_meets_25 d S F G Q z x1 y1 x2 y2 s := by
    intro s es
    unfold V_X10_meets_25
    intro F2 eF2
    exact ⟨by omega, by omega, by omega, by omega, fun y => e2 F2 _ (by rw [eF2, es]) (by omega), fun y => e2 F2 _ (by rw [eF2, es]) (by omega)⟩
  unfold V_X10_meets_0
  exact ⟨by omega, by omega, by omega, fun y => e1 _ (by omega), fun y => e1 _ (by omega)⟩
theorem pu_mcells {d : Nat} {S : AS} {F : AF} {G : AG} (hsm : ShM S) (a0 : 0 ≤ F 53 26 - F 53 24 + 1) (a1 : F 53 26 - F 53 24 + 1 ≤ 10000) (b0 : 0 ≤ F 53 27 - F 53 25 + 1) (b1 : F 53 27 - F 53 25 + 1 ≤ 10000) : Pu d MX10_cells [vR 53] S F G (some (vJ ((F 53 26 - F 53 24 + 1) * (F 53 27 - F 53 25 + 1)))) := by
  have m := mul_bd a0 a1 b0 b1
  refine ok_go rfl (by decide) (Nat.le_of_ble_eq_true rfl) (R_X10_cells_0 hsm ?_)
  unfold V_X10_cells_0
  exact ⟨by omega, by omega, by omega, by omega, by omega, rfl, rfl, rfl, rfl⟩
theorem pu_zoned {d : Nat} {S : AS} {F : AF} {G : AG} (hd : 5 ≤ d) (hsm : ShM S) (hx : MX F G) (hb : MBA G) (ht : MT F G) {z : Int} (z0 : 0 ≤ z) (z1 : z < 6) (hr : MR F (G 63 (4 * z)) (G 63 (4 * z + 1)) (G 63 (4 * z + 2)) (G 63 (4 * z + 3))) : Pu d MX10_zoned [vR 53, vI z] S F G (some (vJ (aS (mv F G (-1)) (G 63 (4 * z)) (G 63 (4 * z + 1)) (G 63 (4 * z + 2)) (G 63 (4 * z + 3))))) := by
  have w1 := (hx 0 (by omega) (by omega)).2.2.2.1
  have w2 := (hx 1 (by omega) (by omega)).2.2.2.1
  rw [msz_0] at w1
  rw [msz_1] at w2
  obtain ⟨r1, r2, r3, r4, r5, r6⟩ := id hr
  refine ok_go rfl (by decide) (Nat.le_of_ble_eq_true rfl) (R_X10_zoned_0 hsm ?_)
  unfold V_X10_zoned_0
  exact ⟨by omega, by omega, by omega, by omega, by omega, by omega, by omega, by omega, by omega, by omega, by omega, by omega, by omega, _, pu_msum (by omega) hsm hx hb ht (by omega) (by omega) r1 r3 r4 r6 (by omega) (by omega) (by omega) (by omega), rfl, rfl, rfl, rfl⟩
/-- cells of a rectangle up to a cell, row by row -/
def upTo (x y cx cy : Int) : Int := if cy < y ∨ (cy = y ∧ cx ≤ x) then 1 else 0
theorem dS_le1 {x a b : Int} (h : a ≤ b + 1) : dS (fun cx => if cx ≤ x then (1 : Int) else 0) a b = max 0 (min b x - a + 1) := by
  have e : dS (fun cx => if cx ≤ x then (1 : Int) else 0) a b = dS (fun cx => if a ≤ cx ∧ cx ≤ x then (fun _ => (1 : Int)) cx else 0) a b := dS_congr (fun c c0 c1 => by
    by_cases w : c ≤ x
    · rw [if_pos w, if_pos ⟨c0, w⟩]
    · rw [if_neg w, if_neg (fun z => w z.2)])
  rw [e, dS_in]
  by_cases w : a ≤ x + 1
  · rw [dS_const 1 (by omega)]
    omega
  · rw [dS_0 _ (by omega)]
    omega
theorem dS_one (f : Int → Int) (a : Int) : dS f a a = f a := by
  have := dS_1 f (a := a) (b := a - 1) (by omega)
  rw [Int.sub_add_cancel, dS_0 f (b := a - 1) (by omega), Int.zero_add] at this
  exact this
def fo (mx my mx2 my2 x y : Int) : Int := (if 0 < (if my2 < y then my2 - my + 1 else y - my) then (if my2 < y then my2 - my + 1 else y - my) * (mx2 - mx + 1) else 0) + (if my ≤ y ∧ y ≤ my2 ∧ mx ≤ x then min mx2 x - mx + 1 else 0)
theorem fo_aS {mx my mx2 my2 x y : Int} (h1 : mx ≤ mx2) (h2 : my ≤ my2) : fo mx my mx2 my2 x y = aS (upTo x y) mx my mx2 my2 := by
  unfold fo
  by_cases a : my2 < y
  · rw [if_pos a, if_pos (by omega), if_neg (by omega)]
    have : aS (upTo x y) mx my mx2 my2 = aS (fun _ _ => 1) mx my mx2 my2 := aS_congr (fun cx cy _ _ _ c => if_pos (Or.inl (by omega)))
    rw [this, aS_const 1 (by omega) (by omega), Int.mul_one, Int.add_zero, Int.mul_comm]
  · rw [if_neg a]
    by_cases b : y < my
    · rw [if_neg (by omega), if_neg (by omega)]
      have : aS (upTo x y) mx my mx2 my2 = aS (fun _ _ => 0) mx my mx2 my2 := aS_congr (fun cx cy _ _ c _ => if_neg (by omega))
      rw [this, aS_z]; rfl
    · have s1 : aS (upTo x y) mx my mx2 my2 = dS (fun cy => dS (fun cx => upTo x y cx cy) mx mx2) my (y - 1) + (dS (fun cy => dS (fun cx => upTo x y cx cy) mx mx2) y y + dS (fun cy => dS (fun cx => upTo x y cx cy) mx mx2) (y + 1) my2) := by
        unfold aS
        rw [dS_split _ (m := y - 1) (by omega) (by omega), Int.sub_add_cancel, dS_split (a := y) (b := my2) _ (m := y) (by omega) (by omega)]
      have t1 : dS (fun cy => dS (fun cx => upTo x y cx cy) mx mx2) my (y - 1) = (y - my) * (mx2 - mx + 1) := by
        have : dS (fun cy => dS (fun cx => upTo x y cx cy) mx mx2) my (y - 1) = aS (fun _ _ => 1) mx my mx2 (y - 1) := aS_congr (f := upTo x y) (fun cx cy _ _ _ c => if_pos (Or.inl (by omega)))
        rw [this, aS_const 1 (by omega) (by omega), Int.mul_one, Int.mul_comm]
        congr 1
        omega
      have t3 : dS (fun cy => dS (fun cx => upTo x y cx cy) mx mx2) (y + 1) my2 = 0 := by
        have : dS (fun cy => dS (fun cx => upTo x y cx cy) mx mx2) (y + 1) my2 = aS (fun _ _ => 0) mx (y + 1) mx2 my2 := aS_congr (f := upTo x y) (fun cx cy _ _ c _ => if_neg (by omega))
        rw [this, aS_z]
      have t2 : dS (fun cy => dS (fun cx => upTo x y cx cy) mx mx2) y y = max 0 (min mx2 x - mx + 1) := by
        have e0 : dS (fun cy => dS (fun cx => upTo x y cx cy) mx mx2) y y = dS (fun cx => upTo x y cx y) mx mx2 := dS_one _ y
        rw [e0, ← dS_le1 (by omega)]
        refine dS_congr (fun cx _ _ => ?_)
        unfold upTo
        by_cases w : cx ≤ x
        · rw [if_pos (by omega), if_pos w]
        · rw [if_neg (by omega), if_neg w]
      rw [s1, t1, t2, t3, Int.add_zero]
      congr 1
      · by_cases c : 0 < y - my
        · rw [if_pos c]
        · rw [if_neg c]
          have : y - my = 0 := by omega
          rw [this, Int.zero_mul]
      · by_cases c : mx ≤ x
        · rw [if_pos (by omega)]; omega
        · rw [if_neg (by omega)]; omega
theorem pu_first0 {d : Nat} {S : AS} {F : AF} {G : AG} (hsm : ShM S) {x y : Int} (a0 : 0 ≤ F 53 24) (a1 : F 53 24 ≤ F 53 26) (a2 : F 53 26 ≤ 10000) (b0 : 0 ≤ F 53 25) (b1 : F 53 25 ≤ F 53 27) (b2 : F 53 27 ≤ 10000) (x0 : -10 ≤ x) (x1 : x ≤ 100000) (y0 : -10 ≤ y) (y1 : y ≤ 100000) : Pu d MX10_first0 [vR 53, vI x, vI y] S F G (some (vJ (aS (upTo x y) (F 53 24) (F 53 25) (F 53 26) (F 53 27)))) := by
  rw [← fo_aS a1 b1]
  generalize hV : fo (F 53 24) (F 53 25) (F 53 26) (F 53 27) x y = V
  unfold fo at hV
  have m := mul_bd (a := (if F 53 27 < y then F 53 27 - F 53 25 + 1 else y - F 53 25).toNat) (b := F 53 26 - F 53 24 + 1) (A := 100010) (B := 10001) (by omega) (by split <;> omega) (by omega) (by omega)
  refine ok_go rfl (by decide) (Nat.le_of_ble_eq_true rfl) (R_X10_first0_0 hsm ?_)
  have e2 : ∀ (r : Int) (n s : Int), n = (if 0 < (if F 53 27 < y then F 53 27 - F 53 25 + 1 else y - F 53 25) then (if F 53 27 < y then F 53 27 - F 53 25 + 1 else y - F 53 25) * (F 53 26 - F 53 24 + 1) else 0) → 0 ≤ n → n ≤ 2000000000 → V_X10_first0_55 d S F G (fun r' S' F' G' => r' = some (vJ V) ∧ S' = S ∧ F' = F ∧ G' = G) x y r n := by
    intro r n s en n0 n1
    rw [← en] at hV
    unfold V_X10_first0_55 V_X10_first0_99
    refine ⟨fun u => ⟨?_, rfl, rfl, rfl⟩, fun u => ⟨fun u2 => ⟨?_, rfl, rfl, rfl⟩, fun u2 => ⟨fun u3 => ⟨?_, rfl, rfl, rfl⟩, fun u3 => ⟨fun u4 => ⟨by omega, by omega, by omega, fun x4 e4 => ⟨?_, rfl, rfl, rfl⟩⟩, fun u4 => ⟨by omega, by omega, by omega, fun x4 e4 => ⟨?_, rfl, rfl, rfl⟩⟩⟩⟩⟩⟩
    · rw [if_neg (by omega), Int.add_zero] at hV; rw [hV]
    · rw [if_neg (by omega), Int.add_zero] at hV; rw [hV]
    · rw [if_neg (by omega), Int.add_zero] at hV; rw [hV]
    · rw [if_pos (by omega)] at hV
      congr 2; omega
    · rw [if_pos (by omega)] at hV
      congr 2; omega
  have e1 : ∀ r : Int, r = (if F 53 27 < y then F 53 27 - F 53 25 + 1 else y - F 53 25) → V_X10_first0_30 d S F G (fun r' S' F' G' => r' = some (vJ V) ∧ S' = S ∧ F' = F ∧ G' = G) x y r := by
    intro r er
    rw [← er] at m e2
    unfold V_X10_first0_30
    refine ⟨fun u => e2 r 0 0 (by rw [if_neg (by omega)]) (by omega) (by omega), fun u => ?_⟩
    have er2 : ((r.toNat : Nat) : Int) = r := by omega
    rw [er2] at m
    exact ⟨by omega, by omega, by omega, e2 r _ 0 (by rw [if_pos (by omega)]) (by omega) (by omega)⟩
  unfold V_X10_first0_0
  exact ⟨fun u => ⟨by omega, e1 _ (by rw [if_neg (by omega)])⟩, fun u => ⟨by omega, by omega, e1 _ (by rw [if_pos (by omega)])⟩⟩
