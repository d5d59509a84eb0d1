section
/-! THE REFERENCE'S LEVEL: its parts -/
theorem lv_check {d : Nat} {S S' : AS} {F F' : AF} {G G' : AG} {b g x1 y1 x2 y2 a6 a8 e a12 X0 Y0 : Int} (hd : 4 ≤ d) (hsm : ShM S') (ci : CI S F G b) (k : KK F G F' G') (g0 : 0 ≤ g) (g1 : g ≤ 2) (yr : recS F x1 y1 x2 y2) (e0 : 0 ≤ e) (e1 : e ≤ 1000000000000) {PX PY : Int → Prop} (th : ThS F' G' F G PX PY) (cst : CstT F G PX PY (tLev (vC F G 18 g) x1 y1 x2 y2 e X0 Y0)) {Q : AQ} (no : ¬ OvC F G g (tLev (vC F G 18 g) x1 y1 x2 y2 e X0 Y0) → Go d MX10_level 359 [some (vR 53), some (vI g), some (vI x1), some (vI y1), some (vI x2), some (vI y2), some (vJ a6), none, some (vJ a8), none, some (vJ e), none, some (vJ a12), none, some (vI X0), some (vI Y0), some (vI 0), none, none, none] [] S' F' G' Q) (yes : OvC F G g (tLev (vC F G 18 g) x1 y1 x2 y2 e X0 Y0) → Q (some (vJ (-7))) S' F' G') : Go d MX10_level 218 [some (vR 53), some (vI g), some (vI x1), some (vI y1), some (vI x2), some (vI y2), some (vJ a6), none, some (vJ a8), none, some (vJ e), none, some (vJ a12), none, some (vI X0), some (vI Y0), some (vI 0), none, none, none] [] S' F' G' Q := by
  have hc := ci.2.1
  have hx := k.1.1
  have w := k.1.2.1
  have hh := k.1.2.2.1
  have mba := kk_mba ci k
  obtain ⟨r1, r2, r3, r4, r5, r6⟩ := id yr
  have n0 := th.1.1
  have n48 := th.1.2.1
  have m0 := th.2.1.1
  have m48 := th.2.1.2.1
  have mE : ∀ g' x y : Int, -1 ≤ g' → g' ≤ 2 → 0 ≤ x → x < F 4 2 → 0 ≤ y → y < F 11 2 → mu G' g' (mb F' G' 0 x) (mb F' G' 1 y) = vu F G 18 g' x y := fun g' x y a b c e f h => kk_mv k a b c e f h
  have cap := k.2.2.1.1
  have capc := ci.2.2.2.1.2.1
  refine up_ind (α := Unit) (G' 69 0 - 1) (fun i _ => 0 ≤ i ∧ i ≤ G' 69 0 ∧ ∀ i' j' : Int, 0 ≤ i' → i' < i → 0 ≤ j' → j' < G' 69 1 → ¬ ovA F G g (tLev (vC F G 18 g) x1 y1 x2 y2 e X0 Y0) (G' 68 i') (G' 68 (48 + j'))) (fun i _ => Go d MX10_level 218 [some (vR 53), some (vI g), some (vI x1), some (vI y1), some (vI x2), some (vI y2), some (vJ a6), none, some (vJ a8), none, some (vJ e), none, some (vJ a12), none, some (vI X0), some (vI Y0), some (vI i), none, none, none] [] S' F' G' Q) ?_ ?_ 0 () ⟨by omega, by omega, fun i' j' a b => absurd b (by omega)⟩
  · rintro i - ⟨i0, i1, done⟩ hi ih
    refine R_X10_level_218 hsm ?_
    unfold V_X10_level_218
    refine ⟨fun y => absurd y (by omega), fun _ => ?_⟩
    refine up_ind (α := Unit) (G' 69 1 - 1) (fun j _ => 0 ≤ j ∧ ∀ j' : Int, 0 ≤ j' → j' < j → ¬ ovA F G g (tLev (vC F G 18 g) x1 y1 x2 y2 e X0 Y0) (G' 68 i) (G' 68 (48 + j'))) (fun j _ => Go d MX10_level 232 [some (vR 53), some (vI g), some (vI x1), some (vI y1), some (vI x2), some (vI y2), some (vJ a6), none, some (vJ a8), none, some (vJ e), none, some (vJ a12), none, some (vI X0), some (vI Y0), some (vI i), some (vI j), none, none] [] S' F' G' Q) ?_ ?_ 0 () ⟨by omega, fun j' a b => absurd b (by omega)⟩
    · rintro j - ⟨j0, dj⟩ hj ih2
      obtain ⟨p1, p2, p3, p4⟩ := th_in hc th i0 (by omega) j0 (by omega : j < G' 69 1)
      have next : ¬ ovA F G g (tLev (vC F G 18 g) x1 y1 x2 y2 e X0 Y0) (G' 68 i) (G' 68 (48 + j)) → V_X10_level_344 d S' F' G' Q g x1 y1 x2 y2 a6 a8 e a12 X0 Y0 i j (G' 68 i) (G' 68 (48 + j)) := by
        intro nn
        unfold V_X10_level_344
        refine ⟨by omega, ih2 () ⟨by omega, fun j' a b => ?_⟩⟩
        by_cases e : j' = j
        · rw [e]; exact nn
        · exact dj j' a (by omega)
      refine R_X10_level_232 hsm ?_
      unfold V_X10_level_232
      refine ⟨fun y => absurd y (by omega), fun _ => ⟨i0, by omega, fun x4 e4 => ⟨by omega, by omega, by omega, fun x8 e8 => ?_⟩⟩⟩
      subst e4 e8
      generalize hX : G' 68 i = X at *
      generalize hY : G' 68 (48 + j) = Y at *
      have b2 := ci_vC ci g0 g1 p1 p2 p3 p4
      have pc1 := pu_cell (d := d - 1) (S := S') (by omega) hsm hx mba (g := -1) (by omega) (by omega) p1 (by omega : X < F' 53 1) p3 (by omega : Y < F' 53 2)
      have pc2 := pu_cell (d := d - 1) (S := S') (by omega) hsm hx mba (g := g) (by omega) g1 p1 (by omega : X < F' 53 1) p3 (by omega : Y < F' 53 2)
      rw [mE (-1) _ _ (by omega) (by omega) p1 p2 p3 p4] at pc1
      rw [mE g _ _ (by omega) g1 p1 p2 p3 p4, vu_g g0] at pc2
      refine ⟨by omega, _, pu_isInside hsm _ _ _ _ _ _, fun q => ?_, fun q => next ?_⟩
      · have yi : x1 ≤ X ∧ X ≤ x2 ∧ y1 ≤ Y ∧ Y ≤ y2 := Classical.byContradiction (fun z => q (bI_f z))
        have eT : tLev (vC F G 18 g) x1 y1 x2 y2 e X0 Y0 X Y = e + upTo X0 Y0 X Y := by
          unfold tLev
          rw [if_pos yi]
        have fin : ∀ s : Int, s = upTo X0 Y0 X Y → V_X10_level_331 d S' F' G' Q g x1 y1 x2 y2 a6 a8 e a12 X0 Y0 i j X Y s (vu F G 18 (-1) X Y - vC F G 18 g X Y + e) := by
          intro s es
          have u := upTo_in X0 Y0 X Y
          unfold V_X10_level_331
          refine ⟨by omega, fun q3 => next ?_, fun q3 => yes ⟨X, Y, p1, p2, p3, p4, ?_⟩⟩
          · unfold ovA
            rw [vu_g g0, eT]
            omega
          · rw [vu_g g0, eT]
            omega
        have f1 : Y < Y0 ∨ (Y = Y0 ∧ X ≤ X0) → V_X10_level_326 d S' F' G' Q g x1 y1 x2 y2 a6 a8 e a12 X0 Y0 i j X Y (vu F G 18 (-1) X Y - vC F G 18 g X Y + e) := by
          intro z
          unfold V_X10_level_326
          exact fin 1 (by unfold upTo; rw [if_pos z])
        have f0 : ¬ (Y < Y0 ∨ (Y = Y0 ∧ X ≤ X0)) → V_X10_level_330 d S' F' G' Q g x1 y1 x2 y2 a6 a8 e a12 X0 Y0 i j X Y (vu F G 18 (-1) X Y - vC F G 18 g X Y + e) := by
          intro z
          unfold V_X10_level_330
          exact fin 0 (by unfold upTo; rw [if_neg z])
        exact ⟨_, pc1, _, pc2, by omega, by omega, fun z => f1 (Or.inl z), fun z => ⟨fun z2 => f0 (by omega), fun z2 => ⟨fun z3 => f0 (by omega), fun z3 => f1 (Or.inr ⟨z2, by omega⟩)⟩⟩⟩
      · unfold ovA tLev
        rw [vu_g g0, if_neg (bI_0.mp q)]
        omega
    · rintro j - ⟨j0, dj⟩ hj
      refine R_X10_level_232 hsm ?_
      unfold V_X10_level_232
      refine ⟨fun _ => ⟨by omega, ih () ⟨by omega, by omega, fun i' j' a b c e => ?_⟩⟩, fun y => absurd y (by omega)⟩
      by_cases z : i' = i
      · rw [z]; exact dj j' c (by omega)
      · exact done i' j' a (by omega) c e
  · rintro i - ⟨i0, i1, done⟩ hi
    refine R_X10_level_218 hsm ?_
    unfold V_X10_level_218
    refine ⟨fun _ => no ?_, fun y => absurd y (by omega)⟩
    rintro ⟨x, y, x0, xw, y0, yw, o⟩
    obtain ⟨i', j', q1, q2, q3, q4, q5, q6⟩ := th_pt hc k th cst x0 xw y0 yw
    refine done i' j' q1 (by omega) q3 q4 ?_
    unfold ovA
    rw [q5, q6, q6]
    exact o
theorem lv_zones {d : Nat} {S S' : AS} {F F' : AF} {G G' : AG} {b g x1 y1 x2 y2 a6 a8 e a12 X0 Y0 : Int} (hd : 6 ≤ d) (hsm : ShM S') (ci : CI S F G b) (k : KK F G F' G') (g0 : 0 ≤ g) (g1 : g ≤ 2) (yr : recS F x1 y1 x2 y2) (e0 : 0 ≤ e) (eN : (x2 - x1 + 1) * (y2 - y1 + 1) * e ≤ 3000000000000000000) (xa : -1 ≤ X0) (xb : X0 ≤ 10000) (ya : 0 ≤ Y0) (yb : Y0 ≤ 10000) (hW : aS (tLev (vC F G 18 g) x1 y1 x2 y2 e X0 Y0) 0 0 (F 4 2 - 1) (F 11 2 - 1) ≤ 3000000000000000000) {Q : AQ} (no : ¬ OvL F G g (tLev (vC F G 18 g) x1 y1 x2 y2 e X0 Y0) → ∀ Fy : AF, Mt F' Fy → V_X10_level_359 d S' Fy G' Q g x1 y1 x2 y2 a6 a8 e a12 X0 Y0 6) (yes : OvL F G g (tLev (vC F G 18 g) x1 y1 x2 y2 e X0 Y0) → ∀ Fy : AF, Mt F' Fy → Q (some (vJ (-9))) S' Fy G') : Go d MX10_level 359 [some (vR 53), some (vI g), some (vI x1), some (vI y1), some (vI x2), some (vI y2), some (vJ a6), none, some (vJ a8), none, some (vJ e), none, some (vJ a12), none, some (vI X0), some (vI Y0), some (vI 0), none, none, none] [] S' F' G' Q := by
  have hc := ci.2.1
  have c4 := hc.1.2.2.2.1
  have c11 := hc.2.1.2.2.2.1
  obtain ⟨r1, r2, r3, r4, r5, r6⟩ := id yr
  have tp : ∀ x y : Int, 0 ≤ x → x < F 4 2 → 0 ≤ y → y < F 11 2 → 0 ≤ tLev (vC F G 18 g) x1 y1 x2 y2 e X0 Y0 x y := fun x y x0 xw y0 yw => by
    have c1 := ci_vC ci g0 g1 x0 xw y0 yw
    have u := upTo_in X0 Y0 x y
    unfold tLev
    split <;> omega
  refine up_ind (α := AF) 5 (fun zi Fz => 0 ≤ zi ∧ zi ≤ 6 ∧ Mt F' Fz ∧ ∀ z' : Int, 0 ≤ z' → z' < zi → ¬ (¬ F (22 + 2 * z'.toNat) 2 = 0 ∧ 0 < aR F (22 + 2 * z'.toNat + 1) (tLev (vC F G 18 g) x1 y1 x2 y2 e X0 Y0) - aR F (22 + 2 * z'.toNat + 1) (vu F G 18 g) ∧ F (22 + 2 * z'.toNat) 1 < aR F (22 + 2 * z'.toNat + 1) (vu F G 18 (-1)) + (aR F (22 + 2 * z'.toNat + 1) (tLev (vC F G 18 g) x1 y1 x2 y2 e X0 Y0) - aR F (22 + 2 * z'.toNat + 1) (vu F G 18 g)))) (fun zi Fz => Go d MX10_level 359 [some (vR 53), some (vI g), some (vI x1), some (vI y1), some (vI x2), some (vI y2), some (vJ a6), none, some (vJ a8), none, some (vJ e), none, some (vJ a12), none, some (vI X0), some (vI Y0), some (vI zi), none, none, none] [] S' Fz G' Q) ?_ ?_ 0 F' ⟨by omega, by omega, ⟨fun _ _ => rfl, fun _ _ => rfl⟩, fun z' p q => absurd q (by omega)⟩
  · rintro zi Fz ⟨z0, z1, mz, done⟩ hz5 ih
    have kz := kk_rs k (mt_rs mz)
    have next : ∀ Fy : AF, Mt F' Fy → ¬ (¬ F (22 + 2 * zi.toNat) 2 = 0 ∧ 0 < aR F (22 + 2 * zi.toNat + 1) (tLev (vC F G 18 g) x1 y1 x2 y2 e X0 Y0) - aR F (22 + 2 * zi.toNat + 1) (vu F G 18 g) ∧ F (22 + 2 * zi.toNat) 1 < aR F (22 + 2 * zi.toNat + 1) (vu F G 18 (-1)) + (aR F (22 + 2 * zi.toNat + 1) (tLev (vC F G 18 g) x1 y1 x2 y2 e X0 Y0) - aR F (22 + 2 * zi.toNat + 1) (vu F G 18 g))) → V_X10_level_465 d S' Fy G' Q g x1 y1 x2 y2 a6 a8 e a12 X0 Y0 zi := by
      intro Fy my nn
      unfold V_X10_level_465
      refine ⟨by omega, ih Fy ⟨by omega, by omega, my, fun z' p q => ?_⟩⟩
      by_cases w : z' = zi
      · rw [w]; exact nn
      · exact done z' p (by omega)
    obtain ⟨z65, zr⟩ := kz.2.2.2.2.2.2.2 zi z0 (by omega)
    obtain ⟨-, -, zt⟩ := ci_zi ci zi z0 (by omega)
    refine R_X10_level_359 hsm ?_
    unfold V_X10_level_359
    refine ⟨fun y => absurd y (by omega), fun _ => ⟨z0, by omega, fun q5 => next Fz mz (fun n => n.1 (by rw [z65]; exact q5)), fun q5 => ?_⟩⟩
    have q6 : ¬ F (22 + 2 * zi.toNat) 2 = 0 := by rw [z65]; exact q5
    obtain ⟨l1, l2, l3, l4, l5⟩ := zr q6
    obtain ⟨⟨t1, t2, t3, t4, t5, t6⟩, t7, t8⟩ := zt q6
    rw [l2, l4] at t2
    rw [l2] at t1
    rw [l4] at t3
    rw [l3] at t4
    rw [l3, l5] at t5
    rw [l5] at t6
    have ea : ∀ f : Int → Int → Int, aR F (22 + 2 * zi.toNat + 1) f = aS f (G' 63 (4 * zi)) (G' 63 (4 * zi + 1)) (G' 63 (4 * zi + 2)) (G' 63 (4 * zi + 3)) := fun f => by
      unfold aR
      rw [l2, l3, l4, l5]
    rw [ea, ea, ea, aS_vu g0] at next
    have yes' : (¬ F (22 + 2 * zi.toNat) 2 = 0 ∧ 0 < aR F (22 + 2 * zi.toNat + 1) (tLev (vC F G 18 g) x1 y1 x2 y2 e X0 Y0) - aR F (22 + 2 * zi.toNat + 1) (vu F G 18 g) ∧ F (22 + 2 * zi.toNat) 1 < aR F (22 + 2 * zi.toNat + 1) (vu F G 18 (-1)) + (aR F (22 + 2 * zi.toNat + 1) (tLev (vC F G 18 g) x1 y1 x2 y2 e X0 Y0) - aR F (22 + 2 * zi.toNat + 1) (vu F G 18 g))) → ∀ Fy : AF, Mt F' Fy → Q (some (vJ (-9))) S' Fy G' := fun y => yes ⟨zi, z0, by omega, y⟩
    rw [ea, ea, ea, aS_vu g0] at yes'
    generalize hx1 : G' 63 (4 * zi) = zx1 at *
    generalize hy1 : G' 63 (4 * zi + 1) = zy1 at *
    generalize hx2 : G' 63 (4 * zi + 2) = zx2 at *
    generalize hy2 : G' 63 (4 * zi + 3) = zy2 at *
    have tz := aS_tLev (f := vC F G 18 g) x1 y1 x2 y2 e X0 Y0 zx1 zy1 zx2 zy2
    have zl := zon_le ci g0 g1 t1 t3 t4 t6
    have pT : aS (tLev (vC F G 18 g) x1 y1 x2 y2 e X0 Y0) zx1 zy1 zx2 zy2 ≤ 3000000000000000000 := by
      have m := aS_mono (f := tLev (vC F G 18 g) x1 y1 x2 y2 e X0 Y0) (x1 := zx1) (y1 := zy1) (x2 := zx2) (y2 := zy2) (a1 := 0) (b1 := 0) (a2 := F 4 2 - 1) (b2 := F 11 2 - 1) (fun x y x0 xw y0 yw => tp x y x0 (by omega) y0 (by omega)) t1 t4 (by omega) (by omega)
      omega
    have mm := mt_met (G := G') (z := zi) (x1 := x1) (y1 := y1) (x2 := x2) (y2 := y2) mz
    have km := kk_rs k (mt_rs mm (G := G'))
    have wm := km.1.2.1
    have hm := km.1.2.2.1
    refine ⟨by omega, ok_meets hsm z0 (by omega) ⟨rfl, _, rfl, fun q => ?_, fun q => next _ mm (fun n => ?_)⟩⟩
    · have ym : max x1 (G' 63 (4 * zi)) ≤ min x2 (G' 63 (4 * zi + 2)) ∧ max y1 (G' 63 (4 * zi + 1)) ≤ min y2 (G' 63 (4 * zi + 3)) := Classical.byContradiction (fun z => q (bI_f z))
      rw [hx1, hy1, hx2, hy2] at ym
      have v24 : metF Fz G' zi x1 y1 x2 y2 53 24 = max x1 zx1 := by rw [met_24, hx1]
      have v25 : metF Fz G' zi x1 y1 x2 y2 53 25 = max y1 zy1 := by rw [met_25, hy1]
      have v26 : metF Fz G' zi x1 y1 x2 y2 53 26 = min x2 zx2 := by rw [met_26, hx2]
      have v27 : metF Fz G' zi x1 y1 x2 y2 53 27 = min y2 zy2 := by rw [met_27, hy2]
      have pcs := pu_mcells (d := d - 1) (S := S') (F := metF Fz G' zi x1 y1 x2 y2) (G := G') hsm (by rw [v24, v26]; omega) (by rw [v24, v26]; omega) (by rw [v25, v27]; omega) (by rw [v25, v27]; omega)
      have pf := pu_first0 (d := d - 1) (S := S') (F := metF Fz G' zi x1 y1 x2 y2) (G := G') hsm (x := X0) (y := Y0) (by rw [v24]; omega) (by rw [v24, v26]; omega) (by rw [v26]; omega) (by rw [v25]; omega) (by rw [v25, v27]; omega) (by rw [v27]; omega) (by omega) (by omega) (by omega) (by omega)
      rw [v24, v25, v26, v27] at pcs pf
      have ps := pu_msum (d := d - 1) (S := S') (by omega) hsm km.1.1 (kk_mba ci km) (kk_mt ci km) (g := g) (x1 := max x1 zx1) (y1 := max y1 zy1) (x2 := min x2 zx2) (y2 := min y2 zy2) (by omega) g1 (by omega) (by omega) (by omega) (by omega) (by omega) (by omega) (by omega) (by omega)
      rw [kk_aS km (by omega) g1 (by omega) (by omega) (by omega) (by omega), aS_vu g0] at ps
      have pz := pu_zoned (d := d - 1) (S := S') (by omega) hsm km.1.1 (kk_mba ci km) (kk_mt ci km) z0 (by omega) (by unfold MR; rw [hx1, hy1, hx2, hy2]; omega)
      rw [hx1, hy1, hx2, hy2, kk_aS km (by omega) (by omega) t1 t3 t4 t6] at pz
      have zM := zon_le ci g0 g1 (x1 := max x1 zx1) (y1 := max y1 zy1) (x2 := min x2 zx2) (y2 := min y2 zy2) (by omega) (by omega) (by omega) (by omega)
      have fM := aS_mono (f := vC F G 18 g) (x1 := max x1 zx1) (y1 := max y1 zy1) (x2 := min x2 zx2) (y2 := min y2 zy2) (a1 := 0) (b1 := 0) (a2 := F 4 2 - 1) (b2 := F 11 2 - 1) (fun x y x0 xw y0 yw => (ci_vC ci g0 g1 x0 (by omega) y0 (by omega)).1) (by omega) (by omega) (by omega) (by omega)
      have fW := ci.2.2.2.2.1.2 g g0 g1
      rw [aS_add, aS_const e (by omega) (by omega)] at tz
      have cb := mul_bd (a := min x2 zx2 - max x1 zx1 + 1) (b := min y2 zy2 - max y1 zy1 + 1) (A := x2 - x1 + 1) (B := y2 - y1 + 1) (by omega) (by omega) (by omega) (by omega)
      have ub0 : 0 ≤ aS (upTo X0 Y0) (max x1 zx1) (max y1 zy1) (min x2 zx2) (min y2 zy2) := aS_pos (fun x y _ _ _ _ => (upTo_in X0 Y0 x y).1)
      have ub1 := aS_le (f := upTo X0 Y0) (g := fun _ _ => 1) (x1 := max x1 zx1) (y1 := max y1 zy1) (x2 := min x2 zx2) (y2 := min y2 zy2) (fun x y _ _ _ _ => (upTo_in X0 Y0 x y).2)
      rw [aS_const 1 (by omega) (by omega)] at ub1
      have cN := mul_bd (a := x2 - x1 + 1) (b := y2 - y1 + 1) (A := 10000) (B := 10000) (by omega) (by omega) (by omega) (by omega)
      generalize hC : (min x2 zx2 - max x1 zx1 + 1) * (min y2 zy2 - max y1 zy1 + 1) = C at *
      generalize hNN : (x2 - x1 + 1) * (y2 - y1 + 1) = NN at *
      have ce : C * e ≤ NN * e := Int.mul_le_mul_of_nonneg_right cb.2 e0
      have ce0 : 0 ≤ C * e := Int.mul_nonneg cb.1 e0
      have cc : e * C = C * e := Int.mul_comm _ _
      have e64 : G' 64 zi = F (22 + 2 * zi.toNat) 1 := l1.symm
      rw [v24, v25, v26, v27]
      refine ⟨_, pcs, by omega, _, pf, by omega, _, ps, by omega, fun x39 e39 => ⟨fun q7 => next _ mm (fun n => ?_), fun q7 => ⟨_, pz, by omega, fun q8 => next _ mm (fun n => ?_), fun q8 => yes' ⟨q6, ?_, ?_⟩ _ mm⟩⟩⟩
      · have := n.2.1
        omega
      · have := n.2.2
        omega
      · omega
      · omega
    · have nm := bI_0.mp q
      rw [hx1, hy1, hx2, hy2] at nm
      have n2 := n.2.1
      rw [aS_e (f := vC F G 18 g) (x1 := max x1 zx1) (y1 := max y1 zy1) (x2 := min x2 zx2) (y2 := min y2 zy2) (by omega), aS_e (f := fun x y => e + upTo X0 Y0 x y) (by omega)] at tz
      omega
  · rintro zi Fz ⟨z0, z1, mz, done⟩ hz5
    have e : zi = 6 := by omega
    subst e
    refine R_X10_level_359 hsm (no ?_ Fz mz)
    rintro ⟨z, p0, p1, q⟩
    exact done z p0 (by omega) q
end
