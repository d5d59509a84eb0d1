section
/-! THE REFERENCE'S MOVE: what refuses it -/
def ovA (F : AF) (G : AG) (g : Int) (T : Int → Int → Int) (x y : Int) : Prop := F 2 7 < vu F G 18 (-1) x y - vu F G 18 g x y + T x y
theorem mov_le {S : AS} {F : AF} {G : AG} {b g x1 y1 x2 y2 dx dy x y : Int} (ci : CI S F G b) (g0 : 0 ≤ g) (g1 : g ≤ 2) (x0 : 0 ≤ x) (xw : x < F 4 2) (y0 : 0 ≤ y) (yw : y < F 11 2) (n : ¬ inR (x1 + dx) (y1 + dy) (x2 + dx) (y2 + dy) x y) : ¬ ovA F G g (tMov (vC F G 18 g) x1 y1 x2 y2 dx dy) x y := by
  have c := ci_vC ci g0 g1 x0 xw y0 yw
  unfold ovA tMov
  rw [vu_g g0, if_neg n]
  by_cases q : inR x1 y1 x2 y2 x y
  · rw [if_pos q]; omega
  · rw [if_neg q]; omega
theorem mv_check {d : Nat} {S S' : AS} {F F' : AF} {G G' : AG} {b g x1 y1 x2 y2 dx dy : Int} (hd : 4 ≤ d) (hsm : ShM S') (ci : CI S F G b) (k : KK F G F' G') (g0 : 0 ≤ g) (g1 : g ≤ 2) (yr : recS F x1 y1 x2 y2) (yo : recS F (x1 + dx) (y1 + dy) (x2 + dx) (y2 + dy)) (d1 : -9999 ≤ dx) (d2 : dx ≤ 9999) (d3 : -9999 ≤ dy) (d4 : dy ≤ 9999) {PX PY : Int → Prop} (th : ThS F' G' F G PX PY) (cst : CstT F G PX PY (tMov (vC F G 18 g) x1 y1 x2 y2 dx dy)) {Q : AQ} (no : ¬ OvC F G g (tMov (vC F G 18 g) x1 y1 x2 y2 dx dy) → Go d MX10_move 320 [some (vR 53), some (vI g), some (vI x1), some (vI y1), some (vI x2), some (vI y2), some (vI dx), some (vI dy), some (vI 0), none, none, none, none, none] [] S' F' G' Q) (yes : OvC F G g (tMov (vC F G 18 g) x1 y1 x2 y2 dx dy) → Q (some (vJ (-7))) S' F' G') : Go d MX10_move 163 [some (vR 53), some (vI g), some (vI x1), some (vI y1), some (vI x2), some (vI y2), some (vI dx), some (vI dy), some (vI 0), none, none, none, none, none] [] S' F' G' Q := by
  have hc := ci.2.1
  have hx := k.1.1
  have w := k.1.2.1
  have hh := k.1.2.2.1
  have c4 := hc.1.2.2.2.1
  have c11 := hc.2.1.2.2.2.1
  have mba := kk_mba ci k
  obtain ⟨r1, r2, r3, r4, r5, r6⟩ := id yr
  obtain ⟨o1, o2, o3, o4, o5, o6⟩ := id yo
  have n0 := th.1.1
  have n48 := th.1.2.1
  have m0 := th.2.1.1
  have m48 := th.2.1.2.1
  have mE : ∀ g' x y : Int, -1 ≤ g' → g' ≤ 2 → 0 ≤ x → x < F 4 2 → 0 ≤ y → y < F 11 2 → mu G' g' (mb F' G' 0 x) (mb F' G' 1 y) = vu F G 18 g' x y := fun g' x y a b c e f h => kk_mv k a b c e f h
  have cap := k.2.2.1.1
  have capc := ci.2.2.2.1.2.1
  refine up_ind (α := Unit) (G' 69 0 - 1) (fun i _ => 0 ≤ i ∧ i ≤ G' 69 0 ∧ ∀ i' j' : Int, 0 ≤ i' → i' < i → 0 ≤ j' → j' < G' 69 1 → ¬ ovA F G g (tMov (vC F G 18 g) x1 y1 x2 y2 dx dy) (G' 68 i') (G' 68 (48 + j'))) (fun i _ => Go d MX10_move 163 [some (vR 53), some (vI g), some (vI x1), some (vI y1), some (vI x2), some (vI y2), some (vI dx), some (vI dy), some (vI i), none, none, none, none, none] [] S' F' G' Q) ?_ ?_ 0 () ⟨by omega, by omega, fun i' j' a b => absurd b (by omega)⟩
  · rintro i - ⟨i0, i1, done⟩ hi ih
    refine R_X10_move_163 hsm ?_
    unfold V_X10_move_163
    refine ⟨fun y => absurd y (by omega), fun _ => ?_⟩
    refine up_ind (α := Unit) (G' 69 1 - 1) (fun j _ => 0 ≤ j ∧ ∀ j' : Int, 0 ≤ j' → j' < j → ¬ ovA F G g (tMov (vC F G 18 g) x1 y1 x2 y2 dx dy) (G' 68 i) (G' 68 (48 + j'))) (fun j _ => Go d MX10_move 177 [some (vR 53), some (vI g), some (vI x1), some (vI y1), some (vI x2), some (vI y2), some (vI dx), some (vI dy), some (vI i), some (vI j), none, none, none, none] [] S' F' G' Q) ?_ ?_ 0 () ⟨by omega, fun j' a b => absurd b (by omega)⟩
    · rintro j - ⟨j0, dj⟩ hj ih2
      obtain ⟨p1, p2, p3, p4⟩ := th_in hc th i0 (by omega) j0 (by omega : j < G' 69 1)
      have next : ¬ ovA F G g (tMov (vC F G 18 g) x1 y1 x2 y2 dx dy) (G' 68 i) (G' 68 (48 + j)) → V_X10_move_305 d S' F' G' Q g x1 y1 x2 y2 dx dy i j (G' 68 i) (G' 68 (48 + j)) := by
        intro nn
        unfold V_X10_move_305
        refine ⟨by omega, ih2 () ⟨by omega, fun j' a b => ?_⟩⟩
        by_cases e : j' = j
        · rw [e]; exact nn
        · exact dj j' a (by omega)
      refine R_X10_move_177 hsm ?_
      unfold V_X10_move_177
      refine ⟨fun y => absurd y (by omega), fun _ => ⟨i0, by omega, fun x4 e4 => ⟨by omega, by omega, by omega, fun x8 e8 => ?_⟩⟩⟩
      subst e4 e8
      generalize hX : G' 68 i = X at *
      generalize hY : G' 68 (48 + j) = Y at *
      refine ⟨by omega, by omega, by omega, _, pu_isInside hsm _ _ _ _ _ _, fun q => ?_, fun q => next (mov_le ci g0 g1 p1 p2 p3 p4 (fun z => bI_0.mp q (by omega)))⟩
      have yi : x1 ≤ X - dx ∧ X - dx ≤ x2 ∧ y1 ≤ Y - dy ∧ Y - dy ≤ y2 := Classical.byContradiction (fun z => q (bI_f z))
      have b1 := ci_vC ci g0 g1 (x := X - dx) (y := Y - dy) (by omega) (by omega) (by omega) (by omega)
      have b2 := ci_vC ci g0 g1 p1 p2 p3 p4
      have fin : ∀ s0 : Int, 0 ≤ s0 → s0 ≤ 1000000000000 → (if inR x1 y1 x2 y2 X Y then 0 else vC F G 18 g X Y) = vC F G 18 g X Y - s0 → V_X10_move_278 d S' F' G' Q g x1 y1 x2 y2 dx dy i j X Y s0 (mu G' g (mb F' G' 0 (X - dx)) (mb F' G' 1 (Y - dy))) := by
        intro s0 s00 s01 es
        have eT : tMov (vC F G 18 g) x1 y1 x2 y2 dx dy X Y = vC F G 18 g X Y - s0 + vC F G 18 g (X - dx) (Y - dy) := by
          unfold tMov
          rw [if_pos (by omega : inR (x1 + dx) (y1 + dy) (x2 + dx) (y2 + dy) X Y), es]
        unfold V_X10_move_278
        rw [mE g _ _ (by omega) g1 (by omega) (by omega) (by omega) (by omega), vu_g g0]
        have pc := pu_cell (d := d - 1) (S := S') (by omega) hsm hx mba (g := -1) (by omega) (by omega) p1 (by omega : X < F' 53 1) p3 (by omega : Y < F' 53 2)
        rw [mE (-1) _ _ (by omega) (by omega) p1 p2 p3 p4] at pc
        refine ⟨by omega, fun s e2 => ⟨by omega, _, pc, by omega, fun q3 => next ?_, fun q3 => yes ⟨X, Y, p1, p2, p3, p4, ?_⟩⟩⟩
        · unfold ovA
          rw [vu_g g0, eT]
          omega
        · rw [vu_g g0, eT]
          omega
      have pc1 := pu_cell (d := d - 1) (S := S') (by omega) hsm hx mba (g := g) (by omega) g1 (by omega : 0 ≤ X - dx) (by omega : X - dx < F' 53 1) (by omega : 0 ≤ Y - dy) (by omega : Y - dy < F' 53 2)
      have pc2 := pu_cell (d := d - 1) (S := S') (by omega) hsm hx mba (g := g) (by omega) g1 p1 (by omega : X < F' 53 1) p3 (by omega : Y < F' 53 2)
      refine ⟨_, pc1, _, pu_isInside hsm _ _ _ _ _ _, fun q2 => fin 0 (by omega) (by omega) (by rw [if_neg (bI_0.mp q2)]; omega), fun q2 => ⟨_, pc2, ?_⟩⟩
      rw [mE g _ _ (by omega) g1 p1 p2 p3 p4, vu_g g0]
      have yi2 : x1 ≤ X ∧ X ≤ x2 ∧ y1 ≤ Y ∧ Y ≤ y2 := Classical.byContradiction (fun z => q2 (bI_f z))
      exact fin _ b2.1 b2.2.1 (by rw [if_pos yi2]; omega)
    · rintro j - ⟨j0, dj⟩ hj
      refine R_X10_move_177 hsm ?_
      unfold V_X10_move_177
      refine ⟨fun _ => ⟨by omega, ih () ⟨by omega, by omega, fun i' j' a b c e => ?_⟩⟩, fun y => absurd y (by omega)⟩
      by_cases z : i' = i
      · rw [z]; exact dj j' c (by omega)
      · exact done i' j' a (by omega) c e
  · rintro i - ⟨i0, i1, done⟩ hi
    refine R_X10_move_163 hsm ?_
    unfold V_X10_move_163
    refine ⟨fun _ => no ?_, fun y => absurd y (by omega)⟩
    rintro ⟨x, y, x0, xw, y0, yw, o⟩
    obtain ⟨i', j', q1, q2, q3, q4, q5, q6⟩ := th_pt hc k th cst x0 xw y0 yw
    refine done i' j' q1 (by omega) q3 q4 ?_
    unfold ovA
    rw [q5, q6, q6]
    exact o
theorem zon_le {S : AS} {F : AF} {G : AG} {b g x1 y1 x2 y2 : Int} (ci : CI S F G b) (g0 : 0 ≤ g) (g1 : g ≤ 2) (a0 : 0 ≤ x1) (a1 : x2 < F 4 2) (b0 : 0 ≤ y1) (b1 : y2 < F 11 2) : aS (vu F G 18 (-1)) x1 y1 x2 y2 - aS (vC F G 18 g) x1 y1 x2 y2 ≤ 6000000000000000000 ∧ 0 ≤ aS (vu F G 18 (-1)) x1 y1 x2 y2 - aS (vC F G 18 g) x1 y1 x2 y2 ∧ 0 ≤ aS (vC F G 18 g) x1 y1 x2 y2 := by
  have one : ∀ g : Int, 0 ≤ g → g ≤ 2 → 0 ≤ aS (vC F G 18 g) x1 y1 x2 y2 ∧ aS (vC F G 18 g) x1 y1 x2 y2 ≤ 3000000000000000000 := by
    intro g g0 g1
    refine ⟨aS_pos (fun x y x0 xw y0 yw => (ci_vC ci g0 g1 (by omega) (by omega) (by omega) (by omega)).1), ?_⟩
    have := aS_mono (f := vC F G 18 g) (x1 := x1) (y1 := y1) (x2 := x2) (y2 := y2) (a1 := 0) (b1 := 0) (a2 := F 4 2 - 1) (b2 := F 11 2 - 1) (fun x y x0 xw y0 yw => (ci_vC ci g0 g1 x0 (by omega) y0 (by omega)).1) a0 b0 (by omega) (by omega)
    have := ci.2.2.2.2.1.2 g g0 g1
    omega
  have e : aS (vu F G 18 (-1)) x1 y1 x2 y2 = aS (vC F G 18 0) x1 y1 x2 y2 + aS (vC F G 18 1) x1 y1 x2 y2 + aS (vC F G 18 2) x1 y1 x2 y2 := by
    rw [← aS_add, ← aS_add]
    exact aS_congr (fun x y _ _ _ _ => by rw [vu_all, vu_g (by omega), vu_g (by omega), vu_g (by omega)])
  have p0 := one 0 (by omega) (by omega)
  have p1 := one 1 (by omega) (by omega)
  have p2 := one 2 (by omega) (by omega)
  rw [e]
  have : g = 0 ∨ g = 1 ∨ g = 2 := by omega
  rcases this with e | e | e <;> subst e <;> omega
/-- only where two meet was laid -/
def Mt (F F' : AF) : Prop := (∀ c : Nat, c ≠ 53 → F' c = F c) ∧ ∀ k : Nat, (k < 24 ∨ 27 < k) → F' 53 k = F 53 k
theorem mt_rs {F F' : AF} {G : AG} (h : Mt F F') : RS F F' G G := ⟨h.1, fun k _ b _ => h.2 k (by omega), fun _ _ => rfl⟩
theorem mt_met {F F' : AF} {G : AG} {z x1 y1 x2 y2 : Int} (h : Mt F F') : Mt F (metF F' G z x1 y1 x2 y2) := ⟨fun c hc => (met_c hc).trans (h.1 c hc), fun k hk => (met_k hk).trans (h.2 k hk)⟩
theorem th_mt {F F' Fr : AF} {G Gr : AG} {PX PY : Int → Prop} (h : ThS F Gr Fr G PX PY) (m : Mt F F') : ThS F' Gr Fr G PX PY := by
  have e20 := m.2 20 (by omega)
  have e32 := m.2 32 (by omega)
  have em := fun a => me_cg (F := F) (F' := F') (G := Gr) (G' := Gr) (m.2 1 (by omega)) (m.2 2 (by omega)) rfl rfl a
  have es := fun a => msz_cg (F := F) (F' := F') (m.2 1 (by omega)) (m.2 2 (by omega)) a
  unfold ThS CmA Cmg Rm at *
  rw [e20, e32, em, em, es, es]
  exact h
theorem mv_zones {d : Nat} {S S' : AS} {F F' : AF} {G G' : AG} {b g x1 y1 x2 y2 dx dy : Int} (hd : 6 ≤ d) (hsm : ShM S') (ci : CI S F G b) (k : KK F G F' G') (g0 : 0 ≤ g) (g1 : g ≤ 2) (yr : recS F x1 y1 x2 y2) (yo : recS F (x1 + dx) (y1 + dy) (x2 + dx) (y2 + dy)) (d1 : -9999 ≤ dx) (d2 : dx ≤ 9999) (d3 : -9999 ≤ dy) (d4 : dy ≤ 9999) {Q : AQ} (no : ¬ OvL F G g (tMov (vC F G 18 g) x1 y1 x2 y2 dx dy) → ∀ Fy : AF, Mt F' Fy → V_X10_move_320 d S' Fy G' Q g x1 y1 x2 y2 dx dy 6) (yes : OvL F G g (tMov (vC F G 18 g) x1 y1 x2 y2 dx dy) → ∀ Fy : AF, Mt F' Fy → Q (some (vJ (-9))) S' Fy G') : Go d MX10_move 320 [some (vR 53), some (vI g), some (vI x1), some (vI y1), some (vI x2), some (vI y2), some (vI dx), some (vI dy), some (vI 0), none, none, none, none, none] [] S' F' G' Q := by
  have hc := ci.2.1
  have c4 := hc.1.2.2.2.1
  have c11 := hc.2.1.2.2.2.1
  obtain ⟨r1, r2, r3, r4, r5, r6⟩ := id yr
  obtain ⟨o1, o2, o3, o4, o5, o6⟩ := id yo
  refine up_ind (α := AF) 5 (fun zi Fz => 0 ≤ zi ∧ zi ≤ 6 ∧ Mt F' Fz ∧ ∀ z' : Int, 0 ≤ z' → z' < zi → ¬ (¬ F (22 + 2 * z'.toNat) 2 = 0 ∧ 0 < aR F (22 + 2 * z'.toNat + 1) (tMov (vC F G 18 g) x1 y1 x2 y2 dx dy) - aR F (22 + 2 * z'.toNat + 1) (vu F G 18 g) ∧ F (22 + 2 * z'.toNat) 1 < aR F (22 + 2 * z'.toNat + 1) (vu F G 18 (-1)) + (aR F (22 + 2 * z'.toNat + 1) (tMov (vC F G 18 g) x1 y1 x2 y2 dx dy) - aR F (22 + 2 * z'.toNat + 1) (vu F G 18 g)))) (fun zi Fz => Go d MX10_move 320 [some (vR 53), some (vI g), some (vI x1), some (vI y1), some (vI x2), some (vI y2), some (vI dx), some (vI dy), some (vI zi), none, none, none, none, none] [] S' Fz G' Q) ?_ ?_ 0 F' ⟨by omega, by omega, ⟨fun _ _ => rfl, fun _ _ => rfl⟩, fun z' p q => absurd q (by omega)⟩
  · rintro zi Fz ⟨z0, z1, mz, done⟩ hz5 ih
    have kz := kk_rs k (mt_rs mz)
    have next : ∀ Fy : AF, Mt F' Fy → ¬ (¬ F (22 + 2 * zi.toNat) 2 = 0 ∧ 0 < aR F (22 + 2 * zi.toNat + 1) (tMov (vC F G 18 g) x1 y1 x2 y2 dx dy) - aR F (22 + 2 * zi.toNat + 1) (vu F G 18 g) ∧ F (22 + 2 * zi.toNat) 1 < aR F (22 + 2 * zi.toNat + 1) (vu F G 18 (-1)) + (aR F (22 + 2 * zi.toNat + 1) (tMov (vC F G 18 g) x1 y1 x2 y2 dx dy) - aR F (22 + 2 * zi.toNat + 1) (vu F G 18 g))) → V_X10_move_482 d S' Fy G' Q g x1 y1 x2 y2 dx dy zi := by
      intro Fy my nn
      unfold V_X10_move_482
      refine ⟨by omega, ih Fy ⟨by omega, by omega, my, fun z' p q => ?_⟩⟩
      by_cases w : z' = zi
      · rw [w]; exact nn
      · exact done z' p (by omega)
    obtain ⟨z65, zr⟩ := kz.2.2.2.2.2.2.2 zi z0 (by omega)
    obtain ⟨-, -, zt⟩ := ci_zi ci zi z0 (by omega)
    refine R_X10_move_320 hsm ?_
    unfold V_X10_move_320
    refine ⟨fun y => absurd y (by omega), fun _ => ⟨z0, by omega, fun q5 => ?_, fun q5 => next Fz mz (fun n => n.1 (by rw [z65]; exact q5))⟩⟩
    have q6 : ¬ F (22 + 2 * zi.toNat) 2 = 0 := by rw [z65]; exact q5
    obtain ⟨l1, l2, l3, l4, l5⟩ := zr q6
    obtain ⟨⟨t1, t2, t3, t4, t5, t6⟩, t7, t8⟩ := zt q6
    rw [l2, l4] at t2
    rw [l2] at t1
    rw [l4] at t3
    rw [l3] at t4
    rw [l3, l5] at t5
    rw [l5] at t6
    have ea : ∀ f : Int → Int → Int, aR F (22 + 2 * zi.toNat + 1) f = aS f (G' 63 (4 * zi)) (G' 63 (4 * zi + 1)) (G' 63 (4 * zi + 2)) (G' 63 (4 * zi + 3)) := fun f => by
      unfold aR
      rw [l2, l3, l4, l5]
    rw [ea, ea, ea, aS_tMov, aS_vu g0] at next
    have yes' : (¬ F (22 + 2 * zi.toNat) 2 = 0 ∧ 0 < aR F (22 + 2 * zi.toNat + 1) (tMov (vC F G 18 g) x1 y1 x2 y2 dx dy) - aR F (22 + 2 * zi.toNat + 1) (vu F G 18 g) ∧ F (22 + 2 * zi.toNat) 1 < aR F (22 + 2 * zi.toNat + 1) (vu F G 18 (-1)) + (aR F (22 + 2 * zi.toNat + 1) (tMov (vC F G 18 g) x1 y1 x2 y2 dx dy) - aR F (22 + 2 * zi.toNat + 1) (vu F G 18 g))) → ∀ Fy : AF, Mt F' Fy → Q (some (vJ (-9))) S' Fy G' := fun y => yes ⟨zi, z0, by omega, y⟩
    rw [ea, ea, ea, aS_tMov, aS_vu g0] at yes'
    generalize hx1 : G' 63 (4 * zi) = zx1 at *
    generalize hy1 : G' 63 (4 * zi + 1) = zy1 at *
    generalize hx2 : G' 63 (4 * zi + 2) = zx2 at *
    generalize hy2 : G' 63 (4 * zi + 3) = zy2 at *
    have pos : ∀ a1 b1 a2 b2 : Int, 0 ≤ a1 → a2 < F 4 2 → 0 ≤ b1 → b2 < F 11 2 → 0 ≤ aS (vC F G 18 g) a1 b1 a2 b2 ∧ aS (vC F G 18 g) a1 b1 a2 b2 ≤ 3000000000000000000 := by
      intro a1 b1 a2 b2 h1 h2 h3 h4
      have := mv_le kz.1.1 (kk_mba ci kz) (kk_mt ci kz) g0 g1 (x1 := a1) (y1 := b1) (x2 := a2) (y2 := b2) h1 (by have := kz.1.2.1; omega) h3 (by have := kz.1.2.2.1; omega)
      rw [kk_aS kz (by omega) g1 h1 h2 h3 h4, aS_vu g0] at this
      exact this
    have pA := pos (max (x1 + dx) zx1 - dx) (max (y1 + dy) zy1 - dy) (min (x2 + dx) zx2 - dx) (min (y2 + dy) zy2 - dy) (by omega) (by omega) (by omega) (by omega)
    have pB := pos (max x1 zx1) (max y1 zy1) (min x2 zx2) (min y2 zy2) (by omega) (by omega) (by omega) (by omega)
    have pT : aS (vC F G 18 g) zx1 zy1 zx2 zy2 - aS (vC F G 18 g) (max x1 zx1) (max y1 zy1) (min x2 zx2) (min y2 zy2) + aS (vC F G 18 g) (max (x1 + dx) zx1 - dx) (max (y1 + dy) zy1 - dy) (min (x2 + dx) zx2 - dx) (min (y2 + dy) zy2 - dy) ≤ 3000000000000000000 := by
      rw [← aS_tMov]
      have m := aS_mono (f := tMov (vC F G 18 g) x1 y1 x2 y2 dx dy) (x1 := zx1) (y1 := zy1) (x2 := zx2) (y2 := zy2) (a1 := 0) (b1 := 0) (a2 := F 4 2 - 1) (b2 := F 11 2 - 1) (fun x y x0 xw y0 yw => ?_) t1 t4 (by omega) (by omega)
      · rw [aS_tMovW r1 r3 r4 r6 o1 o3 o4 o6] at m
        have := ci.2.2.2.2.1.2 g g0 g1
        omega
      · have c1 := ci_vC ci g0 g1 x0 (by omega : x < F 4 2) y0 (by omega : y < F 11 2)
        unfold tMov
        by_cases p : inR (x1 + dx) (y1 + dy) (x2 + dx) (y2 + dy) x y
        · have c2 := ci_vC ci g0 g1 (x := x - dx) (y := y - dy) (by omega) (by omega) (by omega) (by omega)
          rw [if_pos p]
          by_cases q : inR x1 y1 x2 y2 x y
          · rw [if_pos q]; omega
          · rw [if_neg q]; omega
        · rw [if_neg p]
          by_cases q : inR x1 y1 x2 y2 x y
          · rw [if_pos q]; omega
          · rw [if_neg q]; omega
    have zl := zon_le ci g0 g1 t1 t3 t4 t6
    -- the last step: both sums are known
    have last : ∀ (Fy : AF) (s0 s1 c9 : Int), Mt F' Fy → s1 = aS (vC F G 18 g) (max (x1 + dx) zx1 - dx) (max (y1 + dy) zy1 - dy) (min (x2 + dx) zx2 - dx) (min (y2 + dy) zy2 - dy) → s0 = aS (vC F G 18 g) (max x1 zx1) (max y1 zy1) (min x2 zx2) (min y2 zy2) → V_X10_move_448 d S' Fy G' Q g x1 y1 x2 y2 dx dy zi c9 s0 s1 := by
      intro Fy s0 s1 c9 my e1 e0
      have ky := kk_rs k (mt_rs my (G := G'))
      have wy := ky.1.2.1
      have hy := ky.1.2.2.1
      have pz := pu_zoned (d := d - 1) (S := S') (by omega) hsm ky.1.1 (kk_mba ci ky) (kk_mt ci ky) z0 (by omega) (by unfold MR; rw [hx1, hy1, hx2, hy2]; omega)
      rw [hx1, hy1, hx2, hy2, kk_aS ky (by omega) (by omega) t1 t3 t4 t6] at pz
      have e64 : G' 64 zi = F (22 + 2 * zi.toNat) 1 := l1.symm
      unfold V_X10_move_448
      refine ⟨by omega, fun x2' e2 => ⟨fun q => next Fy my (fun n => ?_), fun q => ⟨by omega, _, pz, by omega, z0, by omega, fun q7 => next Fy my (fun n => ?_), fun q7 => yes' ⟨q6, ?_, ?_⟩ Fy my⟩⟩⟩
      · have := n.2.1
        omega
      · have := n.2.2
        omega
      · omega
      · omega
    have mid : ∀ (Fy : AF) (s : Int), Mt F' Fy → s = aS (vC F G 18 g) (max (x1 + dx) zx1 - dx) (max (y1 + dy) zy1 - dy) (min (x2 + dx) zx2 - dx) (min (y2 + dy) zy2 - dy) → V_X10_move_404 d S' Fy G' Q g x1 y1 x2 y2 dx dy zi s := by
      intro Fy s my e
      have mm := mt_met (G := G') (z := zi) (x1 := x1) (y1 := y1) (x2 := x2) (y2 := y2) my
      have km := kk_rs k (mt_rs mm (G := G'))
      have wm := km.1.2.1
      have hm := km.1.2.2.1
      unfold V_X10_move_404
      refine ⟨by omega, ok_meets hsm z0 (by omega) ⟨rfl, _, rfl, fun q => last _ 0 s s mm e ?_, fun q => ?_⟩⟩
      · have nm := bI_0.mp q
        rw [hx1, hy1, hx2, hy2] at nm
        exact (aS_e (by omega)).symm
      · have ym : max x1 (G' 63 (4 * zi)) ≤ min x2 (G' 63 (4 * zi + 2)) ∧ max y1 (G' 63 (4 * zi + 1)) ≤ min y2 (G' 63 (4 * zi + 3)) := Classical.byContradiction (fun z => q (bI_f z))
        rw [hx1, hy1, hx2, hy2] at ym
        have ps := pu_msum (d := d - 1) (S := S') (by omega) hsm km.1.1 (kk_mba ci km) (kk_mt ci km) (g := g) (x1 := max x1 zx1) (y1 := max y1 zy1) (x2 := min x2 zx2) (y2 := min y2 zy2) (by omega) g1 (by omega) (by omega) (by omega) (by omega) (by omega) (by omega) (by omega) (by omega)
        rw [kk_aS km (by omega) g1 (by omega) (by omega) (by omega) (by omega), aS_vu g0] at ps
        rw [met_24, met_25, met_26, met_27, hx1, hy1, hx2, hy2]
        exact ⟨_, ps, last _ _ s s mm e rfl⟩
    have mm := mt_met (G := G') (z := zi) (x1 := x1 + dx) (y1 := y1 + dy) (x2 := x2 + dx) (y2 := y2 + dy) mz
    have km := kk_rs k (mt_rs mm (G := G'))
    have wm := km.1.2.1
    have hm := km.1.2.2.1
    refine ⟨by omega, by omega, by omega, by omega, by omega, ok_meets hsm z0 (by omega) ⟨rfl, _, rfl, fun q => mid _ 0 mm ?_, fun q => ?_⟩⟩
    · have nm := bI_0.mp q
      rw [hx1, hy1, hx2, hy2] at nm
      exact (aS_e (by omega)).symm
    · have ym : max (x1 + dx) (G' 63 (4 * zi)) ≤ min (x2 + dx) (G' 63 (4 * zi + 2)) ∧ max (y1 + dy) (G' 63 (4 * zi + 1)) ≤ min (y2 + dy) (G' 63 (4 * zi + 3)) := Classical.byContradiction (fun z => q (bI_f z))
      rw [hx1, hy1, hx2, hy2] at ym
      have ps := pu_msum (d := d - 1) (S := S') (by omega) hsm km.1.1 (kk_mba ci km) (kk_mt ci km) (g := g) (x1 := max (x1 + dx) zx1 - dx) (y1 := max (y1 + dy) zy1 - dy) (x2 := min (x2 + dx) zx2 - dx) (y2 := min (y2 + dy) zy2 - dy) (by omega) g1 (by omega) (by omega) (by omega) (by omega) (by omega) (by omega) (by omega) (by omega)
      rw [kk_aS km (by omega) g1 (by omega) (by omega) (by omega) (by omega), aS_vu g0] at ps
      rw [met_24, met_25, met_26, met_27, hx1, hy1, hx2, hy2]
      exact ⟨by omega, by omega, by omega, by omega, _, ps, mid _ _ mm rfl⟩
  · rintro zi Fz ⟨z0, z1, mz, done⟩ hz5
    have e : zi = 6 := by omega
    subst e
    refine R_X10_move_320 hsm (no ?_ Fz mz)
    rintro ⟨z, p0, p1, q⟩
    exact done z p0 (by omega) q
end
