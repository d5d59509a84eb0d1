section
/-! THE REFERENCE'S ADD, TIED TO THE SYSTEM'S -/
theorem wn_rgb {F F' : AF} {G G' : AG} {a m : Int} {P : Int → Prop} (h : Wn F F' G G' a m P) : G 55 a + F' 53 20 ≤ 48 ↔ RgB (fun q => isB (me F G a) (G 55 a) q ∨ (P q ∧ 0 < q ∧ q < msz F a)) (msz F a) := by
  obtain ⟨e', s, hb⟩ := h.2.2.2.2.2.1
  exact rgb_iff s hb
theorem came_fld {F : AF} {G G' : AG} {PP : Int → Int → Prop} (h : Came F G G' PP) {g A : Int} (g0 : 0 ≤ g) (g1 : g ≤ 2) (hb : ∀ x y : Int, 0 ≤ x → x < F 53 1 → 0 ≤ y → y < F 53 2 → 0 ≤ mC F G 57 0 g x y ∧ mC F G 57 0 g x y ≤ A) {i j : Int} (i0 : 0 ≤ i) (i1 : i < G' 55 0) (j0 : 0 ≤ j) (j1 : j < G' 55 1) : 0 ≤ G' 57 (2304 * g + 48 * j + i) ∧ G' 57 (2304 * g + 48 * j + i) ≤ A := by
  have hx := h.2.1
  have sx := sq_x hx
  have sy := sq_y hx
  have e := cv_at sx sy (u := fun i j => G' 57 (0 + 2304 * g + 48 * j + i)) i0 i1 j0 j1
  have bx := isB_in sx ⟨i, i0, i1, rfl⟩
  have by' := isB_in sy ⟨j, j0, j1, rfl⟩
  have c := h.2.2.2.1 g _ _ g0 g1 bx.1 bx.2 by'.1 by'.2
  have b := hb _ _ bx.1 bx.2 by'.1 by'.2
  have z : 0 + 2304 * g + 48 * j + i = 2304 * g + 48 * j + i := by omega
  rw [z] at e
  rw [e]
  unfold mC at c b
  rw [← c] at b
  exact b
theorem mC_gu {F : AF} {G G' : AG} (e54 : G' 54 = G 54) (e55 : G' 55 = G 55) (e57 : G' 57 = G 57) (off : Int) : mC F G' 57 off = mC F G 57 off := by
  have em := fun a => me_cg (F := F) (F' := F) (G := G) (G' := G') rfl rfl e54 e55 a
  funext g x y
  unfold mC cv
  rw [em, em, e55, e57]
theorem kk_tell {S : AS} {F Fr : AF} {G Gr : AG} {b : Int} (ci : CI S F G b) (hb : b ≤ 1000000) (k : KK F G Fr Gr) : (0 ≤ Fr 53 14 ∧ Fr 53 14 ≤ 40) ∧ (0 ≤ Fr 53 11 ∧ Fr 53 11 ≤ 8) ∧ ∀ j : Int, 0 ≤ j → j < Fr 53 11 → 0 ≤ Gr 61 j ∧ Gr 61 j ≤ 1000000000 := by
  have st := ci.2.2.2.2.2.2.2.1
  have t := k.2.2.2.2.2.2.1.1
  have o := k.2.2.1.2
  have oc := ci.2.2.2.1
  refine ⟨⟨by have := st.2.2.1; omega, by have := st.2.2.2; omega⟩, ⟨by omega, by omega⟩, fun j j0 j1 => ?_⟩
  have hk : ((j.toNat : Nat) : Int) < F 2 8 := by omega
  have e := (k.2.2.2.2.2.1 j.toNat hk).2.2
  rw [Int.toNat_of_nonneg j0] at e
  have := ci_acts ci hk
  omega
theorem cr_add {d : Nat} {S S' : AS} {F F1 Fr : AF} {G G1 Gr : AG} {b : Int} (hd : 7 ≤ d) (hsm : ShM S') (ci : CI S F G b) (hb : b ≤ 1000000) (k : KK F G Fr Gr) {g x1 y1 x2 y2 v z : Int} (a : AddS F F1 G G1 g x1 y1 x2 y2 v z) {Q : AQ} (hq : ∀ F2 G2, KK F1 G1 F2 G2 → RFr Fr F2 Gr G2 → Q (some (vJ z)) S' F2 G2) : Ok d MX10_add [vR 53, vI g, vI x1, vI y1, vI x2, vI y2, vI v] S' Fr Gr Q := by
  classical
  have fin : ∀ zz F2 G2, (z = zz ∧ SS F F1 G G1) → RS Fr F2 Gr G2 → Q (some (vJ zz)) S' F2 G2 := fun zz F2 G2 e r => e.1 ▸ hq F2 G2 (kk_ss (kk_rs k r) e.2) (rfr_rs r)
  have hc := ci.2.1
  have c4 := hc.1.2.2.2.1
  have c11 := hc.2.1.2.2.2.1
  refine ok_go rfl (by decide) (Nat.le_of_ble_eq_true rfl) (R_X10_add_0 hsm ?_)
  unfold V_X10_add_0
  intro F0 e0
  have rs0 : RS Fr F0 Gr Gr := by rw [e0]; exact rs_fu (Or.inl rfl)
  have k0 := kk_rs k rs0
  have hx := k0.1.1
  have eW := k0.1.2.1
  have eH := k0.1.2.2.1
  refine ⟨by omega, _, pu_isGood (by omega) hsm g, fun y => fin _ _ _ (a.1 (fun n => bI_0.mp y n.1)) rs0, fun y => ⟨_, pu_isRectangle hsm _ _ _ _, fun q2 => ?_, fun q2 => fin _ _ _ (a.1 (fun n => bI_0.mp q2 (by rw [← eW, ← eH]; exact n.2))) rs0⟩⟩
  have yg : 0 ≤ g ∧ g ≤ 2 := Classical.byContradiction (fun z => y (bI_f z))
  have yr : recS F x1 y1 x2 y2 := Classical.byContradiction (fun z => q2 (bI_f (by rw [← eW, ← eH]; exact z)))
  refine ⟨_, pu_isIn hsm _ _ _, fun q3 => fin _ _ _ ((a.2 ⟨yg, yr⟩).1 (fun n => bI_0.mp q3 n.2)) rs0, fun q3 => ⟨fun q4 => ?_, fun q4 => fin _ _ _ ((a.2 ⟨yg, yr⟩).1 (fun n => n.1 q4)) rs0⟩⟩
  have vk : ¬ v = 0 ∧ -1000000000 ≤ v ∧ v ≤ 1000000000 := ⟨q4, Classical.byContradiction (fun z => q3 (bI_f z))⟩
  have ha := (a.2 ⟨yg, yr⟩).2 vk
  obtain ⟨r1, r2, r3, r4, r5, r6⟩ := id yr
  have hMR : ∀ Fz : AF, KK F G Fz Gr → MR Fz x1 y1 x2 y2 := fun Fz kz => ⟨r1, r2, by have := kz.1.2.1; omega, r4, r5, by have := kz.1.2.2.1; omega⟩
  have a2 : setR F 51 x1 y1 x2 y2 2 = F 2 := setR_c (by decide)
  have a4 : setR F 51 x1 y1 x2 y2 4 = F 4 := setR_c (by decide)
  have a11 : setR F 51 x1 y1 x2 y2 11 = F 11 := setR_c (by decide)
  have vA : ∀ g : Int, vu (setR F 51 x1 y1 x2 y2) G 18 g = vu F G 18 g := by
    intro g
    funext x y
    unfold vu cv
    rw [a4, a11]
  have hV : adS F G g x1 y1 x2 y2 v = adR (setR F 51 x1 y1 x2 y2) G 51 g v := rfl
  simp only [adR, setR_0, setR_1, setR_2, setR_3, a2, a4, a11, vA] at hV
  have m5 : (∃ x y : Int, inR x1 y1 x2 y2 x y ∧ mv F0 Gr g x y + v < 0) ↔ ∃ x y : Int, inR x1 y1 x2 y2 x y ∧ vu F G 18 g x y + v < 0 := by
    constructor
    · rintro ⟨x, y, i, n⟩
      exact ⟨x, y, i, by rw [← kk_mv k0 (by omega) yg.2 (by omega) (by omega) (by omega) (by omega)]; exact n⟩
    · rintro ⟨x, y, i, n⟩
      exact ⟨x, y, i, by rw [kk_mv k0 (by omega) yg.2 (by omega) (by omega) (by omega) (by omega)]; exact n⟩
  have m7 : (∃ x y : Int, inR x1 y1 x2 y2 x y ∧ F0 53 3 < mv F0 Gr (-1) x y + v) ↔ ∃ x y : Int, inR x1 y1 x2 y2 x y ∧ F 2 7 < vu F G 18 (-1) x y + v := by
    rw [← k0.2.2.1.1]
    constructor
    · rintro ⟨x, y, i, n⟩
      exact ⟨x, y, i, by rw [← kk_mv k0 (by omega) (by omega) (by omega) (by omega) (by omega) (by omega)]; exact n⟩
    · rintro ⟨x, y, i, n⟩
      exact ⟨x, y, i, by rw [kk_mv k0 (by omega) (by omega) (by omega) (by omega) (by omega) (by omega)]; exact n⟩
  have ref : ∀ (w : Int) (Fz : AF), ¬ w = 0 → adS F G g x1 y1 x2 y2 v = w → RS Fr Fz Gr Gr → Q (some (vJ w)) S' Fz Gr := by
    intro w Fz w0 e r
    have := ha.1 (by rw [e]; exact w0)
    rw [e] at this
    exact fin _ _ _ this r
  have p7 : v < 0 → ¬ ∃ x y : Int, inR x1 y1 x2 y2 x y ∧ F 2 7 < vu F G 18 (-1) x y + v := by
    rintro v0 ⟨x, y, i, n⟩
    have := (ci_vC ci (g := 0) (x := x) (y := y) (by omega) (by omega) (by omega) (by omega) (by omega) (by omega)).2.2.1
    omega
  refine ⟨_, pu_breaksBy (by omega) hsm hx (kk_mba ci k0) yg.1 yg.2 (hMR F0 k0) vk.2.1 vk.2.2, fun bz => ?_, fun bz => ?_⟩
  · have n5 : ¬ ∃ x y : Int, inR x1 y1 x2 y2 x y ∧ vu F G 18 g x y + v < 0 := by
      intro c
      simp only [brk] at bz
      rw [if_pos (m5.mpr c)] at bz
      exact absurd bz (by decide)
    have n7 : ¬ ∃ x y : Int, inR x1 y1 x2 y2 x y ∧ F 2 7 < vu F G 18 (-1) x y + v := by
      intro c
      simp only [brk] at bz
      rw [if_neg (fun z => n5 (m5.mp z)), if_pos (m7.mpr c)] at bz
      exact absurd bz (by decide)
    rw [if_neg n5] at hV
    have cellp := mul_bd (a := x2 - x1 + 1) (b := y2 - y1 + 1) (A := 10000) (B := 10000) (by omega) (by omega) (by omega) (by omega)
    have cellv : -100000000000000000 ≤ (x2 - x1 + 1) * (y2 - y1 + 1) * v ∧ (x2 - x1 + 1) * (y2 - y1 + 1) * v ≤ 100000000000000000 := mul_ab (a := (x2 - x1 + 1) * (y2 - y1 + 1)) (A := 100000000) (B := 1000000000) (by omega) cellp.2 vk.2.1 vk.2.2
    have e59 := k0.2.2.2.2.1 g yg.1 yg.2
    have b59 : 0 ≤ Gr 59 g ∧ Gr 59 g ≤ 3000000000000000000 := by
      rw [e59]
      exact ⟨aS_pos (fun x y x0 xw y0 yw => (ci_vC ci yg.1 yg.2 x0 (by omega) y0 (by omega)).1), ci.2.2.2.2.1.2 g yg.1 yg.2⟩
    refine up_ind (α := AF) 5 (fun zi Fz => 0 ≤ zi ∧ zi ≤ 6 ∧ RS Fr Fz Gr Gr ∧ (0 < v → ∀ z' : Int, 0 ≤ z' → z' < zi → ¬ (¬ setR F 51 x1 y1 x2 y2 (22 + 2 * z'.toNat) 2 = 0 ∧ 0 < com (setR F 51 x1 y1 x2 y2) (22 + 2 * z'.toNat + 1) 51 * v ∧ setR F 51 x1 y1 x2 y2 (22 + 2 * z'.toNat) 1 < aR (setR F 51 x1 y1 x2 y2) (22 + 2 * z'.toNat + 1) (vu F G 18 (-1)) + com (setR F 51 x1 y1 x2 y2) (22 + 2 * z'.toNat + 1) 51 * v))) (fun zi Fz => Go d MX10_add 80 [some (vR 53), some (vI g), some (vI x1), some (vI y1), some (vI x2), some (vI y2), some (vI v), some (vI (brk F0 Gr g x1 y1 x2 y2 v)), some (vI zi), none, none, none] [] S' Fz Gr Q) ?_ ?_ 0 F0 ⟨by omega, by omega, rs0, fun _ z' p q => absurd q (by omega)⟩
    · rintro zi Fz ⟨z0, z1, rz, no⟩ hz5 ih
      have kz := kk_rs k rz
      have q1 : setR F 51 x1 y1 x2 y2 (22 + 2 * zi.toNat) = F (22 + 2 * zi.toNat) := setR_c (by omega)
      have q2' : setR F 51 x1 y1 x2 y2 (22 + 2 * zi.toNat + 1) = F (22 + 2 * zi.toNat + 1) := setR_c (by omega)
      have next : ∀ Fy : AF, RS Fr Fy Gr Gr → (0 < v → ¬ (¬ setR F 51 x1 y1 x2 y2 (22 + 2 * zi.toNat) 2 = 0 ∧ 0 < com (setR F 51 x1 y1 x2 y2) (22 + 2 * zi.toNat + 1) 51 * v ∧ setR F 51 x1 y1 x2 y2 (22 + 2 * zi.toNat) 1 < aR (setR F 51 x1 y1 x2 y2) (22 + 2 * zi.toNat + 1) (vu F G 18 (-1)) + com (setR F 51 x1 y1 x2 y2) (22 + 2 * zi.toNat + 1) 51 * v)) → V_X10_add_147 d S' Fy Gr Q g x1 y1 x2 y2 v (brk F0 Gr g x1 y1 x2 y2 v) zi := by
        intro Fy ry nn
        unfold V_X10_add_147
        refine ⟨by omega, ih Fy ⟨by omega, by omega, ry, fun v0 z' p q => ?_⟩⟩
        by_cases w : z' = zi
        · rw [w]; exact nn v0
        · exact no v0 z' p (by omega)
      obtain ⟨z65, zr⟩ := kz.2.2.2.2.2.2.2 zi z0 (by omega)
      obtain ⟨-, -, zt⟩ := ci_zi ci zi z0 (by omega)
      refine R_X10_add_80 hsm ?_
      unfold V_X10_add_80
      refine ⟨fun y => absurd y (by omega), fun _ => ⟨fun q => next Fz rz (fun v0 => absurd v0 (by omega)), fun q => ⟨z0, by omega, fun q5 => next Fz rz (fun _ n => n.1 (by rw [q1, z65]; exact q5)), fun q5 => ?_⟩⟩⟩
      have q6 : ¬ F (22 + 2 * zi.toNat) 2 = 0 := by rw [z65]; exact q5
      obtain ⟨l1, l2, l3, l4, l5⟩ := zr q6
      obtain ⟨⟨t1, t2, t3, t4, t5, t6⟩, t7, t8⟩ := zt q6
      have rm := rs_tr rz (rs_met (F := Fz) (G := Gr) (z := zi) (x1 := x1) (y1 := y1) (x2 := x2) (y2 := y2))
      have km := kk_rs k rm
      have wm := km.1.2.1
      have hm := km.1.2.2.1
      refine ⟨by omega, ok_meets hsm z0 (by omega) ⟨rfl, _, rfl, fun q7 => next _ rm (fun v0 n => ?_), fun q7 => ?_⟩⟩
      · have nm := bI_0.mp q7
        have n2 := n.2.1
        unfold com at n2
        rw [q2', setR_0, setR_1, setR_2, setR_3, l2, l3, l4, l5] at n2
        by_cases w1 : max x1 (Gr 63 (4 * zi)) ≤ min x2 (Gr 63 (4 * zi + 2))
        · have : max 0 (min (Gr 63 (4 * zi + 3)) y2 - max (Gr 63 (4 * zi + 1)) y1 + 1) = 0 := by omega
          rw [this, Int.mul_zero, Int.zero_mul] at n2
          omega
        · have : max 0 (min (Gr 63 (4 * zi + 2)) x2 - max (Gr 63 (4 * zi)) x1 + 1) = 0 := by omega
          rw [this, Int.zero_mul, Int.zero_mul] at n2
          omega
      · have ym : max x1 (Gr 63 (4 * zi)) ≤ min x2 (Gr 63 (4 * zi + 2)) ∧ max y1 (Gr 63 (4 * zi + 1)) ≤ min y2 (Gr 63 (4 * zi + 3)) := Classical.byContradiction (fun z => q7 (bI_f z))
        have pz := pu_zoned (d := d - 1) (S := S') (by omega) hsm km.1.1 (kk_mba ci km) (kk_mt ci km) z0 (by omega) (by unfold MR; omega)
        have pcs := pu_mcells (d := d - 1) (S := S') (F := metF Fz Gr zi x1 y1 x2 y2) (G := Gr) hsm (by rw [met_24, met_26]; omega) (by rw [met_24, met_26]; omega) (by rw [met_25, met_27]; omega) (by rw [met_25, met_27]; omega)
        rw [met_24, met_25, met_26, met_27] at pcs
        rw [kk_aS km (by omega) (by omega) (by omega) (by omega) (by omega) (by omega)] at pz
        have ec : com (setR F 51 x1 y1 x2 y2) (22 + 2 * zi.toNat + 1) 51 = (min x2 (Gr 63 (4 * zi + 2)) - max x1 (Gr 63 (4 * zi)) + 1) * (min y2 (Gr 63 (4 * zi + 3)) - max y1 (Gr 63 (4 * zi + 1)) + 1) := by
          unfold com
          rw [q2', setR_0, setR_1, setR_2, setR_3, l2, l3, l4, l5]
          congr 1 <;> omega
        have ea : aR (setR F 51 x1 y1 x2 y2) (22 + 2 * zi.toNat + 1) (vu F G 18 (-1)) = aS (vu F G 18 (-1)) (Gr 63 (4 * zi)) (Gr 63 (4 * zi + 1)) (Gr 63 (4 * zi + 2)) (Gr 63 (4 * zi + 3)) := by
          unfold aR
          rw [q2', l2, l3, l4, l5]
        have cb := mul_bd (a := min x2 (Gr 63 (4 * zi + 2)) - max x1 (Gr 63 (4 * zi)) + 1) (b := min y2 (Gr 63 (4 * zi + 3)) - max y1 (Gr 63 (4 * zi + 1)) + 1) (A := 10000) (B := 10000) (by omega) (by omega) (by omega) (by omega)
        have cpos : 0 < (min x2 (Gr 63 (4 * zi + 2)) - max x1 (Gr 63 (4 * zi)) + 1) * (min y2 (Gr 63 (4 * zi + 3)) - max y1 (Gr 63 (4 * zi + 1)) + 1) := Int.mul_pos (by omega) (by omega)
        have zb := mv_le9 km.1.1 (kk_mba ci km) (kk_mt ci km) (g := -1) (x1 := Gr 63 (4 * zi)) (y1 := Gr 63 (4 * zi + 1)) (x2 := Gr 63 (4 * zi + 2)) (y2 := Gr 63 (4 * zi + 3)) (by omega) (by omega) (by omega) (by omega) (by omega) (by omega)
        rw [kk_aS km (by omega) (by omega) (by omega) (by omega) (by omega) (by omega)] at zb
        generalize hC : (min x2 (Gr 63 (4 * zi + 2)) - max x1 (Gr 63 (4 * zi)) + 1) * (min y2 (Gr 63 (4 * zi + 3)) - max y1 (Gr 63 (4 * zi + 1)) + 1) = C at *
        have cm2 := mul_bd (a := C) (b := v) (A := 100000000) (B := 1000000000) cb.1 cb.2 (by omega) vk.2.2
        have cvp : 0 < C * v := Int.mul_pos cpos (by omega)
        refine ⟨_, pz, _, pcs, by omega, by omega, fun q8 => next _ rm (fun _ n => ?_), fun q8 => ?_⟩
        · have := n.2.2
          rw [q1, ec, ea, l1] at this
          omega
        · refine ref (-9) _ (by decide) ?_ rm
          rw [if_neg (by omega), if_neg n7, if_pos] at hV
          · exact hV
          · exact ⟨zi, z0, by omega, by rw [q1]; exact q6, by rw [ec]; exact cvp, by rw [q1, ec, ea, l1]; omega⟩
    · rintro zi Fz ⟨z0, z1, rz, no⟩ hz5
      have kz := kk_rs k rz
      refine R_X10_add_80 hsm ?_
      unfold V_X10_add_80
      refine ⟨fun _ => ⟨by omega, by omega, by omega, by omega, ?_, ?_, fun x7 e7 => ?_⟩, fun y => absurd y (by omega)⟩
      · have : (x2 - x1 + 1) * (y2 - y1 + 1) = (x2 - x1 + 1) * (y2 - y1 + 1) := rfl
        omega
      · omega
      · have hV2 : adS F G g x1 y1 x2 y2 v = if 3000000000000000000 < Gr 59 g + x7 then -6 else 0 := by
          by_cases v0 : v < 0
          · rw [if_pos v0] at hV
            have : x7 ≤ 0 := by rw [e7]; exact Int.mul_nonpos_of_nonneg_of_nonpos cellp.1 (by omega)
            rw [hV, if_neg (by omega)]
          · have vp : 0 < v := Int.lt_iff_le_and_ne.mpr ⟨Int.not_lt.mp v0, Ne.symm vk.1⟩
            rw [if_neg v0, if_neg n7, if_neg (fun ⟨z', p, q, r⟩ => no vp z' p (by omega) r)] at hV
            rw [hV, aS_vu yg.1, ← e59, e7]
        refine ⟨yg.1, by omega, by omega, fun q8 => ?_, fun q8 => ?_⟩
        · rw [if_neg (by omega)] at hV2
          have hr := ha.2 hV2
          have nb4 : ∀ Fy Gy, KK F G Fy Gy → ∀ q : Int, (isB (me Fy Gy 0) (Gy 55 0) q ∨ (((q = x1 ∨ q = x2 + 1) ∨ (0 ≤ (-1 : Int) ∧ (q = -1 ∨ q = -1 + 1))) ∧ 0 < q ∧ q < msz Fy 0)) ↔ NB F G 4 (PAx x1 x2) q := by
            intro Fy Gy ky q
            rw [msz_0, ← ky.1.2.1, ← ky.1.2.2.2.1 q]
            constructor
            · rintro (u | ⟨u | u, u2⟩)
              · exact Or.inl u
              · exact Or.inr ⟨u, u2⟩
              · omega
            · rintro (u | u)
              · exact Or.inl u
              · exact Or.inr ⟨Or.inl u.1, u.2⟩
          have nb11 : ∀ Fy Gy, KK F G Fy Gy → ∀ q : Int, (isB (me Fy Gy 1) (Gy 55 1) q ∨ (((q = y1 ∨ q = y2 + 1) ∨ (0 ≤ (-1 : Int) ∧ (q = -1 ∨ q = -1 + 1))) ∧ 0 < q ∧ q < msz Fy 1)) ↔ NB F G 11 (PAx y1 y2) q := by
            intro Fy Gy ky q
            rw [msz_1, ← ky.1.2.2.1, ← ky.1.2.2.2.2 q]
            constructor
            · rintro (u | ⟨u | u, u2⟩)
              · exact Or.inl u
              · exact Or.inr ⟨u, u2⟩
              · omega
            · rintro (u | u)
              · exact Or.inl u
              · exact Or.inr ⟨Or.inl u.1, u.2⟩
          have wz := kz.1.2.1
          refine ⟨by omega, ok_hasRoom (by omega) hsm kz.1.1 (by omega) (by omega) r1 r2 (by rw [msz_0]; omega) (by rw [msz_0]; omega) (fun F14 G15 wn => ⟨rfl, _, rfl, fun q => ?_, fun q => ?_⟩)⟩
          · have nr := bI_0.mp q
            rw [wn_rgb wn, rgb_c (nb4 Fz Gr kz), msz_0, ← wz] at nr
            exact fin _ _ _ (hr.1 (fun n => nr n.1)) (rs_tr rz (rs_wn wn))
          · have yr4 : Gr 55 0 + F14 53 20 ≤ 48 := Classical.byContradiction (fun z => q (bI_f z))
            have rg4 := wn_rgb wn
            rw [rgb_c (nb4 Fz Gr kz), msz_0, ← wz] at rg4
            have r14 := rs_tr rz (rs_wn wn)
            have k14 := kk_rs k r14
            have w14 := k14.1.2.1
            have h14 := k14.1.2.2.1
            refine ok_hasRoom (by omega) hsm k14.1.1 (by omega) (by omega) r4 r5 (by rw [msz_1]; omega) (by rw [msz_1]; omega) (fun F19 G20 wn2 => ⟨rfl, _, rfl, fun q' => ?_, fun q' => ?_⟩)
            · have yr11 : G15 55 1 + F19 53 20 ≤ 48 := Classical.byContradiction (fun z => q' (bI_f z))
              have rg11 := wn_rgb wn2
              rw [rgb_c (nb11 F14 G15 k14), msz_1, ← h14] at rg11
              obtain ⟨ez, dn⟩ := hr.2 ⟨rg4.mp yr4, rg11.mp yr11⟩
              have r19 := rs_tr r14 (rs_wn wn2)
              have k19 := kk_rs k r19
              have w19 := k19.1.2.1
              have h19 := k19.1.2.2.1
              refine ok_acts hsm k19.1.1 (fun G25 c25 t66 => ⟨rfl, rfl, ?_⟩)
              have r25 := rs_tr r19 (rs_G (F := F19) (G := G20) (G' := G25) (fun c hc => c25 c (by omega)))
              have k25 := kk_rs k r25
              have rm0 : Rm F19 G25 0 (fun q => (q = x1 ∨ q = x2 + 1) ∨ (0 ≤ (-1 : Int) ∧ (q = -1 ∨ q = -1 + 1))) := rm_wn wn yr4 (by rw [← w19, wz]) (by rw [← h19, kz.1.2.2.1]) (by rw [r25.2.2 54 (by omega)]) (by rw [r25.2.2 55 (by omega)])
              have rm1 : Rm F19 G25 1 (fun q => (q = y1 ∨ q = y2 + 1) ∨ (0 ≤ (-1 : Int) ∧ (q = -1 ∨ q = -1 + 1))) := rm_wn wn2 yr11 (by rw [← w19, w14]) (by rw [← h19, h14]) (by rw [r25.2.2 54 (by omega), r14.2.2 54 (by omega)]) (by rw [r25.2.2 55 (by omega), r14.2.2 55 (by omega)])
              obtain ⟨tn, ⟨to0, to8⟩, td⟩ := kk_tell ci hb k25
              have lt := kk_lt ci k25
              refine ok_comesC (by omega) hsm lt to0 to8 (a := 0) (by omega) (by omega) (came_0 k25.1.1) rm0 (fun q hq => absurd hq id) (Or.inl (Or.inl rfl)) r1 (by rw [msz_0]; omega) (fun G29 cm1 => ⟨rfl, rfl, by omega, ?_⟩)
              refine ok_comesC (by omega) hsm lt to0 to8 (a := 0) (by omega) (by omega) cm1 rm0 (fun q hq => Or.inl (by rcases hq with hq | ⟨-, hq⟩; exact absurd hq id; exact Or.inl hq)) (Or.inl (Or.inr rfl)) (by omega) (by rw [msz_0]; omega) (fun G34 cm2 => ⟨rfl, rfl, ?_⟩)
              refine ok_comesC (by omega) hsm lt to0 to8 (a := 1) (by omega) (by omega) cm2 rm1 (fun q hq => by rcases hq with (hq | ⟨hq, -⟩) | ⟨hq, -⟩; exact absurd hq id; omega; omega) (Or.inl (Or.inl rfl)) r4 (by rw [msz_1]; omega) (fun G38 cm3 => ⟨rfl, rfl, by omega, ?_⟩)
              refine ok_comesC (by omega) hsm lt to0 to8 (a := 1) (by omega) (by omega) cm3 rm1 (fun q hq => by rcases hq with ((hq | ⟨hq, -⟩) | ⟨hq, -⟩) | ⟨-, hq⟩; exact absurd hq id; omega; omega; exact Or.inl (Or.inl hq)) (Or.inl (Or.inr rfl)) (by omega) (by rw [msz_1]; omega) (fun G43 cm4 => ⟨rfl, rfl, ?_⟩)
              have hx43 := cm4.2.1
              have vC25 : ∀ g' x y : Int, 0 ≤ g' → g' ≤ 2 → 0 ≤ x → x < F19 53 1 → 0 ≤ y → y < F19 53 2 → mC F19 G43 57 0 g' x y = vC F G 18 g' x y := fun g' x y g0' g1' x0 xw y0 yw => (cm4.2.2.2.1 g' x y g0' g1' x0 xw y0 yw).trans (k25.2.2.2.1 g' x y g0' g1' x0 (by omega) y0 (by omega)).symm
              refine add_loop (by omega) hsm hx43 yg.1 yg.2 ⟨r1, r2, by omega, r4, r5, by omega⟩ (fun i j i0 i1 j0 j1 => came_fld cm4 yg.1 yg.2 (fun x y x0 xw y0 yw => ?_) i0 i1 j0 j1) vk.2.1 vk.2.2 (fun G5 up => ?_)
              · rw [← k25.2.2.2.1 g x y yg.1 yg.2 x0 (by omega) y0 (by omega)]
                have := ci_vC ci yg.1 yg.2 x0 (by omega : x < F 4 2) y0 (by omega : y < F 11 2)
                exact ⟨this.1, this.2.1⟩
              · have s55 : G5 55 = G43 55 := up.1 55 (by decide)
                have s54 : G5 54 = G43 54 := up.1 54 (by decide)
                have s59 : G5 59 = Gr 59 := by rw [up.1 59 (by decide), cm4.1 59 (by decide) (by decide) (by decide) (by decide) (by decide), r25.2.2 59 (by omega)]
                unfold V_X10_add_259
                rw [s55, s59]
                refine ⟨fun _ => ⟨yg.1, by omega, by omega, fun G6 e6 => ⟨by omega, ?_⟩⟩, fun y => absurd (Int.le_refl _) y⟩
                have g6 : ∀ c : Nat, c ≠ 57 → c ≠ 59 → G6 c = G43 c := fun c h1 h2 => by rw [e6, gu_row h2]; exact up.1 c h1
                have g57 : G6 57 = G5 57 := by rw [e6, gu_row (by decide)]
                have tn' : 0 ≤ F19 53 14 ∧ F19 53 14 ≤ 40 := tn
                refine ok_tells hsm tn'.1 tn'.2 to0 to8 (fun j j0 j1 => ?_) (fun F8 G9 tq => ⟨rfl, rfl, ?_⟩)
                · rw [g6 61 (by decide) (by decide), cm4.1 61 (by decide) (by decide) (by decide) (by decide) (by decide)]
                  exact td j j0 j1
                · have rd := rd_mk (g := g) (al := Gr 59 g + x7) (T := tAdd F G g x1 y1 x2 y2 v) r19 c25 t66 cm4 (fun c h1 h2 _ => g6 c h1 h2) (fun g' x y g0' g1' x0 xw y0 yw => ?_) (fun g' g0' g1' => ?_) tq
                  · have e59' : G9 59 g = Gr 59 g + x7 := by
                      have := rd.2.2.2.2.2.2.2.2.2.1 g yg.1 yg.2
                      rw [if_pos rfl] at this
                      exact this
                    have hal : Gr 59 g + x7 = aS (tAdd F G g x1 y1 x2 y2 v) 0 0 (F 4 2 - 1) (F 11 2 - 1) := by rw [aS_tAdd yr, e59, e7]
                    rw [e59', hal, ← ez]
                    refine hq F8 G9 (kk_done hc k dn rd yg.1 yg.2 (fun _ _ _ _ _ _ => rfl) (fun q q0 q1 => ?_) (fun q q0 q1 => ?_) hal) (rfr_rd rd)
                    · constructor
                      · rintro (u | u)
                        · exact Or.inl (Or.inl (Or.inl (Or.inr ⟨rfl, u⟩)))
                        · exact Or.inl (Or.inl (Or.inr ⟨rfl, u⟩))
                      · rintro ((((u | ⟨-, u⟩) | ⟨-, u⟩) | ⟨u, -⟩) | ⟨u, -⟩)
                        · exact absurd u id
                        · exact Or.inl u
                        · exact Or.inr u
                        · omega
                        · omega
                    · constructor
                      · rintro (u | u)
                        · exact Or.inl (Or.inr ⟨rfl, u⟩)
                        · exact Or.inr ⟨rfl, u⟩
                      · rintro ((((u | ⟨u, -⟩) | ⟨u, -⟩) | ⟨-, u⟩) | ⟨-, u⟩)
                        · exact absurd u id
                        · omega
                        · omega
                        · exact Or.inl u
                        · exact Or.inr u
                  · rw [mC_gu (by rw [g6 54 (by decide) (by decide), s54]) (by rw [g6 55 (by decide) (by decide), s55]) g57]
                    obtain ⟨u1, u2, u3⟩ := mc_upd hx43 yg.1 yg.2 up g0' g1' x0 xw y0 yw
                    by_cases eg : g' = g
                    · rw [if_pos eg]
                      have bx := mb_spec hx43 (a := 0) (p := x) (by omega) (by omega) x0 (by rw [msz_0]; exact xw)
                      have by' := mb_spec hx43 (a := 1) (p := y) (by omega) (by omega) y0 (by rw [msz_1]; exact yw)
                      have dx1 := came_d cm4 (a := 0) (q := x1) (by omega) (by omega) r1 (by rw [msz_0]; omega) (Or.inl (Or.inl (Or.inl (Or.inr ⟨rfl, rfl⟩))))
                      have dx2 := came_d cm4 (a := 0) (q := x2 + 1) (by omega) (by omega) (by omega) (by rw [msz_0]; omega) (Or.inl (Or.inl (Or.inr ⟨rfl, rfl⟩)))
                      have dy1 := came_d cm4 (a := 1) (q := y1) (by omega) (by omega) r4 (by rw [msz_1]; omega) (Or.inl (Or.inr ⟨rfl, rfl⟩))
                      have dy2 := came_d cm4 (a := 1) (q := y2 + 1) (by omega) (by omega) (by omega) (by rw [msz_1]; omega) (Or.inr ⟨rfl, rfl⟩)
                      have ox := ov_cellD (sq_x hx43) dx1 dx2 r1 r2 (by omega) x0 xw
                      have oy := ov_cellD (sq_y hx43) dy1 dy2 r4 r5 (by omega) y0 yw
                      have old := vC25 g x y yg.1 yg.2 x0 xw y0 yw
                      by_cases ir : inR x1 y1 x2 y2 x y
                      · rw [u1 eg ⟨bx.2.1, by'.2.1, ox.mpr ⟨ir.1, ir.2.1⟩, oy.mpr ⟨ir.2.2.1, ir.2.2.2⟩⟩]
                        unfold tAdd
                        rw [if_pos ir, ← old]
                        congr 1
                        unfold mC cv mb
                        dsimp only
                        congr 1
                        omega
                      · rw [u2 eg (fun n => ir ⟨(ox.mp n.2.2.1).1, (ox.mp n.2.2.1).2, (oy.mp n.2.2.2).1, (oy.mp n.2.2.2).2⟩)]
                        unfold tAdd
                        rw [if_neg ir, eg]
                        exact old
                    · rw [if_neg eg]
                      exact u3 eg
                  · rw [e6, cm4.1 59 (by decide) (by decide) (by decide) (by decide) (by decide), r25.2.2 59 (by omega)]
                    by_cases eg : g' = g
                    · rw [if_pos eg, eg, gu_s]
                    · rw [if_neg eg, gu_i eg, s59]
            · have nr := bI_0.mp q'
              rw [wn_rgb wn2, rgb_c (nb11 F14 G15 k14), msz_1, ← h14] at nr
              exact fin _ _ _ (hr.1 (fun n => nr n.2)) (rs_tr r14 (rs_wn wn2))
        · rw [if_pos (by omega)] at hV2
          exact ref (-6) _ (by decide) hV2 rz
  · by_cases c5 : ∃ x y : Int, inR x1 y1 x2 y2 x y ∧ mv F0 Gr g x y + v < 0
    · have e1 : brk F0 Gr g x1 y1 x2 y2 v = -5 := by
        simp only [brk]
        rw [if_pos c5]
      rw [if_pos (m5.mp c5)] at hV
      rw [e1]
      exact ref (-5) _ (by decide) hV rs0
    · by_cases c7 : ∃ x y : Int, inR x1 y1 x2 y2 x y ∧ F0 53 3 < mv F0 Gr (-1) x y + v
      · have e1 : brk F0 Gr g x1 y1 x2 y2 v = -7 := by
          simp only [brk]
          rw [if_neg c5, if_pos c7]
        rw [if_neg (fun n => c5 (m5.mpr n)), if_neg (fun n => p7 n (m7.mp c7)), if_pos (m7.mp c7)] at hV
        rw [e1]
        exact ref (-7) _ (by decide) hV rs0
      · exfalso
        apply bz
        simp only [brk]
        rw [if_neg c5, if_neg c7]
end
