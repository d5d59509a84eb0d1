section
/-! THE REFERENCE'S LEVEL, TIED TO THE SYSTEM'S -/
theorem lv_fill {d : Nat} {S : AS} {F : AF} {G : AG} (hd : 3 ≤ d) (hsm : ShM S) (hx : MX F G) {g x1 y1 x2 y2 a6 a8 e a12 X0 Y0 : Int} {f : Int → Int → Int} (g0 : 0 ≤ g) (g1 : g ≤ 2) (e0 : 0 ≤ e) (e1 : e ≤ 1000000000000) {Q : AQ} (hq : ∀ G', Upd G G' 57 (2304 * g) (fun i j => (i < G 55 0 ∧ j < G 55 1) ∧ inR x1 y1 x2 y2 (me F G 0 i) (me F G 1 j)) (fun i j => tLev f x1 y1 x2 y2 e X0 Y0 (me F G 0 i) (me F G 1 j)) → V_X10_level_483 d S F G' Q g x1 y1 x2 y2 a6 a8 e a12 X0 Y0 (G 55 0)) : Go d MX10_level 483 [some (vR 53), some (vI g), some (vI x1), some (vI y1), some (vI x2), some (vI y2), some (vJ a6), none, some (vJ a8), none, some (vJ e), none, some (vJ a12), none, some (vI X0), some (vI Y0), some (vI 0), none, none, none] [] S F G Q := by
  have n1 := (hx 0 (by omega) (by omega)).2.1
  have n2 := (hx 1 (by omega) (by omega)).2.1
  have n0 := (hx 0 (by omega) (by omega)).1
  have s57 : (sN S 57 : Int) = 6912 := by rw [shm_n hsm 57 (by decide) (by decide)]; rfl
  refine up_ind (α := AG) (G 55 0 - 1) (fun i G1 => 0 ≤ i ∧ i ≤ G 55 0 ∧ Upd G G1 57 (2304 * g) (fun a b => (a < i ∧ b < G 55 1) ∧ inR x1 y1 x2 y2 (me F G 0 a) (me F G 1 b)) (fun i j => tLev f x1 y1 x2 y2 e X0 Y0 (me F G 0 i) (me F G 1 j))) (fun i G1 => Go d MX10_level 483 [some (vR 53), some (vI g), some (vI x1), some (vI y1), some (vI x2), some (vI y2), some (vJ a6), none, some (vJ a8), none, some (vJ e), none, some (vJ a12), none, some (vI X0), some (vI Y0), some (vI i), none, none, none] [] S F G1 Q) ?_ ?_ 0 G ⟨by omega, by omega, upd_0 (fun i j i0 _ _ _ y => by have := y.1; omega)⟩
  · rintro i G1 ⟨i0, i1, u⟩ hi ih
    have t55 : G1 55 = G 55 := u.1 55 (by decide)
    refine R_X10_level_483 hsm ?_
    unfold V_X10_level_483
    rw [t55]
    refine ⟨fun y => absurd y (by omega), fun _ => ?_⟩
    refine up_ind (α := AG) (G 55 1 - 1) (fun j G2 => 0 ≤ j ∧ Upd G G2 57 (2304 * g) (fun a b => ((a < i ∨ (a = i ∧ b < j)) ∧ b < G 55 1) ∧ inR x1 y1 x2 y2 (me F G 0 a) (me F G 1 b)) (fun i j => tLev f x1 y1 x2 y2 e X0 Y0 (me F G 0 i) (me F G 1 j))) (fun j G2 => Go d MX10_level 497 [some (vR 53), some (vI g), some (vI x1), some (vI y1), some (vI x2), some (vI y2), some (vJ a6), none, some (vJ a8), none, some (vJ e), none, some (vJ a12), none, some (vI X0), some (vI Y0), some (vI i), some (vI j), none, none] [] S F G2 Q) ?_ ?_ 0 G1 ⟨by omega, upd_c u (fun a b _ _ _ _ => ⟨fun y => ⟨⟨Or.inl y.1.1, y.1.2⟩, y.2⟩, fun y => ⟨⟨by have := y.1.1; omega, y.1.2⟩, y.2⟩⟩)⟩
    · rintro j G2 ⟨j0, u2⟩ hj ih2
      have s55 : G2 55 = G 55 := u2.1 55 (by decide)
      have s54 : G2 54 = G 54 := u2.1 54 (by decide)
      have hx2 : MX F G2 := mx_cg rfl rfl s54 s55 hx
      have em := fun a => me_cg (F := F) (F' := F) (G := G) (G' := G2) rfl rfl s54 s55 a
      have p0 := pu_edgeAt (d := d - 1) (S := S) (by omega) hsm hx2 (a := 0) (i := i) (by omega) (by omega) i0 (by rw [s55]; omega)
      have p1 := pu_edgeAt (d := d - 1) (S := S) (by omega) hsm hx2 (a := 1) (i := j) (by omega) (by omega) j0 (by rw [s55]; omega)
      rw [em] at p0 p1
      have fin : ∀ (G3 : AG) (X Y : Int), Upd G G3 57 (2304 * g) (fun a b => ((a < i ∨ (a = i ∧ b < j + 1)) ∧ b < G 55 1) ∧ inR x1 y1 x2 y2 (me F G 0 a) (me F G 1 b)) (fun i j => tLev f x1 y1 x2 y2 e X0 Y0 (me F G 0 i) (me F G 1 j)) → V_X10_level_584 d S F G3 Q g x1 y1 x2 y2 a6 a8 e a12 X0 Y0 i j X Y := by
        intro G3 X Y u3
        unfold V_X10_level_584
        exact ⟨by omega, ih2 G3 ⟨by omega, u3⟩⟩
      refine R_X10_level_497 hsm ?_
      unfold V_X10_level_497
      rw [s55]
      refine ⟨fun y => absurd y (by omega), fun _ => ⟨by omega, _, p0, _, p1, _, pu_isInside hsm _ _ _ _ _ _, fun q => fin G2 _ _ (upd_c u2 (fun a b _ _ _ _ => ⟨fun z => ⟨⟨by have := z.1.1; omega, z.1.2⟩, z.2⟩, fun z => ⟨⟨?_, z.1.2⟩, z.2⟩⟩)), fun q => ?_⟩⟩
      · by_cases e : a = i ∧ b = j
        · obtain ⟨rfl, rfl⟩ := e
          exact absurd z.2 (bI_0.mp q)
        · have := z.1.1
          omega
      · have yi : x1 ≤ me F G 0 i ∧ me F G 0 i ≤ x2 ∧ y1 ≤ me F G 1 j ∧ me F G 1 j ≤ y2 := Classical.byContradiction (fun z => q (bI_f z))
        have wr : ∀ s0 : Int, s0 = upTo X0 Y0 (me F G 0 i) (me F G 1 j) → V_X10_level_582 d S F G2 Q g x1 y1 x2 y2 a6 a8 e a12 X0 Y0 i j (me F G 0 i) (me F G 1 j) s0 e (2304 * g + 48 * j + i) 57 := by
          intro s0 es
          have ub := upTo_in X0 Y0 (me F G 0 i) (me F G 1 j)
          have eT : tLev f x1 y1 x2 y2 e X0 Y0 (me F G 0 i) (me F G 1 j) = e + s0 := by
            unfold tLev
            rw [if_pos yi, es]
          unfold V_X10_level_582
          refine ⟨by omega, by omega, by omega, fun G4 e4 => fin G4 _ _ (upd_s (i := i) (j := j) u2 i0 (by omega) j0 (by omega) (by rw [e4, eT]) rfl (fun a b => ⟨fun z => ?_, fun z => ?_⟩))⟩
          · by_cases e : a = i ∧ b = j
            · exact Or.inr e
            · exact Or.inl ⟨⟨by have := z.1.1; omega, z.1.2⟩, z.2⟩
          · rcases z with z | ⟨z1, z2⟩
            · exact ⟨⟨by have := z.1.1; omega, z.1.2⟩, z.2⟩
            · subst z1 z2
              exact ⟨⟨by omega, by omega⟩, yi⟩
        have f1 : me F G 1 j < Y0 ∨ (me F G 1 j = Y0 ∧ me F G 0 i ≤ X0) → V_X10_level_577 d S F G2 Q g x1 y1 x2 y2 a6 a8 e a12 X0 Y0 i j (me F G 0 i) (me F G 1 j) e (2304 * g + 48 * j + i) 57 := by
          intro z
          unfold V_X10_level_577
          exact wr 1 (by unfold upTo; rw [if_pos z])
        have f0 : ¬ (me F G 1 j < Y0 ∨ (me F G 1 j = Y0 ∧ me F G 0 i ≤ X0)) → V_X10_level_581 d S F G2 Q g x1 y1 x2 y2 a6 a8 e a12 X0 Y0 i j (me F G 0 i) (me F G 1 j) e (2304 * g + 48 * j + i) 57 := by
          intro z
          unfold V_X10_level_581
          exact wr 0 (by unfold upTo; rw [if_neg z])
        exact ⟨_, pu_slot hsm g0 g1 i0 (by omega) j0 (by omega), fun z => f1 (Or.inl z), fun z => ⟨fun z2 => f0 (by omega), fun z2 => ⟨fun z3 => f0 (by omega), fun z3 => f1 (Or.inr ⟨z2, by omega⟩)⟩⟩⟩
    · rintro j G2 ⟨j0, u2⟩ hj
      have s55 : G2 55 = G 55 := u2.1 55 (by decide)
      refine R_X10_level_497 hsm ?_
      unfold V_X10_level_497
      rw [s55]
      refine ⟨fun _ => ⟨by omega, ih G2 ⟨by omega, by omega, upd_c u2 (fun a b _ _ _ _ => ⟨fun z => ⟨⟨by have := z.1.1; have := z.1.2; omega, z.1.2⟩, z.2⟩, fun z => ⟨⟨by have := z.1.1; have := z.1.2; omega, z.1.2⟩, z.2⟩⟩)⟩⟩, fun y => absurd y (by omega)⟩
  · rintro i G1 ⟨i0, i1, u⟩ hi
    have e : i = G 55 0 := by omega
    subst e
    exact R_X10_level_483 hsm (hq G1 u)
theorem cr_level {d : Nat} {S S' : AS} {F F1 Fr : AF} {G G1 Gr : AG} {b : Int} (hd : 7 ≤ d) (hsm : ShM S') (ci : CI S F G b) (hb : b ≤ 1000000) (k : KK F G Fr Gr) {g x1 y1 x2 y2 z : Int} (a : LevS F F1 G G1 g x1 y1 x2 y2 z) {Q : AQ} (hq : ∀ F2 G2, KK F1 G1 F2 G2 → RFr Fr F2 Gr G2 → Q (some (vJ z)) S' F2 G2) : Ok d MX10_level [vR 53, vI g, vI x1, vI y1, vI x2, vI y2] S' Fr Gr Q := by
  have fin : ∀ zz F2 G2, (z = zz ∧ SS F F1 G G1) → RS Fr F2 Gr G2 → Q (some (vJ zz)) S' F2 G2 := fun zz F2 G2 e r => e.1 ▸ hq F2 G2 (kk_ss (kk_rs k r) e.2) (rfr_rs r)
  have hc := ci.2.1
  have c4 := hc.1.2.2.2.1
  have c11 := hc.2.1.2.2.2.1
  refine ok_go rfl (by decide) (Nat.le_of_ble_eq_true rfl) (R_X10_level_0 hsm ?_)
  unfold V_X10_level_0
  intro F0 e0
  have rs0 : RS Fr F0 Gr Gr := by rw [e0]; exact rs_fu (Or.inl rfl)
  have k0 := kk_rs k rs0
  have hx := k0.1.1
  have eW := k0.1.2.1
  have eH := k0.1.2.2.1
  refine ⟨by omega, _, pu_isGood (by omega) hsm g, fun y => fin _ _ _ (a.1 (fun n => bI_0.mp y n.1)) rs0, fun y => ⟨_, pu_isRectangle hsm _ _ _ _, fun q2 => ?_, fun q2 => fin _ _ _ (a.1 (fun n => bI_0.mp q2 (by rw [← eW, ← eH]; exact n.2))) rs0⟩⟩
  have yg : 0 ≤ g ∧ g ≤ 2 := Classical.byContradiction (fun z => y (bI_f z))
  have yr : recS F x1 y1 x2 y2 := Classical.byContradiction (fun z => q2 (bI_f (by rw [← eW, ← eH]; exact z)))
  obtain ⟨r1, r2, r3, r4, r5, r6⟩ := id yr
  have hs := a.2 ⟨yg, yr⟩ _ _ _ _ rfl rfl rfl rfl
  obtain ⟨u0, u1, m1, m2, e0', e1', o0, o1, dm⟩ := lev_div ci yg.1 yg.2 yr
  have at' := lv_at' r2 r5 o0 o1
  have totW := aS_tLevW ci yg.1 yg.2 yr rfl rfl rfl rfl
  have ps := pu_msum (d := d - 1) (S := S') (by omega) hsm hx (kk_mba ci k0) (kk_mt ci k0) (g := g) (x1 := x1) (y1 := y1) (x2 := x2) (y2 := y2) (by omega) yg.2 r1 (by omega) r4 (by omega) (by omega) (by omega) (by omega) (by omega)
  rw [kk_aS k0 (by omega) yg.2 r1 r3 r4 r6, aS_vu yg.1] at ps
  refine ⟨by omega, by omega, by omega, by omega, ?_, fun x20 e20 => ⟨_, ps, ?_⟩⟩
  · have : (x2 - x1 + 1) * (y2 - y1 + 1) = (x2 - x1 + 1) * (y2 - y1 + 1) := rfl
    omega
  have e20' : x20 = (x2 - x1 + 1) * (y2 - y1 + 1) := e20
  clear e20
  rw [← e20'] at hs m1 m2 e0' e1' o0 o1 dm at' totW
  refine ⟨by omega, ?_, fun x29 e29 => ⟨?_, fun x31 e31 => ?_⟩⟩
  · rw [tdiv_pos u0]; omega
  · rw [tmod_pos u0]; omega
  rw [tdiv_pos u0] at e29
  rw [tmod_pos u0] at e31
  rw [← e31] at hs o0 o1 dm at' totW
  rw [← e29] at hs e0' e1' dm totW
  generalize hU : aS (vC F G 18 g) x1 y1 x2 y2 = U at *
  generalize hX : lX x1 x2 x31 = X at *
  generalize hY : lY x1 y1 x2 x31 = Y at *
  have totc : aS (vC F G 18 g) 0 0 (F 4 2 - 1) (F 11 2 - 1) ≤ 3000000000000000000 := ci.2.2.2.2.1.2 g yg.1 yg.2
  have bX : -1 ≤ X ∧ X ≤ 10000 ∧ 0 ≤ Y ∧ Y ≤ 10000 := by
    by_cases z : x31 = 0
    · have := at'.1 z
      omega
    · obtain ⟨p1, p2, p3, p4, -⟩ := at'.2 (by omega)
      omega
  -- behind both plans
  have l195 : ∀ (F14 : AF) (G15 : AG) (m : Int) (P0 : Int → Prop) (G25 G29 : AG) (c : Int), Wn F0 F14 Gr G15 0 m P0 → m ≤ 63 → (∀ q : Int, 0 < q → q < F 4 2 → (P0 q ↔ PLx x1 x2 x31 X q)) → Gr 55 0 + F14 53 20 ≤ 48 → Thn G15 G25 0 (Gr 55 0 + F14 53 20) (fun q => isB (me F0 Gr 0) (Gr 55 0) q ∨ (P0 q ∧ 0 < q ∧ q < msz F0 0)) → (∀ c : Nat, c ≠ 71 → G29 c = G25 c) → (∀ j : Int, 0 ≤ j → j < F14 53 20 → G29 71 j = G25 67 j) → RgB (NB F G 4 (PLx x1 x2 x31 X)) (F 4 2) → c < F 11 2 → (∀ q : Int, 0 < q → ((q = y1 ∨ q = y2 + 1) ∨ (0 ≤ c ∧ (q = c ∨ q = c + 1)) ↔ PLy y1 y2 x31 Y q)) → V_X10_level_195 d S' (fu F14 53 32 (F14 53 20)) G29 Q g x1 y1 x2 y2 x20 U x29 x31 X Y c y2 y1 1 := by
    intro F14 G15 m P0 G25 G29 c wn hm eP yr4 th kp kp2 rg4 cw eR
    have r14 := rs_tr rs0 (rs_wn wn)
    have r29 : RS Fr (fu F14 53 32 (F14 53 20)) Gr G29 := rs_tr r14 (rs_tr (rs_thn th) (rs_tr (rs_fu (Or.inr (Or.inr rfl))) (rs_G (fun c hc => kp c (by omega)))))
    have k29 := kk_rs k r29
    have w29 := k29.1.2.1
    have h29 := k29.1.2.2.1
    unfold V_X10_level_195
    refine ⟨by omega, ok_wantsAll (by omega) hsm k29.1.1 (by omega) (by omega) r4 r5 (by rw [msz_1]; omega) (by rw [msz_1]; omega) (fun F32 G33 wn2 => ⟨rfl, rfl, _, wn_room k29.1.1 wn2 hsm (by omega) (by omega) (by omega), fun q' => ?_, fun q' => ?_⟩)⟩
    · have yr11 : G29 55 1 + F32 53 20 ≤ 48 := Classical.byContradiction (fun z => q' (bI_f z))
      have rg11 := wn_rgb wn2
      rw [rgb_c (fun q => by
        rw [msz_1, ← h29, ← k29.1.2.2.2.2 q]
        exact ⟨fun z => z.imp id (fun y => ⟨(eR q y.2.1).mp y.1, y.2⟩), fun z => z.imp id (fun y => ⟨(eR q y.2.1).mpr y.1, y.2⟩)⟩ : ∀ q : Int, (isB (me (fu F14 53 32 (F14 53 20)) G29 1) (G29 55 1) q ∨ (((q = y1 ∨ q = y2 + 1) ∨ (0 ≤ c ∧ (q = c ∨ q = c + 1))) ∧ 0 < q ∧ q < msz (fu F14 53 32 (F14 53 20)) 1)) ↔ NB F G 11 (PLy y1 y2 x31 Y) q), msz_1, ← h29] at rg11
      obtain ⟨cst, hno, hdo⟩ := hs.2 ⟨rg4, rg11.mp yr11⟩
      refine ok_laysThen hsm k29.1.1 (by omega) (by omega) wn2 (by omega) yr11 (fun G43 th2 => ⟨rfl, rfl, ?_⟩)
      obtain ⟨ts, r43'⟩ := th_mk k0 eP (fun q q0 _ => eR q q0) (by omega) (by omega) wn yr4 th kp kp2 rfl wn2 yr11 th2
      have r43 := rs_tr rs0 r43'
      have k43 := kk_rs k r43
      refine lv_check (by omega) hsm ci k43 yg.1 yg.2 yr e0' e1' ts cst (fun nC => ?_) (fun yC => fin _ _ _ (by have := hno (by rw [tR_7 yC]; decide); rw [tR_7 yC] at this; exact this) r43)
      refine lv_zones (by omega) hsm ci k43 yg.1 yg.2 yr e0' (by rw [← e20']; omega) bX.1 bX.2.1 bX.2.2.1 bX.2.2.2 (by rw [totW]; exact totc) (fun nL Fy my => ?_) (fun yL Fy my => fin _ _ _ (by have := hno (by rw [tR_9 nC yL]; decide); rw [tR_9 nC yL] at this; exact this) (rs_tr r43 (mt_rs my)))
      obtain ⟨ez, dn⟩ := hdo (tR_n nC nL)
      have ry := rs_tr r43 (mt_rs my (G := G43))
      have ky := kk_rs k ry
      have wy := ky.1.2.1
      have hy := ky.1.2.2.1
      have ts' := th_mt ts my
      unfold V_X10_level_359
      refine ⟨fun _ => ⟨by omega, ok_thAcross (by omega) hsm ci hb ky ts' (fun G5 G6 c5 t66 cm0 => ⟨rfl, rfl, ok_thAll (by omega) hsm ci hb ky ts' c5 cm0 (fun G7 cm => ⟨rfl, rfl, ?_⟩)⟩)⟩, fun y => absurd (Int.le_refl 6) y⟩
      have r5' := rs_tr ry (rs_G (F := Fy) (G := G43) (G' := G5) (fun c hc => c5 c (by omega)))
      have k5 := kk_rs k r5'
      have hx7 := cm.2.1
      obtain ⟨tn, ⟨to0, to8⟩, td⟩ := kk_tell ci hb k5
      refine lv_fill (f := vC F G 18 g) (by omega) hsm hx7 yg.1 yg.2 e0' e1' (fun G9 u9 => ?_)
      have e55 : G9 55 = G7 55 := u9.1 55 (by decide)
      unfold V_X10_level_483
      rw [e55]
      refine ⟨fun _ => ⟨by omega, ok_tells hsm tn.1 tn.2 to0 to8 (fun j j0 j1 => ?_) (fun F8 G10 tq => ⟨rfl, rfl, ?_⟩)⟩, fun y => absurd (Int.le_refl _) y⟩
      · rw [u9.1 61 (by decide), cm.1 61 (by decide) (by decide) (by decide) (by decide) (by decide)]
        exact td j j0 j1
      · have rd := rd_mk (g := g) (al := Gr 59 g) (T := tLev (vC F G 18 g) x1 y1 x2 y2 x29 X Y) ry c5 t66 cm (fun c h1 _ _ => u9.1 c h1) (fun g' x y g0' g1' x0 xw y0 yw => fill_cells k5 cm cst yg.1 yg.2 u9 (fun i j i0 i1 j0 j1 n => ?_) g0' g1' x0 xw y0 yw) (fun g' g0' g1' => ?_) tq
        · have e59 := k.2.2.2.2.1 g yg.1 yg.2
          have hal : Gr 59 g = aS (tLev (vC F G 18 g) x1 y1 x2 y2 x29 X Y) 0 0 (F 4 2 - 1) (F 11 2 - 1) := by rw [totW, e59]
          rw [← ez]
          exact hq F8 G10 (kk_done hc k dn rd yg.1 yg.2 (fun _ _ _ _ _ _ => rfl) (fun q _ _ => p2_0.symm) (fun q _ _ => p2_1.symm) hal) (rfr_rd rd)
        · unfold tLev
          rw [if_neg (fun z => n ⟨⟨i1, j1⟩, z⟩)]
        · rw [u9.1 59 (by decide), cm.1 59 (by decide) (by decide) (by decide) (by decide) (by decide), r5'.2.2 59 (by omega)]
          by_cases eg : g' = g
          · rw [if_pos eg, eg]
          · rw [if_neg eg]
    · have nr := bI_0.mp q'
      have rg11 := wn_rgb wn2
      rw [rgb_c (fun q => by
        rw [msz_1, ← h29, ← k29.1.2.2.2.2 q]
        exact ⟨fun z => z.imp id (fun y => ⟨(eR q y.2.1).mp y.1, y.2⟩), fun z => z.imp id (fun y => ⟨(eR q y.2.1).mpr y.1, y.2⟩)⟩ : ∀ q : Int, (isB (me (fu F14 53 32 (F14 53 20)) G29 1) (G29 55 1) q ∨ (((q = y1 ∨ q = y2 + 1) ∨ (0 ≤ c ∧ (q = c ∨ q = c + 1))) ∧ 0 < q ∧ q < msz (fu F14 53 32 (F14 53 20)) 1)) ↔ NB F G 11 (PLy y1 y2 x31 Y) q), msz_1, ← h29] at rg11
      exact fin _ _ _ (hs.1 (fun n => nr (rg11.mpr n.2))) (rs_tr r29 (rs_wn wn2))
  have l156 : ∀ (F14 : AF) (G15 : AG) (m : Int) (P0 : Int → Prop), Wn F0 F14 Gr G15 0 m P0 → m ≤ 63 → (∀ q : Int, 0 < q → q < F 4 2 → (P0 q ↔ PLx x1 x2 x31 X q)) → V_X10_level_156 d S' F14 G15 Q g x1 y1 x2 y2 x20 U x29 x31 X Y := by
    intro F14 G15 m P0 wn hm eP
    have rg4 := wn_rgb wn
    rw [rgb_c (fun q => by
      rw [msz_0, ← eW, ← k0.1.2.2.2.1 q]
      exact ⟨fun z => z.imp id (fun y => ⟨(eP q y.2.1 y.2.2).mp y.1, y.2⟩), fun z => z.imp id (fun y => ⟨(eP q y.2.1 y.2.2).mpr y.1, y.2⟩)⟩ : ∀ q : Int, (isB (me F0 Gr 0) (Gr 55 0) q ∨ (P0 q ∧ 0 < q ∧ q < msz F0 0)) ↔ NB F G 4 (PLx x1 x2 x31 X) q), msz_0, ← eW] at rg4
    unfold V_X10_level_156
    refine ⟨by omega, _, wn_room hx wn hsm (by omega) (by omega) (by omega), fun q => ?_, fun q => ?_⟩
    · have yr4 : Gr 55 0 + F14 53 20 ≤ 48 := Classical.byContradiction (fun z => q (bI_f z))
      refine ok_laysThen hsm hx (by omega) (by omega) wn (by omega) yr4 (fun G25 th => ⟨rfl, rfl, ?_⟩)
      have w20 := wn.2.2.2.1
      have w20' := wn.2.2.2.2.1
      refine ok_keepsAcross hsm w20 (by omega) (fun G29 kp kp2 => ⟨rfl, rfl, fun z => ?_, fun z => ?_⟩)
      · exact l195 F14 G15 m P0 G25 G29 (-1) wn hm eP yr4 th kp kp2 (rg4.mp yr4) (by omega) (fun q q0 => by omega)
      · obtain ⟨p1, p2, p3, p4, -⟩ := at'.2 (by omega)
        exact l195 F14 G15 m P0 G25 G29 Y wn hm eP yr4 th kp kp2 (rg4.mp yr4) (by omega) (fun q q0 => by omega)
    · have nr := bI_0.mp q
      exact fin _ _ _ (hs.1 (fun n => nr (rg4.mpr n.1))) (rs_tr rs0 (rs_wn wn))
  have l129 : V_X10_level_129 d S' F0 Gr Q g x1 y1 x2 y2 x20 U x29 x31 X Y := by
    unfold V_X10_level_129
    refine ⟨by omega, ok_wantsAll (by omega) hsm hx (by omega) (by omega) r1 r2 (by rw [msz_0]; omega) (by rw [msz_0]; omega) (fun F14 G15 wn => ⟨rfl, rfl, fun q => ?_, fun q => ?_⟩)⟩
    · exact l156 F14 G15 4 _ wn (by omega) (fun q q0 q1 => by omega)
    · obtain ⟨p1, p2, p3, p4, -⟩ := at'.2 (by omega)
      refine ⟨by omega, ok_wants (by omega) hsm hx (by omega) (by omega) wn (by omega) (by omega) (by rw [msz_0]; omega) (fun F9 G10 wn' => ⟨rfl, rfl, l156 F9 G10 _ _ wn' (by omega) (fun q q0 q1 => ?_)⟩)⟩
      omega
  have l101 : ∀ xx : Int, xx = X → V_X10_level_101 d S' F0 Gr Q g x1 y1 x2 y2 x20 U x29 x31 xx := by
    intro xx exx
    subst exx
    unfold V_X10_level_101
    refine ⟨fun q => ?_, fun q => ?_⟩
    · obtain ⟨p1, p2, p3, p4, p5, p6, p7, p8, p9, p10⟩ := at'.2 (by omega)
      rw [tdiv_pos (by omega)]
      have e2 : y1 + (x31 - 1) / (x2 - x1 + 1) = Y := by omega
      rw [e2]
      exact ⟨by omega, by omega, by omega, by omega, by omega, by omega, by omega, l129⟩
    · have := at'.1 q
      have e2 : y1 = Y := by omega
      have l := l129
      rw [← e2] at l
      exact l
  refine ⟨fun q => ?_, fun q => ?_⟩
  · obtain ⟨p1, p2, p3, p4, p5, p6, p7, p8, p9, p10⟩ := at'.2 (by omega)
    rw [tdiv_pos (by omega), tmod_pos (by omega)]
    exact ⟨by omega, by omega, by omega, by omega, by omega, by omega, by omega, l101 _ (by omega)⟩
  · have := at'.1 q
    exact ⟨by omega, l101 _ (by omega)⟩
end
