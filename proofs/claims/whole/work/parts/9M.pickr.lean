section
theorem cr_pick {d : Nat} {S S' : AS} {F F1 Fr : AF} {G G1 Gr : AG} {b : Int} (hd : 7 ≤ d) (hsm : ShM S') (ci : CI S F G b) (hb : b ≤ 1000000) (k : KK F G Fr Gr) {g x1 y1 x2 y2 n z : Int} (a : PickS F F1 G G1 g x1 y1 x2 y2 n z) {Q : AQ} (hq : ∀ F2 G2, KK F1 G1 F2 G2 → RFr Fr F2 Gr G2 → Q (some (vJ z)) S' F2 G2) : Ok d MX10_pick [vR 53, vI g, vI x1, vI y1, vI x2, vI y2, vJ n] S' Fr Gr Q := by
  have fin : ∀ zz F2 G2, (z = zz ∧ SS F F1 G G1) → RS Fr F2 Gr G2 → Q (some (vJ zz)) S' F2 G2 := fun zz F2 G2 e r => e.1 ▸ hq F2 G2 (kk_ss (kk_rs k r) e.2) (rfr_rs r)
  have hc := ci.2.1
  have c4 := hc.1.2.2.2.1
  have c11 := hc.2.1.2.2.2.1
  refine ok_go rfl (by decide) (Nat.le_of_ble_eq_true rfl) (R_X10_pick_0 hsm ?_)
  unfold V_X10_pick_0
  intro F0 e0
  have rs0 : RS Fr F0 Gr Gr := by rw [e0]; exact rs_fu (Or.inl rfl)
  have k0 := kk_rs k rs0
  have hx := k0.1.1
  have eW := k0.1.2.1
  have eH := k0.1.2.2.1
  refine ⟨by omega, _, pu_isGood (by omega) hsm g, fun y => fin _ _ _ (a.1 (fun n => bI_0.mp y n.1)) rs0, fun y => ⟨_, pu_isRectangle hsm _ _ _ _, fun q2 => ?_, fun q2 => fin _ _ _ (a.1 (fun n => bI_0.mp q2 (by rw [← eW, ← eH]; exact n.2))) rs0⟩⟩
  have yg : 0 ≤ g ∧ g ≤ 2 := Classical.byContradiction (fun z => y (bI_f z))
  have yr : recS F x1 y1 x2 y2 := Classical.byContradiction (fun z => q2 (bI_f (by rw [← eW, ← eH]; exact z)))
  refine ⟨_, pu_isIn hsm _ _ _, fun q3 => ?_, fun q3 => fin _ _ _ ((a.2 ⟨yg, yr⟩).1 (bI_0.mp q3)) rs0⟩
  have vk : 1 ≤ n ∧ n ≤ 3000000000000000000 := Classical.byContradiction (fun z => q3 (bI_f z))
  have ha := (a.2 ⟨yg, yr⟩).2 vk
  obtain ⟨r1, r2, r3, r4, r5, r6⟩ := id yr
  have ev : ∀ x y : Int, x1 ≤ x → x ≤ x2 → y1 ≤ y → y ≤ y2 → mv F0 Gr g x y = vC F G 18 g x y := fun x y p q r s => by rw [kk_mv k0 (by omega) yg.2 (by omega) (by omega) (by omega) (by omega), vu_g yg.1]
  refine ok_finds (by omega) hsm hx (kk_mba ci k0) (kk_mt ci k0) yg.1 yg.2 ⟨r1, r2, by omega, r4, r5, by omega⟩ vk.1 vk.2 (fun x y' r fd => ⟨rfl, _, rfl, fun _ => ?_, fun z => absurd z (by decide)⟩) (fun lt => ⟨rfl, _, rfl, fun z => absurd rfl z, fun _ => fin _ _ _ (ha.1 ?_) rs0⟩)
  · have fc0 := fdc_fc (sq_y hx) (sq_x hx) (mq_pos (kk_mba ci k0) (g := g) (by omega) yg.2) (f := mv F0 Gr g) (fun x y => mq_mv x y) r4 (by omega) r1 (by omega) fd
    have fc := fc_cg ev fc0
    have hr := ha.2 x y' r fc
    obtain ⟨f1, f2, f3, f4, f5, f6, f7⟩ := id fc
    have rf : RS Fr (fu (fu (fu F0 53 22 y') 53 21 x) 53 23 r) Gr Gr := rs_tr rs0 (rs_tr (rs_fu (by omega)) (rs_tr (rs_fu (by omega)) (rs_fu (by omega))))
    have v21 : fu (fu (fu F0 53 22 y') 53 21 x) 53 23 r 53 21 = x := by rw [fu_k (by decide), fu_s]
    have v22 : fu (fu (fu F0 53 22 y') 53 21 x) 53 23 r 53 22 = y' := by rw [fu_k (by decide), fu_k (by decide), fu_s]
    have v23 : fu (fu (fu F0 53 22 y') 53 21 x) 53 23 r 53 23 = r := fu_s
    generalize fu (fu (fu F0 53 22 y') 53 21 x) 53 23 r = Fz at rf v21 v22 v23 ⊢
    intro x26 e26 x27 e27 x28 e28
    rw [v21] at e26
    rw [v22] at e27
    rw [v23] at e28
    subst e26 e27 e28
    have kz := kk_rs k rf
    have wz := kz.1.2.1
    have hz := kz.1.2.2.1
    have nb4 : ∀ Fy Gy, KK F G Fy Gy → ∀ q : Int, (isB (me Fy Gy 0) (Gy 55 0) q ∨ (((q = x1 ∨ q = x2 + 1) ∨ (0 ≤ x26 ∧ (q = x26 ∨ q = x26 + 1))) ∧ 0 < q ∧ q < msz Fy 0)) ↔ NB F G 4 (PPx x1 x2 x26) q := by
      intro Fy Gy ky q
      rw [msz_0, ← ky.1.2.1, ← ky.1.2.2.2.1 q]
      constructor
      · rintro (u | ⟨u | u, u2⟩)
        · exact Or.inl u
        · exact Or.inr ⟨Or.inl u, u2⟩
        · exact Or.inr ⟨Or.inr u.2, u2⟩
      · rintro (u | ⟨u | u, u2⟩)
        · exact Or.inl u
        · exact Or.inr ⟨Or.inl u, u2⟩
        · exact Or.inr ⟨Or.inr ⟨by omega, u⟩, u2⟩
    have nb11 : ∀ Fy Gy, KK F G Fy Gy → ∀ q : Int, (isB (me Fy Gy 1) (Gy 55 1) q ∨ (((q = y1 ∨ q = y2 + 1) ∨ (0 ≤ x27 ∧ (q = x27 ∨ q = x27 + 1))) ∧ 0 < q ∧ q < msz Fy 1)) ↔ NB F G 11 (PPx y1 y2 x27) q := by
      intro Fy Gy ky q
      rw [msz_1, ← ky.1.2.2.1, ← ky.1.2.2.2.2 q]
      constructor
      · rintro (u | ⟨u | u, u2⟩)
        · exact Or.inl u
        · exact Or.inr ⟨Or.inl u, u2⟩
        · exact Or.inr ⟨Or.inr u.2, u2⟩
      · rintro (u | ⟨u | u, u2⟩)
        · exact Or.inl u
        · exact Or.inr ⟨Or.inl u, u2⟩
        · exact Or.inr ⟨Or.inr ⟨by omega, u⟩, u2⟩
    refine ok_hasRoom (by omega) hsm kz.1.1 (by omega) (by omega) r1 r2 (by rw [msz_0]; omega) (by rw [msz_0]; omega) (fun F14 G15 wn => ⟨rfl, _, rfl, fun q => ?_, fun q => ?_⟩)
    · have nr := bI_0.mp q
      rw [wn_rgb wn, rgb_c (nb4 Fz Gr kz), msz_0, ← wz] at nr
      exact fin _ _ _ (hr.1 (fun n => nr n.1)) (rs_tr rf (rs_wn wn))
    · have yr4 : Gr 55 0 + F14 53 20 ≤ 48 := Classical.byContradiction (fun z => q (bI_f z))
      have rg4 := wn_rgb wn
      rw [rgb_c (nb4 Fz Gr kz), msz_0, ← wz] at rg4
      have r14 := rs_tr rf (rs_wn wn)
      have k14 := kk_rs k r14
      have w14 := k14.1.2.1
      have h14 := k14.1.2.2.1
      refine ok_hasRoom (by omega) hsm k14.1.1 (by omega) (by omega) r4 r5 (by rw [msz_1]; omega) (by rw [msz_1]; omega) (fun F19 G20 wn2 => ⟨rfl, _, rfl, fun q' => ?_, fun q' => ?_⟩)
      · have yr11 : G15 55 1 + F19 53 20 ≤ 48 := Classical.byContradiction (fun z => q' (bI_f z))
        have rg11 := wn_rgb wn2
        rw [rgb_c (nb11 F14 G15 k14), msz_1, ← h14] at rg11
        obtain ⟨ez, dn⟩ := hr.2 ⟨rg4.mp yr4, rg11.mp yr11⟩
        have r19 := rs_tr r14 (rs_wn wn2)
        have k19 := kk_rs k r19
        have w19 := k19.1.2.1
        have h19 := k19.1.2.2.1
        refine ok_acts hsm k19.1.1 (fun G25 c25 t66 => ⟨rfl, rfl, ?_⟩)
        have r25 := rs_tr r19 (rs_G (F := F19) (G := G20) (G' := G25) (fun c hc => c25 c (by omega)))
        have k25 := kk_rs k r25
        have rm0 : Rm F19 G25 0 (fun q => (q = x1 ∨ q = x2 + 1) ∨ (0 ≤ x26 ∧ (q = x26 ∨ q = x26 + 1))) := rm_wn wn yr4 (by rw [← w19, wz]) (by rw [← h19, hz]) (by rw [r25.2.2 54 (by omega)]) (by rw [r25.2.2 55 (by omega)])
        have rm1 : Rm F19 G25 1 (fun q => (q = y1 ∨ q = y2 + 1) ∨ (0 ≤ x27 ∧ (q = x27 ∨ q = x27 + 1))) := rm_wn wn2 yr11 (by rw [← w19, w14]) (by rw [← h19, h14]) (by rw [r25.2.2 54 (by omega), r14.2.2 54 (by omega)]) (by rw [r25.2.2 55 (by omega), r14.2.2 55 (by omega)])
        obtain ⟨tn, ⟨to0, to8⟩, td⟩ := kk_tell ci hb k25
        have lt := kk_lt ci k25
        refine ok_comesX (by omega) hsm lt to0 to8 (came_00 k25.1.1) rm0 (fun q hq => absurd hq (show ¬ ((0 : Int) = 1) by decide)) (Or.inl (Or.inl rfl)) r1 (by omega) (fun G29 cm1 => ⟨rfl, rfl, by omega, ?_⟩)
        refine ok_comesX (by omega) hsm lt to0 to8 cm1 rm0 (fun q hq => by omega) (Or.inl (Or.inr rfl)) (by omega) (by omega) (fun G34 cm2 => ⟨rfl, rfl, ?_⟩)
        refine ok_comesX (by omega) hsm lt to0 to8 cm2 rm0 (fun q hq => by omega) (Or.inr ⟨by omega, Or.inl rfl⟩) (by omega) (by omega) (fun G38 cm3 => ⟨rfl, rfl, by omega, ?_⟩)
        refine ok_comesX (by omega) hsm lt to0 to8 cm3 rm0 (fun q hq => by omega) (Or.inr ⟨by omega, Or.inr rfl⟩) (by omega) (by omega) (fun G42 cm4 => ⟨rfl, rfl, ?_⟩)
        refine ok_comesY (by omega) hsm lt to0 to8 cm4 rm1 (fun q hq => absurd hq (show ¬ ((0 : Int) = 1) by decide)) (Or.inl (Or.inl rfl)) r4 (by omega) (fun G46 cm5 => ⟨rfl, rfl, by omega, ?_⟩)
        refine ok_comesY (by omega) hsm lt to0 to8 cm5 rm1 (fun q hq => by omega) (Or.inl (Or.inr rfl)) (by omega) (by omega) (fun G50 cm6 => ⟨rfl, rfl, ?_⟩)
        refine ok_comesY (by omega) hsm lt to0 to8 cm6 rm1 (fun q hq => by omega) (Or.inr ⟨by omega, Or.inl rfl⟩) (by omega) (by omega) (fun G54 cm7 => ⟨rfl, rfl, by omega, ?_⟩)
        refine ok_comesY (by omega) hsm lt to0 to8 cm7 rm1 (fun q hq => by omega) (Or.inr ⟨by omega, Or.inr rfl⟩) (by omega) (by omega) (fun G78 cm => ⟨rfl, rfl, ?_⟩)
        clear cm1 cm2 cm3 cm4 cm5 cm6 cm7
        have hx78 := cm.2.1
        have vC25 : ∀ g' x y : Int, 0 ≤ g' → g' ≤ 2 → 0 ≤ x → x < F19 53 1 → 0 ≤ y → y < F19 53 2 → mC F19 G78 57 0 g' x y = vC F G 18 g' x y := fun g' x y g0' g1' x0 xw y0 yw => (cm.2.2.2.1 g' x y g0' g1' x0 xw y0 yw).trans (k25.2.2.2.1 g' x y g0' g1' x0 (by omega) y0 (by omega)).symm
        have dX : ∀ q : Int, 0 ≤ q → q ≤ F19 53 1 → (q = x1 ∨ q = x2 + 1 ∨ q = x26 ∨ q = x26 + 1) → isD (me F19 G78 0) (G78 55 0) q := fun q a c e => came_d cm (a := 0) (by omega) (by omega) a (by rw [msz_0]; exact c) (p2_0.mpr (by omega))
        have dY : ∀ q : Int, 0 ≤ q → q ≤ F19 53 2 → (q = y1 ∨ q = y2 + 1 ∨ q = x27 ∨ q = x27 + 1) → isD (me F19 G78 1) (G78 55 1) q := fun q a c e => came_d cm (a := 1) (by omega) (by omega) a (by rw [msz_1]; exact c) (p2_1.mpr (by omega))
        have e59 := k.2.2.2.2.1 g yg.1 yg.2
        have b59 : 0 ≤ Gr 59 g ∧ Gr 59 g ≤ 3000000000000000000 := by
          rw [e59]
          exact ⟨aS_pos (fun x y x0 xw y0 yw => (ci_vC ci yg.1 yg.2 x0 (by omega) y0 (by omega)).1), ci.2.2.2.2.1.2 g yg.1 yg.2⟩
        have t59 : ∀ c : Nat, c ≠ 54 → c ≠ 55 → c ≠ 56 → c ≠ 57 → c ≠ 58 → G78 c = G25 c := cm.1
        -- the last cell
        have last : ∀ (G6 : AG) (f : Int → Int → Int), (∀ c : Nat, c ≠ 57 → G6 c = G78 c) → (∀ g' x y : Int, 0 ≤ g' → g' ≤ 2 → 0 ≤ x → x < F19 53 1 → 0 ≤ y → y < F19 53 2 → mC F19 G6 57 0 g' x y = if g' = g then f x y else vC F G 18 g' x y) → f x26 x27 = vC F G 18 g x26 x27 → (∀ x y : Int, (if inR x26 x27 x26 x27 x y then f x26 x27 - x28 else f x y) = tPick (vC F G 18 g) x1 y1 x2 x26 x27 x28 x y) → V_X10_pick_218 d S' F19 G6 Q g x1 y1 x2 y2 n x26 x27 x28 := by
          intro G6 f g6 hf fx ft
          have s54 := g6 54 (by decide)
          have s55 := g6 55 (by decide)
          have hx6 : MX F19 G6 := mx_cg rfl rfl s54 s55 hx78
          have em := fun a => me_cg (F := F19) (F' := F19) (G := G78) (G' := G6) rfl rfl s54 s55 a
          have bx := mb_spec hx6 (a := 0) (p := x26) (by omega) (by omega) (by omega) (by rw [msz_0]; omega)
          have by' := mb_spec hx6 (a := 1) (p := x27) (by omega) (by omega) (by omega) (by rw [msz_1]; omega)
          have n0 := (hx6 0 (by omega) (by omega)).2.1
          have n1 := (hx6 1 (by omega) (by omega)).2.1
          have old : G6 57 (2304 * g + 48 * mb F19 G6 1 x27 + mb F19 G6 0 x26) = vC F G 18 g x26 x27 := by
            have := hf g x26 x27 yg.1 yg.2 (by omega) (by omega) (by omega) (by omega)
            rw [if_pos rfl, fx] at this
            rw [← this]
            unfold mC cv mb
            dsimp only
            rw [Int.zero_add]
          have bo := ci_vC ci yg.1 yg.2 (x := x26) (y := x27) (by omega) (by omega) (by omega) (by omega)
          unfold V_X10_pick_218
          refine ⟨by omega, _, pu_blockAt (by omega) hsm hx6 (by omega) (by omega) (by omega) (by rw [msz_0]; omega), _, pu_blockAt (by omega) hsm hx6 (by omega) (by omega) (by omega) (by rw [msz_1]; omega), _, pu_slot hsm yg.1 yg.2 bx.1 (by omega) by'.1 (by omega), by omega, by omega, by rw [old]; omega, fun G23 e23 => ⟨yg.1, by omega, ?_, fun G27 e27 => ?_⟩⟩
          · rw [e23, gu_c (by decide), g6 59 (by decide), t59 59 (by decide) (by decide) (by decide) (by decide) (by decide), r25.2.2 59 (by omega)]
            omega
          · have g23 : ∀ c : Nat, c ≠ 57 → G23 c = G78 c := fun c h => by rw [e23, gu_row h]; exact g6 c h
            have q59 : G23 59 = Gr 59 := by rw [g23 59 (by decide), t59 59 (by decide) (by decide) (by decide) (by decide) (by decide), r25.2.2 59 (by omega)]
            have g27 : ∀ c : Nat, c ≠ 57 → c ≠ 59 → G27 c = G78 c := fun c h h' => by rw [e27, gu_row h']; exact g23 c h
            have g57 : G27 57 = G23 57 := by rw [e27, gu_row (by decide)]
            refine ok_tells hsm tn.1 tn.2 to0 to8 (fun j j0 j1 => ?_) (fun F8 G9 tq => ⟨rfl, rfl, ?_⟩)
            · rw [g27 61 (by decide) (by decide), t59 61 (by decide) (by decide) (by decide) (by decide) (by decide)]
              exact td j j0 j1
            · have rd := rd_mk (g := g) (al := Gr 59 g - n) (T := tPick (vC F G 18 g) x1 y1 x2 x26 x27 x28) r19 c25 t66 cm (fun c h1 h2 _ => g27 c h1 h2) (fun g' x y g0' g1' x0 xw y0 yw => ?_) (fun g' g0' g1' => ?_) tq
              · have hal : Gr 59 g - n = aS (tPick (vC F G 18 g) x1 y1 x2 x26 x27 x28) 0 0 (F 4 2 - 1) (F 11 2 - 1) := by rw [aS_tPick fc r1 (by omega) r4 (by omega), e59]
                have kd := kk_done hc k dn rd yg.1 yg.2 (fun _ _ _ _ _ _ => rfl) (fun q q0 q1 => ?_) (fun q q0 q1 => ?_) hal
                · have w8 : F8 53 1 = F 4 2 := by rw [← kd.1.2.1, dn.2.2.1.2.1]
                  have pn := pu_number (d := d - 1) (S := S') (F := F8) (G := G9) hsm (x := x26) (y := x27) (by omega) (by omega) (by omega) (by omega) (by omega) (by omega)
                  rw [w8, ← ez] at pn
                  exact ⟨_, pn, hq F8 G9 kd (rfr_rd rd)⟩
                · rw [p2_0]
                  omega
                · rw [p2_1]
                  omega
              · rw [mC_gu (by rw [e27, gu_row (by decide)]) (by rw [e27, gu_row (by decide)]) g57]
                have oc := one_cells hx6 yg.1 yg.2 (x := x26) (y := x27) (v := x28) (by omega) (by omega) (by omega) (by omega) (by rw [em, s55]; exact dX _ (by omega) (by omega) (by omega)) (by rw [em, s55]; exact dX _ (by omega) (by omega) (by omega)) (by rw [em, s55]; exact dY _ (by omega) (by omega) (by omega)) (by rw [em, s55]; exact dY _ (by omega) (by omega) (by omega)) e23 g0' g1' x0 xw y0 yw
                rw [oc]
                have h1 := hf g x26 x27 yg.1 yg.2 (by omega) (by omega) (by omega) (by omega)
                have h2 := hf g x y yg.1 yg.2 x0 xw y0 yw
                have h3 := hf g' x y g0' g1' x0 xw y0 yw
                rw [if_pos rfl] at h1 h2
                by_cases eg : g' = g
                · rw [if_pos eg, if_pos eg, h1, h2, ft x y]
                · rw [if_neg eg, if_neg eg, h3, if_neg eg, vC25 g' x y g0' g1' x0 xw y0 yw]
              · rw [e27, cm.1 59 (by decide) (by decide) (by decide) (by decide) (by decide), r25.2.2 59 (by omega)]
                by_cases eg : g' = g
                · rw [if_pos eg, eg, gu_s, q59]
                · rw [if_neg eg, gu_i eg, q59]
        have mid : ∀ (G6 : AG) (f : Int → Int → Int), (∀ c : Nat, c ≠ 57 → G6 c = G78 c) → (∀ g' x y : Int, 0 ≤ g' → g' ≤ 2 → 0 ≤ x → x < F19 53 1 → 0 ≤ y → y < F19 53 2 → mC F19 G6 57 0 g' x y = if g' = g then f x y else vC F G 18 g' x y) → (∀ x y : Int, f x y = if inR x1 y1 x2 (x27 - 1) x y then 0 else vC F G 18 g x y) → V_X10_pick_198 d S' F19 G6 Q g x1 y1 x2 y2 n x26 x27 x28 := by
          intro G6 f g6 hf ff
          have s54 := g6 54 (by decide)
          have s55 := g6 55 (by decide)
          have hx6 : MX F19 G6 := mx_cg rfl rfl s54 s55 hx78
          have em := fun a => me_cg (F := F19) (F' := F19) (G := G78) (G' := G6) rfl rfl s54 s55 a
          unfold V_X10_pick_198
          refine ⟨fun q => last G6 f g6 hf (by rw [ff, if_neg (by omega)]) (fun x y => ?_), fun q => ⟨by omega, by omega, ok_empties (by omega) hsm hx6 yg.1 yg.2 ⟨r1, by omega, by omega, by omega, by omega, by omega⟩ (fun G7 u => ⟨rfl, rfl, last G7 (fun x y => if inR x1 x27 (x26 - 1) x27 x y then 0 else f x y) (fun c h => (u.1 c h).trans (g6 c h)) (fun g' x y g0' g1' x0 xw y0 yw => ?_) ?_ (fun x y => ?_)⟩)⟩⟩
          · unfold tPick
            by_cases c : inR x26 x27 x26 x27 x y
            · rw [if_pos c, if_pos c, ff, if_neg (by omega)]
            · rw [if_neg c, if_neg c, if_neg (fun (z : inR x1 x27 (x26 - 1) x27 x y) => by omega), ff]
          · have ec := emp_cells hx6 yg.1 yg.2 u ⟨r1, by omega, by omega, by omega, by omega, by omega⟩ (by rw [em, s55]; exact dX _ (by omega) (by omega) (by omega)) (by rw [em, s55]; exact dX _ (by omega) (by omega) (by omega)) (by rw [em, s55]; exact dY _ (by omega) (by omega) (by omega)) (by rw [em, s55]; exact dY _ (by omega) (by omega) (by omega)) g0' g1' x0 xw y0 yw
            rw [ec]
            have h2 := hf g x y yg.1 yg.2 x0 xw y0 yw
            have h3 := hf g' x y g0' g1' x0 xw y0 yw
            rw [if_pos rfl] at h2
            by_cases eg : g' = g
            · rw [if_pos eg, if_pos eg, h2]
            · rw [if_neg eg, if_neg eg, h3, if_neg eg]
          · rw [if_neg (by omega), ff, if_neg (by omega)]
          · unfold tPick
            by_cases c : inR x26 x27 x26 x27 x y
            · rw [if_pos c, if_pos c, if_neg (by omega), ff, if_neg (by omega)]
            · rw [if_neg c, if_neg c, ff]
        refine ⟨fun q => mid G78 (vC F G 18 g) (fun _ _ => rfl) (fun g' x y g0' g1' x0 xw y0 yw => ?_) (fun x y => ?_), fun q => ⟨by omega, ok_empties (by omega) hsm hx78 yg.1 yg.2 ⟨r1, r2, by omega, r4, by omega, by omega⟩ (fun G7 u => ⟨rfl, rfl, mid G7 (fun x y => if inR x1 y1 x2 (x27 - 1) x y then 0 else vC F G 18 g x y) (fun c h => u.1 c h) (fun g' x y g0' g1' x0 xw y0 yw => ?_) (fun _ _ => rfl)⟩)⟩⟩
        · rw [vC25 g' x y g0' g1' x0 xw y0 yw]
          by_cases eg : g' = g
          · rw [if_pos eg, eg]
          · rw [if_neg eg]
        · rw [if_neg (fun (z : inR x1 y1 x2 (x27 - 1) x y) => by omega)]
        · have ec := emp_cells hx78 yg.1 yg.2 u ⟨r1, r2, by omega, r4, by omega, by omega⟩ (dX _ (by omega) (by omega) (by omega)) (dX _ (by omega) (by omega) (by omega)) (dY _ (by omega) (by omega) (by omega)) (dY _ (by omega) (by omega) (by omega)) g0' g1' x0 xw y0 yw
          rw [ec, vC25 g' x y g0' g1' x0 xw y0 yw, vC25 g x y yg.1 yg.2 x0 xw y0 yw]
      · have nr := bI_0.mp q'
        rw [wn_rgb wn2, rgb_c (nb11 F14 G15 k14), msz_1, ← h14] at nr
        exact fin _ _ _ (hr.1 (fun n => nr n.2)) (rs_tr r14 (rs_wn wn2))
  · have e : aS (mv F0 Gr g) x1 y1 x2 y2 = aS (vC F G 18 g) x1 y1 x2 y2 := aS_congr (fun x y p q r s => ev x y p q r s)
    rw [e] at lt
    exact lt
end
