section
/-! THE REFERENCE'S MOVE, TIED TO THE SYSTEM'S -/
theorem came_mba {S : AS} {F F' : AF} {G G1 G3 : AG} {b : Int} {PP : Int → Int → Prop} (ci : CI S F G b) (k1 : KK F G F' G1) (cm : Came F' G1 G3 PP) : MBA G3 := by
  have hx := cm.2.1
  have w := k1.1.2.1
  have hh := k1.1.2.2.1
  intro i j i0 i1 j0 j1
  have bx := isB_in (sq_x hx) ⟨i, i0, i1, rfl⟩
  have by' := isB_in (sq_y hx) ⟨j, j0, j1, rfl⟩
  have one : ∀ g : Int, 0 ≤ g → g ≤ 2 → G3 57 (0 + 2304 * g + 48 * j + i) = vC F G 18 g (me F' G3 0 i) (me F' G3 1 j) := fun g g0 g1 => by
    have e := cv_at (sq_x hx) (sq_y hx) (u := fun i j => G3 57 (0 + 2304 * g + 48 * j + i)) i0 i1 j0 j1
    refine e.trans ?_
    have c := cm.2.2.2.1 g _ _ g0 g1 bx.1 bx.2 by'.1 by'.2
    rw [← k1.2.2.2.1 g _ _ g0 g1 bx.1 (by omega) by'.1 (by omega)] at c
    exact c
  have o0 := one 0 (by omega) (by omega)
  have o1 := one 1 (by omega) (by omega)
  have o2 := one 2 (by omega) (by omega)
  have e0 : 0 + 2304 * (0 : Int) + 48 * j + i = 48 * j + i := by omega
  have e1 : 0 + 2304 * (1 : Int) + 48 * j + i = 2304 + 48 * j + i := by omega
  have e2 : 0 + 2304 * (2 : Int) + 48 * j + i = 4608 + 48 * j + i := by omega
  rw [e0] at o0
  rw [e1] at o1
  rw [e2] at o2
  have p := ci.2.2.2.2.1.1 _ _ bx.1 (by omega : me F' G3 0 i < F 4 2) by'.1 (by omega : me F' G3 1 j < F 11 2)
  have cap := ci.2.2.2.1.2.1
  unfold MB
  rw [o0, o1, o2]
  exact ⟨p.1, p.2.1, p.2.2.1, by omega⟩
theorem came_vf {F F' : AF} {G G1 G3 : AG} {PP : Int → Int → Prop} (k1 : KK F G F' G1) (cm : Came F' G1 G3 PP) {g : Int} (g0 : 0 ≤ g) (g1 : g ≤ 2) {i j : Int} (i0 : 0 ≤ i) (i1 : i < G3 55 0) (j0 : 0 ≤ j) (j1 : j < G3 55 1) : G3 57 (2304 * g + 48 * j + i) = vC F G 18 g (me F' G3 0 i) (me F' G3 1 j) := by
  have hx := cm.2.1
  have w := k1.1.2.1
  have hh := k1.1.2.2.1
  have bx := isB_in (sq_x hx) ⟨i, i0, i1, rfl⟩
  have by' := isB_in (sq_y hx) ⟨j, j0, j1, rfl⟩
  have e := cv_at (sq_x hx) (sq_y hx) (u := fun i j => G3 57 (0 + 2304 * g + 48 * j + i)) i0 i1 j0 j1
  have c := cm.2.2.2.1 g _ _ g0 g1 bx.1 bx.2 by'.1 by'.2
  rw [← k1.2.2.2.1 g _ _ g0 g1 bx.1 (by omega) by'.1 (by omega)] at c
  have z : 0 + 2304 * g + 48 * j + i = 2304 * g + 48 * j + i := by omega
  rw [← c, ← z]
  exact e
theorem tR_7 {F : AF} {G : AG} {g : Int} {T : Int → Int → Int} (h : OvC F G g T) : tR F G g T = -7 := by
  classical
  simp only [tR]
  rw [if_pos h]
theorem tR_9 {F : AF} {G : AG} {g : Int} {T : Int → Int → Int} (h : ¬ OvC F G g T) (k : OvL F G g T) : tR F G g T = -9 := by
  classical
  simp only [tR]
  rw [if_neg h, if_pos k]
theorem tR_n {F : AF} {G : AG} {g : Int} {T : Int → Int → Int} (h : ¬ OvC F G g T) (k : ¬ OvL F G g T) : tR F G g T = 0 := by
  classical
  simp only [tR]
  rw [if_neg h, if_neg k]
theorem cr_move {d : Nat} {S S' : AS} {F F1 Fr : AF} {G G1 Gr : AG} {b : Int} (hd : 7 ≤ d) (hsm : ShM S') (ci : CI S F G b) (hb : b ≤ 1000000) (k : KK F G Fr Gr) {g x1 y1 x2 y2 dx dy z : Int} (a : MoveS F F1 G G1 g x1 y1 x2 y2 dx dy z) {Q : AQ} (hq : ∀ F2 G2, KK F1 G1 F2 G2 → RFr Fr F2 Gr G2 → Q (some (vJ z)) S' F2 G2) : Ok d MX10_move [vR 53, vI g, vI x1, vI y1, vI x2, vI y2, vI dx, vI dy] S' Fr Gr Q := by
  have fin : ∀ zz F2 G2, (z = zz ∧ SS F F1 G G1) → RS Fr F2 Gr G2 → Q (some (vJ zz)) S' F2 G2 := fun zz F2 G2 e r => e.1 ▸ hq F2 G2 (kk_ss (kk_rs k r) e.2) (rfr_rs r)
  have hc := ci.2.1
  have c4 := hc.1.2.2.2.1
  have c11 := hc.2.1.2.2.2.1
  refine ok_go rfl (by decide) (Nat.le_of_ble_eq_true rfl) (R_X10_move_0 hsm ?_)
  unfold V_X10_move_0
  intro F0 e0
  have rs0 : RS Fr F0 Gr Gr := by rw [e0]; exact rs_fu (Or.inl rfl)
  have k0 := kk_rs k rs0
  have hx := k0.1.1
  have eW := k0.1.2.1
  have eH := k0.1.2.2.1
  refine ⟨by omega, _, pu_isGood (by omega) hsm g, fun y => fin _ _ _ (a.1 (fun n => bI_0.mp y n.1)) rs0, fun y => ⟨_, pu_isRectangle hsm _ _ _ _, fun q2 => ?_, fun q2 => fin _ _ _ (a.1 (fun n => bI_0.mp q2 (by rw [← eW, ← eH]; exact n.2))) rs0⟩⟩
  have yg : 0 ≤ g ∧ g ≤ 2 := Classical.byContradiction (fun z => y (bI_f z))
  have yr : recS F x1 y1 x2 y2 := Classical.byContradiction (fun z => q2 (bI_f (by rw [← eW, ← eH]; exact z)))
  have ha := a.2 ⟨yg, yr⟩
  suffices main : (-9999 ≤ dx ∧ dx ≤ 9999) ∧ (-9999 ≤ dy ∧ dy ≤ 9999) ∧ ¬ (dx = 0 ∧ dy = 0) → V_X10_move_73 d S' F0 Gr Q g x1 y1 x2 y2 dx dy by
    refine ⟨_, pu_isIn hsm _ _ _, fun p => fin _ _ _ (ha.1 (fun n => bI_0.mp p n.1)) rs0, fun p => ⟨_, pu_isIn hsm _ _ _, fun p2 => fin _ _ _ (ha.1 (fun n => bI_0.mp p2 n.2.1)) rs0, fun p2 => ⟨fun p3 => main ⟨Classical.byContradiction (fun z => p (bI_f z)), Classical.byContradiction (fun z => p2 (bI_f z)), fun n => p3 n.1⟩, fun p3 => ⟨fun p4 => main ⟨Classical.byContradiction (fun z => p (bI_f z)), Classical.byContradiction (fun z => p2 (bI_f z)), fun n => p4 n.2⟩, fun p4 => fin _ _ _ (ha.1 (fun n => n.2.2 ⟨p3, p4⟩)) rs0⟩⟩⟩⟩
  intro vk
  obtain ⟨⟨d1, d2⟩, ⟨d3, d4⟩, -⟩ := id vk
  have hb2 := ha.2 vk
  obtain ⟨r1, r2, r3, r4, r5, r6⟩ := id yr
  unfold V_X10_move_73
  refine ⟨by omega, by omega, by omega, by omega, by omega, _, pu_isRectangle hsm _ _ _ _, fun q3 => ?_, fun q3 => fin _ _ _ (hb2.1 (fun n => bI_0.mp q3 (by rw [← eW, ← eH]; exact n))) rs0⟩
  have yo : recS F (x1 + dx) (y1 + dy) (x2 + dx) (y2 + dy) := Classical.byContradiction (fun z => q3 (bI_f (by rw [← eW, ← eH]; exact z)))
  obtain ⟨o1, o2, o3, o4, o5, o6⟩ := id yo
  have hr := hb2.2 yo
  have e4 : ∀ Fy Gy, KK F G Fy Gy → ∀ q : Int, ((((q = x1 ∨ q = x2 + 1) ∨ (q = x1 + dx ∨ q = x2 + dx + 1)) ∨ ∃ c : Int, isB (me Fy Gy 0) (Gy 55 0) c ∧ x1 < c ∧ c ≤ x2 ∧ q = c + dx) ↔ PMx (isC F G 4) x1 x2 dx q) := fun Fy Gy ky q => ⟨fun z => z.imp id (fun ⟨c, p, r⟩ => ⟨c, (ky.1.2.2.2.1 c).mpr p, r⟩), fun z => z.imp id (fun ⟨c, p, r⟩ => ⟨c, (ky.1.2.2.2.1 c).mp p, r⟩)⟩
  have e11 : ∀ Fy Gy, KK F G Fy Gy → ∀ q : Int, ((((q = y1 ∨ q = y2 + 1) ∨ (q = y1 + dy ∨ q = y2 + dy + 1)) ∨ ∃ c : Int, isB (me Fy Gy 1) (Gy 55 1) c ∧ y1 < c ∧ c ≤ y2 ∧ q = c + dy) ↔ PMx (isC F G 11) y1 y2 dy q) := fun Fy Gy ky q => ⟨fun z => z.imp id (fun ⟨c, p, r⟩ => ⟨c, (ky.1.2.2.2.2 c).mpr p, r⟩), fun z => z.imp id (fun ⟨c, p, r⟩ => ⟨c, (ky.1.2.2.2.2 c).mp p, r⟩)⟩
  refine ok_wantsMoved (by omega) hsm hx (by omega) (by omega) r1 r2 (by rw [msz_0]; omega) o1 (by rw [msz_0]; omega) (fun F14 G15 wn => ⟨rfl, rfl, _, wn_room hx wn hsm (by omega) (by omega) (by omega), fun q => ?_, fun q => ?_⟩)
  · have yr4 : Gr 55 0 + F14 53 20 ≤ 48 := Classical.byContradiction (fun z => q (bI_f z))
    have rg4 := wn_rgb wn
    rw [rgb_c (fun q => by rw [msz_0, ← eW, ← k0.1.2.2.2.1 q, e4 F0 Gr k0 q] : ∀ q : Int, (isB (me F0 Gr 0) (Gr 55 0) q ∨ ((((q = x1 ∨ q = x2 + 1) ∨ (q = x1 + dx ∨ q = x2 + dx + 1)) ∨ ∃ c : Int, isB (me F0 Gr 0) (Gr 55 0) c ∧ x1 < c ∧ c ≤ x2 ∧ q = c + dx) ∧ 0 < q ∧ q < msz F0 0)) ↔ NB F G 4 (PMx (isC F G 4) x1 x2 dx) q), msz_0, ← eW] at rg4
    have r14 := rs_tr rs0 (rs_wn wn)
    refine ok_laysThen hsm hx (by omega) (by omega) wn (by omega) yr4 (fun G25 th => ⟨rfl, rfl, ?_⟩)
    have w20 := wn.2.2.2.1
    have w20' := wn.2.2.2.2.1
    refine ok_keepsAcross hsm w20 (by omega) (fun G29 kp kp2 => ⟨rfl, rfl, ?_⟩)
    have r29 : RS Fr (fu F14 53 32 (F14 53 20)) Gr G29 := rs_tr r14 (rs_tr (rs_thn th) (rs_tr (rs_fu (Or.inr (Or.inr rfl))) (rs_G (fun c hc => kp c (by omega)))))
    have k29 := kk_rs k r29
    have w29 := k29.1.2.1
    have h29 := k29.1.2.2.1
    refine ok_wantsMoved (by omega) hsm k29.1.1 (by omega) (by omega) r4 r5 (by rw [msz_1]; omega) o4 (by rw [msz_1]; omega) (fun F32 G33 wn2 => ⟨rfl, rfl, _, wn_room k29.1.1 wn2 hsm (by omega) (by omega) (by omega), fun q' => ?_, fun q' => ?_⟩)
    · have yr11 : G29 55 1 + F32 53 20 ≤ 48 := Classical.byContradiction (fun z => q' (bI_f z))
      have rg11 := wn_rgb wn2
      rw [rgb_c (fun q => by rw [msz_1, ← h29, ← k29.1.2.2.2.2 q, e11 _ _ k29 q] : ∀ q : Int, (isB (me (fu F14 53 32 (F14 53 20)) G29 1) (G29 55 1) q ∨ ((((q = y1 ∨ q = y2 + 1) ∨ (q = y1 + dy ∨ q = y2 + dy + 1)) ∨ ∃ c : Int, isB (me (fu F14 53 32 (F14 53 20)) G29 1) (G29 55 1) c ∧ y1 < c ∧ c ≤ y2 ∧ q = c + dy) ∧ 0 < q ∧ q < msz (fu F14 53 32 (F14 53 20)) 1)) ↔ NB F G 11 (PMx (isC F G 11) y1 y2 dy) q), msz_1, ← h29] at rg11
      obtain ⟨cst, hno, hdo⟩ := hr.2 ⟨rg4.mp yr4, rg11.mp yr11⟩
      refine ok_laysThen hsm k29.1.1 (by omega) (by omega) wn2 (by omega) yr11 (fun G43 th2 => ⟨rfl, rfl, ?_⟩)
      obtain ⟨ts, r43'⟩ := th_mk k0 (fun q _ _ => e4 F0 Gr k0 q) (fun q _ _ => e11 _ _ k29 q) (by omega) (by omega) wn yr4 th kp kp2 rfl wn2 yr11 th2
      have r43 := rs_tr rs0 r43'
      have k43 := kk_rs k r43
      refine mv_check (by omega) hsm ci k43 yg.1 yg.2 yr yo d1 d2 d3 d4 ts cst (fun nC => ?_) (fun yC => fin _ _ _ (by have := hno (by rw [tR_7 yC]; decide); rw [tR_7 yC] at this; exact this) r43)
      refine mv_zones (by omega) hsm ci k43 yg.1 yg.2 yr yo d1 d2 d3 d4 (fun nL Fy my => ?_) (fun yL Fy my => fin _ _ _ (by have := hno (by rw [tR_9 nC yL]; decide); rw [tR_9 nC yL] at this; exact this) (rs_tr r43 (mt_rs my)))
      obtain ⟨ez, dn⟩ := hdo (tR_n nC nL)
      have ry := rs_tr r43 (mt_rs my (G := G43))
      have ky := kk_rs k ry
      have wy := ky.1.2.1
      have hy := ky.1.2.2.1
      have ts' := th_mt ts my
      have ps := pu_msum (d := d - 1) (S := S') (by omega) hsm ky.1.1 (kk_mba ci ky) (kk_mt ci ky) (g := g) (x1 := x1) (y1 := y1) (x2 := x2) (y2 := y2) (by omega) yg.2 r1 (by omega) r4 (by omega) (by omega) (by omega) (by omega) (by omega)
      rw [kk_aS ky (by omega) yg.2 r1 r3 r4 r6, aS_vu yg.1] at ps
      unfold V_X10_move_320
      refine ⟨fun _ => ⟨by omega, _, ps, ok_thAcross (by omega) hsm ci hb ky ts' (fun G5 G6 c5 t66 cm0 => ⟨rfl, rfl, ok_thAll (by omega) hsm ci hb ky ts' c5 cm0 (fun G7 cm => ⟨rfl, rfl, ?_⟩)⟩)⟩, fun y => absurd (Int.le_refl 6) y⟩
      have r5' := rs_tr ry (rs_G (F := Fy) (G := G43) (G' := G5) (fun c hc => c5 c (by omega)))
      have k5 := kk_rs k r5'
      have hx7 := cm.2.1
      have mba7 := came_mba ci k5 cm
      obtain ⟨tn, ⟨to0, to8⟩, td⟩ := kk_tell ci hb k5
      refine mv_old (by omega) hsm hx7 mba7 yg.1 yg.2 (fun G8 u8 => ?_)
      have g8 : ∀ c : Nat, c ≠ 70 → G8 c = G7 c := u8.1
      have hx8 : MX Fy G8 := mx_cg rfl rfl (g8 54 (by decide)) (g8 55 (by decide)) hx7
      have em8 := fun a => me_cg (F := Fy) (F' := Fy) (G := G7) (G' := G8) rfl rfl (g8 54 (by decide)) (g8 55 (by decide)) a
      have bmb : ∀ a p, mb Fy G8 a p = mb Fy G7 a p := fun a p => by
        unfold mb
        rw [em8, g8 55 (by decide)]
      refine mv_fill (f := vC F G 18 g) (by omega) hsm hx8 yg.1 yg.2 ⟨r1, r2, by omega, r4, r5, by omega⟩ d1 d2 d3 d4 (fun i j i0 i1 j0 j1 => ?_) (fun x y x0 xw y0 yw => ?_) (fun x y x0 xw y0 yw => ?_) (fun G9 u9 => ?_)
      · rw [g8 55 (by decide)] at i1 j1
        rw [g8 57 (by decide), em8, em8]
        exact came_vf k5 cm yg.1 yg.2 i0 i1 j0 j1
      · have bx := mb_spec hx7 (a := 0) (p := x) (by omega) (by omega) x0 (by rw [msz_0]; exact xw)
        have by' := mb_spec hx7 (a := 1) (p := y) (by omega) (by omega) y0 (by rw [msz_1]; exact yw)
        have n0 := (hx7 0 (by omega) (by omega)).2.1
        have n1 := (hx7 1 (by omega) (by omega)).2.1
        have v := (u8.2.1 _ _ bx.1 (by omega) by'.1 (by omega : mb Fy G7 1 y < 48)).1 ⟨bx.2.1, by'.2.1⟩
        rw [bmb, bmb]
        rw [Int.zero_add] at v
        rw [v, k5.2.2.2.1 g x y yg.1 yg.2 x0 (by omega) y0 (by omega), ← cm.2.2.2.1 g x y yg.1 yg.2 x0 xw y0 yw]
        unfold mC cv mb
        dsimp only
        rw [Int.zero_add]
      · have := ci_vC ci yg.1 yg.2 x0 (by omega : x < F 4 2) y0 (by omega : y < F 11 2)
        exact ⟨this.1, this.2.1⟩
      · rw [g8 55 (by decide), em8, em8] at u9
        have e55 : G9 55 = G7 55 := (u9.1 55 (by decide)).trans (g8 55 (by decide))
        unfold V_X10_move_575
        rw [e55, g8 55 (by decide)]
        refine ⟨fun _ => ⟨by omega, by omega, by omega, ?_⟩, fun y => absurd (Int.le_refl _) y⟩
        have g9 : ∀ c : Nat, c ≠ 57 → c ≠ 70 → G9 c = G7 c := fun c h1 h2 => (u9.1 c h1).trans (g8 c h2)
        -- the same over G7 but for the old fields
        have u7 : Upd G7 (fun c => if c = 70 then G7 70 else G9 c) 57 (2304 * g) (fun i j => i < G7 55 0 ∧ j < G7 55 1) (fun i j => tMov (vC F G 18 g) x1 y1 x2 y2 dx dy (me Fy G7 0 i) (me Fy G7 1 j)) := by
          refine ⟨fun c hc' => ?_, fun i j i0 i1 j0 j1 => ?_, fun kk hk => ?_⟩
          · by_cases e : c = 70
            · subst e
              exact if_pos rfl
            · exact (if_neg e).trans (g9 c hc' e)
          · have := u9.2.1 i j i0 i1 j0 j1
            rw [g8 57 (by decide)] at this
            exact this
          · have := u9.2.2 kk hk
            rw [g8 57 (by decide)] at this
            exact this
        refine ok_tells hsm tn.1 tn.2 to0 to8 (fun j j0 j1 => ?_) (fun F8 G10 tq => ⟨rfl, rfl, ?_⟩)
        · rw [g9 61 (by decide) (by decide), cm.1 61 (by decide) (by decide) (by decide) (by decide) (by decide)]
          exact td j j0 j1
        · have rd := rd_mk (g := g) (al := Gr 59 g) (T := tMov (vC F G 18 g) x1 y1 x2 y2 dx dy) ry c5 t66 cm (fun c h1 _ h2 => g9 c h1 h2) (fun g' x y g0' g1' x0 xw y0 yw => ?_) (fun g' g0' g1' => ?_) tq
          · have e59 := k.2.2.2.2.1 g yg.1 yg.2
            have hal : Gr 59 g = aS (tMov (vC F G 18 g) x1 y1 x2 y2 dx dy) 0 0 (F 4 2 - 1) (F 11 2 - 1) := by rw [aS_tMovW r1 r3 r4 r6 o1 o3 o4 o6, e59]
            rw [← ez]
            exact hq F8 G10 (kk_done hc k dn rd yg.1 yg.2 (fun _ _ _ _ _ _ => rfl) (fun q _ _ => p2_0.symm) (fun q _ _ => p2_1.symm) hal) (rfr_rd rd)
          · have fc := fill_cells k5 cm cst yg.1 yg.2 u7 (fun i j i0 i1 j0 j1 n => absurd ⟨i1, j1⟩ n) g0' g1' x0 xw y0 yw
            rw [← fc]
            have em9 := fun a => me_cg (F := Fy) (F' := Fy) (G := G7) (G' := G9) rfl rfl (g9 54 (by decide) (by decide)) (g9 55 (by decide) (by decide)) a
            have emu := fun a => me_cg (F := Fy) (F' := Fy) (G := G7) (G' := fun c => if c = 70 then G7 70 else G9 c) rfl rfl (u7.1 54 (by decide)) (u7.1 55 (by decide)) a
            unfold mC cv
            rw [em9, em9, emu, emu, e55, u7.1 55 (by decide)]
            rfl
          · rw [g9 59 (by decide) (by decide), cm.1 59 (by decide) (by decide) (by decide) (by decide) (by decide), r5'.2.2 59 (by omega)]
            by_cases eg : g' = g
            · rw [if_pos eg, eg]
            · rw [if_neg eg]
    · have nr := bI_0.mp q'
      have rg11 := wn_rgb wn2
      rw [rgb_c (fun q => by rw [msz_1, ← h29, ← k29.1.2.2.2.2 q, e11 _ _ k29 q] : ∀ q : Int, (isB (me (fu F14 53 32 (F14 53 20)) G29 1) (G29 55 1) q ∨ ((((q = y1 ∨ q = y2 + 1) ∨ (q = y1 + dy ∨ q = y2 + dy + 1)) ∨ ∃ c : Int, isB (me (fu F14 53 32 (F14 53 20)) G29 1) (G29 55 1) c ∧ y1 < c ∧ c ≤ y2 ∧ q = c + dy) ∧ 0 < q ∧ q < msz (fu F14 53 32 (F14 53 20)) 1)) ↔ NB F G 11 (PMx (isC F G 11) y1 y2 dy) q), msz_1, ← h29] at rg11
      exact fin _ _ _ (hr.1 (fun n => nr (rg11.mpr n.2))) (rs_tr r29 (rs_wn wn2))
  · have nr := bI_0.mp q
    have rg4 := wn_rgb wn
    rw [rgb_c (fun q => by rw [msz_0, ← eW, ← k0.1.2.2.2.1 q, e4 F0 Gr k0 q] : ∀ q : Int, (isB (me F0 Gr 0) (Gr 55 0) q ∨ ((((q = x1 ∨ q = x2 + 1) ∨ (q = x1 + dx ∨ q = x2 + dx + 1)) ∨ ∃ c : Int, isB (me F0 Gr 0) (Gr 55 0) c ∧ x1 < c ∧ c ≤ x2 ∧ q = c + dx) ∧ 0 < q ∧ q < msz F0 0)) ↔ NB F G 4 (PMx (isC F G 4) x1 x2 dx) q), msz_0, ← eW] at rg4
    exact fin _ _ _ (hr.1 (fun n => nr (rg4.mpr n.1))) (rs_tr rs0 (rs_wn wn))
end
