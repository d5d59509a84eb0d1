section
theorem pho_uniq {w : Int} {F : AF} {G : AG} (hx : MX F G) {z z' : Int} (h : PHo w F G z) (h' : PHo w F G z') : z = z' := by
  rcases h with ⟨c, e⟩ | ⟨c, e⟩
  · rcases h' with ⟨c', e'⟩ | ⟨c', e'⟩
    · rw [e, e']
    · exact absurd c' c
  · rcases h' with ⟨c', e'⟩ | ⟨c', e'⟩
    · exact absurd c c'
    · rcases e with ⟨f, e⟩ | ⟨x1, y1, x2, y2, m, q, e⟩
      · rcases e' with ⟨f', e'⟩ | ⟨x1', y1', x2', y2', m', ⟨⟨l, j, r, j2, hr, -⟩, -⟩, e'⟩
        · rw [e, e']
        · exact absurd hr (f l j r j2)
      · rcases e' with ⟨f', e'⟩ | ⟨x1', y1', x2', y2', m', q', e'⟩
        · obtain ⟨⟨l, j, r, j2, hr, -⟩, -⟩ := q
          exact absurd hr (f' l j r j2)
        · obtain ⟨u1, u2, u3, u4, u5⟩ := hb_uniq (sq_x hx).2.2.2 (sq_y hx).2.2.2 q q'
          rw [e, e', u1, u2, u3, u4, u5]
theorem pho_scr {w : Int} {F F1 : AF} {G G1 : AG} (k : Scr F F1 G G1) {z : Int} (h : PHo w F1 G1 z) : PHo w F G z := by
  unfold PHo HRm at *
  have e : emM G1 = emM G := by
    funext i j
    unfold emM
    rw [scr_mu k]
  rw [scr_me k, scr_me k, (scr_g k).2.1, e] at h
  exact h
theorem hr_cg {nx ny nx' ny' : Int} {em em' : Int → Int → Prop} (e1 : nx = nx') (e2 : ny = ny') (he : ∀ i k : Int, 0 ≤ i → i < nx → 0 ≤ k → k < ny → (em i k ↔ em' i k)) {l j r j2 : Int} : HR nx ny em l j r j2 ↔ HR nx' ny' em' l j r j2 := by
  subst e1 e2
  unfold HR
  constructor
  · rintro ⟨a, b, c, d, e, f, g⟩
    exact ⟨a, b, c, d, e, f, fun i k i0 i1 k0 k1 => (he i k (by omega) (by omega) (by omega) (by omega)).mp (g i k i0 i1 k0 k1)⟩
  · rintro ⟨a, b, c, d, e, f, g⟩
    exact ⟨a, b, c, d, e, f, fun i k i0 i1 k0 k1 => (he i k (by omega) (by omega) (by omega) (by omega)).mpr (g i k i0 i1 k0 k1)⟩
theorem hb_cg {ex ey ex' ey' : Int → Int} {nx ny nx' ny' : Int} {em em' : Int → Int → Prop} (e1 : nx = nx') (e2 : ny = ny') (hx : ∀ i : Int, 0 ≤ i → i ≤ nx → ex i = ex' i) (hy : ∀ i : Int, 0 ≤ i → i ≤ ny → ey i = ey' i) (he : ∀ i k : Int, 0 ≤ i → i < nx → 0 ≤ k → k < ny → (em i k ↔ em' i k)) {x1 y1 x2 y2 m : Int} (h : HB ex ey nx ny em x1 y1 x2 y2 m) : HB ex' ey' nx' ny' em' x1 y1 x2 y2 m := by
  obtain ⟨⟨l, j, r, j2, hr, a1, a2, a3, a4⟩, hm, all⟩ := h
  have b := id hr
  obtain ⟨b1, b2, b3, b4, b5, b6, -⟩ := b
  refine ⟨⟨l, j, r, j2, (hr_cg e1 e2 he).mp hr, ?_, ?_, ?_, ?_⟩, hm, fun l j r j2 k => ?_⟩
  · rw [← hx l (by omega) (by omega)]; exact a1
  · rw [← hy j (by omega) (by omega)]; exact a2
  · rw [← hx (r + 1) (by omega) (by omega)]; exact a3
  · rw [← hy (j2 + 1) (by omega) (by omega)]; exact a4
  · have k' := (hr_cg e1 e2 he).mpr k
    have c := id k'
    obtain ⟨c1, c2, c3, c4, c5, c6, -⟩ := c
    have := all l j r j2 k'
    rw [hx l (by omega) (by omega), hy j (by omega) (by omega), hx (r + 1) (by omega) (by omega), hy (j2 + 1) (by omega) (by omega)] at this
    exact this
theorem inv_em {S : AS} {F : AF} {G : AG} {b : Int} (h : Inv S F G b) {i j : Int} (i0 : 0 ≤ i) (i1 : i < F 4 1) (j0 : 0 ≤ j) (j1 : j < F 11 1) : cu G 18 (-1) i j = 0 ↔ emM G i j := by
  obtain ⟨-, -, -, ⟨-, -, -, P4, -⟩, -⟩ := h
  have e : ∀ g : Int, 0 ≤ g → g ≤ 2 → G 18 (2304 * g + 48 * j + i) = G 57 (2304 * g + 48 * j + i) := fun g g0 g1 => by
    have := P4 g i j g0 g1 i0 i1 j0 j1
    rw [show (0 : Int) + 2304 * g + 48 * j + i = 2304 * g + 48 * j + i by omega] at this
    exact this
  have q0 := e 0 (by omega) (by omega)
  have q1 := e 1 (by omega) (by omega)
  have q2 := e 2 (by omega) (by omega)
  rw [show (2304 : Int) * 0 + 48 * j + i = 48 * j + i by omega] at q0
  rw [show (2304 : Int) * 1 + 48 * j + i = 2304 + 48 * j + i by omega] at q1
  rw [show (2304 : Int) * 2 + 48 * j + i = 4608 + 48 * j + i by omega] at q2
  unfold emM cu mu
  rw [if_pos rfl, if_pos rfl, q0, q1, q2]
theorem scr_hole {F F' : AF} {G G' : AG} (h : Same2 F F') (g : ∀ c : Nat, c ≠ 36 → c ≠ 37 → c ≠ 38 → G' c = G c) : Scr F F' G G' := ⟨fun c _ _ h1 h2 _ _ _ _ => h c h1 h2, ⟨by rw [h 46 (by decide) (by decide)], by rw [h 46 (by decide) (by decide)], by rw [h 46 (by decide) (by decide)]⟩, ⟨by rw [h 53 (by decide) (by decide)], by rw [h 53 (by decide) (by decide)], by rw [h 53 (by decide) (by decide)], by rw [h 53 (by decide) (by decide)], by rw [h 53 (by decide) (by decide)], by rw [h 53 (by decide) (by decide)], by rw [h 53 (by decide) (by decide)], by rw [h 53 (by decide) (by decide)], by rw [h 53 (by decide) (by decide)]⟩, fun c _ _ _ _ _ _ _ h1 _ _ _ => g c (by omega) (by omega) (by omega)⟩
theorem pr_hole {d : Nat} {S : AS} {F : AF} {G : AG} {b' : Int} (hd : 6 ≤ d) (h : Inv S F G b') (w : Int) : Pr d MX9_hole MX10_hole [vR 1, vI w] [vR 53, vI w] vJ S F G b' := by
  refine pr_rel (P := PHo w) h (fun z z' p p' => pho_uniq (inv_mx h) p p') (fun F1 G1 k z p => pho_scr k p) (fun Q hq => ?_) (fun F G h Q hq => ?_)
  · have hsh := inv_shc h
    have hc := inv_cc h
    have hx := inv_mx h
    have hB := h.2.1
    refine ok_go rfl (by decide) (Nat.le_of_ble_eq_true rfl) (R_X9_hole_0 hsh ?_)
    unfold V_X9_hole_0
    refine ⟨fun q => hq F G _ (scr_rf F G) (Or.inl ⟨fun z => by omega, rfl⟩), fun q => ⟨fun q2 => ⟨by omega, ?_⟩, fun q2 => hq F G _ (scr_rf F G) (Or.inl ⟨fun z => by omega, rfl⟩)⟩⟩
    have yw : 0 ≤ w ∧ w ≤ 4 := by omega
    have eqv : ∀ i k : Int, 0 ≤ i → i < F 4 1 → 0 ≤ k → k < F 11 1 → (cu G 18 (-1) i k = 0 ↔ emM G i k) := fun i k i0 i1 k0 k1 => inv_em h i0 i1 k0 k1
    refine ok_findHole (by omega) hsh hc (inv_pba h) (fun F' G' s2 gr hb => ⟨rfl, _, rfl, fun _ => ?_, fun z => absurd z (by decide)⟩) (fun F' G' s2 gr no => ⟨rfl, _, rfl, fun z => absurd rfl z, fun _ => ?_⟩)
    · have k := scr_hole s2 gr
      have hb2 : HB (me F G 0) (me F G 1) (G 55 0) (G 55 1) (emM G) (F' 35 0) (F' 35 1) (F' 35 2) (F' 35 3) (F' 34 8) := hb_cg hB.2.2.2.2.1 hB.2.2.2.2.2.1 hB.2.2.2.2.2.2.1 hB.2.2.2.2.2.2.2 eqv hb
      have fin := hq F' G' _ k (Or.inr ⟨yw, Or.inr ⟨_, _, _, _, _, hb2, rfl⟩⟩)
      obtain ⟨⟨l, j, r, j2, hr, a1, a2, a3, a4⟩, hm, -⟩ := hb2
      obtain ⟨b1, b2, b3, b4, b5, b6, -⟩ := hr
      have sx := sq_x hx
      have sy := sq_y hx
      have u1 := (hx 0 (by omega) (by omega)).2.2.2.1
      have u2 := (hx 1 (by omega) (by omega)).2.2.2.1
      rw [msz_0] at u1
      rw [msz_1] at u2
      have c1 := rise_le sx.2.2.2 (i := 0) (j := l) (by omega) (by omega) (by omega)
      have c2 := rise_lt sx.2.2.2 (i := l) (j := r + 1) (by omega) (by omega) (by omega)
      have c3 := rise_le sx.2.2.2 (i := r + 1) (j := G 55 0) (by omega) (by omega) (by omega)
      have d1 := rise_le sy.2.2.2 (i := 0) (j := j) (by omega) (by omega) (by omega)
      have d2 := rise_lt sy.2.2.2 (i := j) (j := j2 + 1) (by omega) (by omega) (by omega)
      have d3 := rise_le sy.2.2.2 (i := j2 + 1) (j := G 55 1) (by omega) (by omega) (by omega)
      rw [sx.2.1] at c1
      rw [sx.2.2.1] at c3
      rw [sy.2.1] at d1
      rw [sy.2.2.1] at d3
      have ro : RO F' 35 := by
        unfold RO
        omega
      refine ⟨fun z => ⟨_, pu_side (at_35 hsh) w, ?_⟩, fun z => ⟨_, pu_cells (by omega) (at_35 hsh) ro, ?_⟩⟩
      · have e : sideR F' 35 w = if w = 0 then F' 35 0 else if w = 1 then F' 35 1 else if w = 2 then F' 35 2 else if w = 3 then F' 35 3 else F' 34 8 := by
          unfold sideR
          by_cases q0 : w = 0
          · rw [if_pos q0, if_pos q0]
          · rw [if_neg q0, if_neg q0]
            by_cases q1 : w = 1
            · rw [if_pos q1, if_pos q1]
            · rw [if_neg q1, if_neg q1]
              by_cases q2 : w = 2
              · rw [if_pos q2, if_pos q2]
              · rw [if_neg q2, if_neg q2, if_pos (show w = 3 by omega)]
        rw [e]
        exact fin
      · rw [← hm]
        rw [if_neg (by omega), if_neg (by omega), if_neg (by omega), if_neg (by omega)] at fin
        exact fin
    · exact hq F' G' _ (scr_hole s2 gr) (Or.inr ⟨yw, Or.inl ⟨fun l j r j2 hr => no l j r j2 ((hr_cg hB.2.2.2.2.1 hB.2.2.2.2.2.1 eqv).mpr hr), rfl⟩⟩)
  · have hsm := inv_shm h
    refine ok_go rfl (by decide) (Nat.le_of_ble_eq_true rfl) (R_X10_hole_0 hsm ?_)
    unfold V_X10_hole_0
    intro F1 e1
    subst e1
    have k := scr_thrown (F := F) (G := G)
    refine ⟨by omega, _, pu_isIn hsm _ _ _, fun q F9 e9 => ?_, fun q => hq _ G _ k (Or.inl ⟨bI_0.mp q, rfl⟩)⟩
    have yw : 0 ≤ w ∧ w ≤ 4 := Classical.byContradiction (fun z => q (bI_f z))
    have k9 : Scr F F9 G G := by
      rw [e9]
      exact scr_tr k (scr_f (by decide) (by decide) (by decide) (by decide) (by decide) (by decide) (by decide) (by decide) (by decide))
    have h9 := inv_scr h k9
    refine mhole (by omega) hsm (inv_mx h9) (inv_mba h9) (by rw [e9, fu_s]) yw.1 yw.2 (fun F' G' z k' p => hq F' G' z (scr_tr k9 k') (pho_scr k9 p))
end
