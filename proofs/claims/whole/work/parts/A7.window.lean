section
/-! WINDOW -/
noncomputable def wnW (F : AF) (G : AG) (g a b x y : Int) : Int := aS (mv F G g) x y (x + a - 1) (y + b - 1)
theorem col_aS {F : AF} {G : AG} (hx : MX F G) (g : Int) {x1 y1 x2 y2 : Int} (a0 : 0 ≤ x1) (a1 : x2 < F 53 1) (b0 : 0 ≤ y1) (b1 : y2 < F 53 2) : sI (fun i => colM F G g i y1 y2 * ov (me F G 0 i) (me F G 0 (i + 1)) x1 x2) (G 55 0) = aS (mv F G g) x1 y1 x2 y2 := by
  rw [sI_dS (sq_x hx) (fun i => colM F G g i y1 y2) a0 x2 a1]
  have e : ∀ i : Int, colM F G g i y1 y2 = dS (fun y => mu G g i (blk (me F G 1) (G 55 1) y)) y1 y2 := fun i => sI_dS (sq_y hx) (fun j => mu G g i j) b0 y2 b1
  simp only [e]
  exact dS_swap (fun x y => mu G g (blk (me F G 0) (G 55 0) x) (blk (me F G 1) (G 55 1) y)) x1 x2 y1 y2
def PWi (g a b w : Int) (F : AF) (G : AG) (z : Int) : Prop := (¬ ((0 ≤ g ∧ g ≤ 2) ∧ 0 ≤ w ∧ w ≤ 2) ∧ z = -2) ∨ (((0 ≤ g ∧ g ≤ 2) ∧ 0 ≤ w ∧ w ≤ 2) ∧ ((¬ ((1 ≤ a ∧ a ≤ F 53 1) ∧ 1 ≤ b ∧ b ≤ F 53 2) ∧ z = -3) ∨ (((1 ≤ a ∧ a ≤ F 53 1) ∧ 1 ≤ b ∧ b ≤ F 53 2) ∧ ∃ x y m : Int, Bst (PlR F G 0 a) (PlR F G 1 b) (wnW F G g a b) x y m ∧ z = if w = 0 then x else if w = 1 then y else m)))
theorem pwi_uniq {g a b w : Int} {F : AF} {G : AG} {z z' : Int} (h : PWi g a b w F G z) (h' : PWi g a b w F G z') : z = z' := by
  rcases h with ⟨c, e⟩ | ⟨c, e⟩
  · rcases h' with ⟨c', e'⟩ | ⟨c', e'⟩
    · rw [e, e']
    · exact absurd c' c
  · rcases h' with ⟨c', e'⟩ | ⟨c', e'⟩
    · exact absurd c c'
    · rcases e with ⟨f, e⟩ | ⟨f, x, y, m, q, e⟩
      · rcases e' with ⟨f', e'⟩ | ⟨f', -⟩
        · rw [e, e']
        · exact absurd f' f
      · rcases e' with ⟨f', e'⟩ | ⟨f', x', y', m', q', e'⟩
        · exact absurd f f'
        · obtain ⟨u1, u2, u3⟩ := bst_uniq q q'
          rw [e, e', u1, u2, u3]
theorem scr_pl {F F1 : AF} {G G1 : AG} (k : Scr F F1 G G1) (a sz : Int) : PlR F1 G1 a sz = PlR F G a sz := by
  funext q
  unfold PlR
  rw [scr_me k, (scr_g k).2.1, msz_cg k.2.2.1.1 k.2.2.1.2.1]
theorem pwi_scr {g a b w : Int} {F F1 : AF} {G G1 : AG} (k : Scr F F1 G G1) {z : Int} (h : PWi g a b w F1 G1 z) : PWi g a b w F G z := by
  unfold PWi at *
  have e : wnW F1 G1 g a b = wnW F G g a b := by
    funext x y
    unfold wnW
    rw [scr_mv k]
  rw [scr_pl k, scr_pl k, e, k.2.2.1.1, k.2.2.1.2.1] at h
  exact h
theorem stt_pl {F : AF} {G : AG} {o : Nat} {a sz q : Int} (hx : MX F G) (a0 : 0 ≤ a) (a1 : a ≤ 1) (eW : F o 2 = msz F a) (eb : ∀ c : Int, isC F G o c ↔ isB (me F G a) (G 55 a) c) (z0 : 1 ≤ sz) : Stt F G o sz q ↔ PlR F G a sz q := by
  have sq := sq_mx hx a0 a1
  have men : me F G a (G 55 a) = msz F a := me_n
  unfold Stt PlR
  rw [eW]
  constructor
  · rintro (e | ⟨c, hc, ⟨l, e⟩ | ⟨l, e⟩⟩)
    · exact Or.inl e
    · obtain ⟨i, i0, i1, ei⟩ := (eb c).mp hc
      have := isB_in sq ⟨i, i0, i1, rfl⟩
      exact Or.inr ⟨by omega, by omega, i, i0, by omega, Or.inl (by omega)⟩
    · obtain ⟨i, i0, i1, ei⟩ := (eb c).mp hc
      have := isB_in sq ⟨i, i0, i1, rfl⟩
      exact Or.inr ⟨by omega, by omega, i, i0, by omega, Or.inr (by omega)⟩
  · rintro (e | ⟨p1, p2, i, i0, i1, e⟩)
    · exact Or.inl e
    · by_cases c : i = G 55 a
      · rw [c, men] at e
        omega
      · refine Or.inr ⟨me F G a i, (eb _).mpr ⟨i, i0, by omega, rfl⟩, ?_⟩
        rcases e with e | e
        · exact Or.inl ⟨by omega, e⟩
        · exact Or.inr ⟨by omega, e⟩
theorem mwindow {d : Nat} {S : AS} {F : AF} {G : AG} (hd : 4 ≤ d) (hsm : ShM S) (hx : MX F G) (mba : MBA G) (mt : MT F G) {g a b w mX mY : Int} (g0 : 0 ≤ g) (g1 : g ≤ 2) (a0 : 1 ≤ a) (aw : a ≤ F 53 1) (b0 : 1 ≤ b) (bh : b ≤ F 53 2) (mX1 : 1 ≤ mX) (mX2 : mX ≤ 98) (mY1 : 1 ≤ mY) (mY2 : mY ≤ 98) (rX : ∀ i j : Int, 0 ≤ i → i < j → j < mX → G 75 i < G 75 j) (rY : ∀ i j : Int, 0 ≤ i → i < j → j < mY → G 76 i < G 76 j) (sX : ∀ i : Int, 0 ≤ i → i < mX → 0 ≤ G 75 i ∧ G 75 i ≤ F 53 1 - a) (sY : ∀ i : Int, 0 ≤ i → i < mY → 0 ≤ G 76 i ∧ G 76 i ≤ F 53 2 - b) {Q : AQ} (hq : ∀ (G' : AG) (x y m : Int), (∀ c : Nat, c ≠ 77 → G' c = G c) → Bs (fun j i => 0 ≤ j ∧ j < mY ∧ 0 ≤ i ∧ i < mX) (G 75) (G 76) (wnW F G g a b) x y m → Q (some (vJ (if w = 0 then x else if w = 1 then y else m))) S F G') : Go d MX10_window 99 [some (vR 53), some (vI g), some (vI a), some (vI b), some (vI w), some (vI mX), some (vI mY), some (vJ (-1)), none, some (vI 0), some (vI 0), some (vI 0), none, none, none, none] [] S F G Q := by
  have n1 := (hx 0 (by omega) (by omega)).2.1
  have n2 := (hx 1 (by omega) (by omega)).2.1
  have n0 := (hx 0 (by omega) (by omega)).1
  have w1 := (hx 0 (by omega) (by omega)).2.2.2.1
  have w2 := (hx 1 (by omega) (by omega)).2.2.2.1
  rw [msz_0] at w1
  rw [msz_1] at w2
  refine up_ind (α := AG × Int × Int × Int) (mY - 1) (fun r s => 0 ≤ r ∧ r ≤ mY ∧ (∀ c : Nat, c ≠ 77 → s.1 c = G c) ∧ Bs (fun j i => (0 ≤ j ∧ j < r) ∧ 0 ≤ i ∧ i < mX) (G 75) (G 76) (wnW F G g a b) s.2.2.1 s.2.2.2 s.2.1) (fun r s => Go d MX10_window 99 [some (vR 53), some (vI g), some (vI a), some (vI b), some (vI w), some (vI mX), some (vI mY), some (vJ s.2.1), none, some (vI s.2.2.1), some (vI s.2.2.2), some (vI r), none, none, none, none] [] S F s.1 Q) ?_ ?_ 0 (G, -1, 0, 0) ⟨by omega, by omega, fun _ _ => rfl, Or.inl ⟨rfl, fun j i z => by have := z.1; omega⟩⟩
  · rintro r ⟨G1, m, x, y⟩ ⟨r0, r1, gr, bs⟩ hr ih
    dsimp only at gr bs
    refine R_X10_window_99 hsm ?_
    unfold V_X10_window_99
    refine ⟨fun z => absurd z (by omega), fun _ => ?_⟩
    have yb := sY r r0 (by omega)
    -- the strip
    refine up_ind (α := AG) (G 55 0 - 1) (fun i G2 => 0 ≤ i ∧ i ≤ G 55 0 ∧ (∀ c : Nat, c ≠ 77 → G2 c = G c) ∧ ∀ t : Int, 0 ≤ t → t < i → G2 77 t = colM F G g t (G 76 r) (G 76 r + b - 1)) (fun i G2 => Go d MX10_window 109 [some (vR 53), some (vI g), some (vI a), some (vI b), some (vI w), some (vI mX), some (vI mY), some (vJ m), none, some (vI x), some (vI y), some (vI r), some (vI i), none, none, none] [] S F G2 Q) ?_ ?_ 0 G1 ⟨by omega, by omega, gr, fun t t0 t1 => absurd t1 (by omega)⟩
    · rintro i G2 ⟨i0, i1, g2, st⟩ hi ih2
      have s55 := g2 55 (by decide)
      have s54 := g2 54 (by decide)
      have s57 := g2 57 (by decide)
      have s76 := g2 76 (by decide)
      have hx2 : MX F G2 := mx_cg rfl rfl s54 s55 hx
      have em := fun a => me_cg (F := F) (F' := F) (G := G) (G' := G2) rfl rfl s54 s55 a
      have emu : mu G2 = mu G := by
        funext g i j
        unfold mu
        rw [s57]
      have mba2 : MBA G2 := by
        unfold MBA MB at *
        rw [s55, s57]
        exact mba
      have ec : colM F G2 g i (G 76 r) (G 76 r + b - 1) = colM F G g i (G 76 r) (G 76 r + b - 1) := by
        unfold colM fY
        rw [em, emu, s55]
      have pd := pu_downSum (d := d - 1) (S := S) (by omega) hsm hx2 mba2 (g := g) (i := i) (x := G 76 r) (y := G 76 r + b - 1) (by omega) g1 i0 (by rw [s55]; omega) (by omega) (by omega) (by omega) (by omega)
      rw [ec] at pd
      refine R_X10_window_109 hsm ?_
      unfold V_X10_window_109
      rw [s55, s76]
      refine ⟨fun z => absurd z (by omega), fun _ => ⟨r0, by omega, by omega, by omega, by omega, _, pd, i0, by omega, fun G14 e14 => ⟨by omega, ih2 G14 ⟨by omega, by omega, fun c hc => by rw [e14, gu_row hc]; exact g2 c hc, fun t t0 t1 => ?_⟩⟩⟩⟩
      by_cases e : t = i
      · rw [e14, e, gu_s]
      · rw [e14, gu_i e]; exact st t t0 (by omega)
    · rintro i G2 ⟨i0, i1, g2, st⟩ hi
      have s55 := g2 55 (by decide)
      have s54 := g2 54 (by decide)
      have hx2 : MX F G2 := mx_cg rfl rfl s54 s55 hx
      have em := fun a => me_cg (F := F) (F' := F) (G := G) (G' := G2) rfl rfl s54 s55 a
      refine R_X10_window_109 hsm ?_
      unfold V_X10_window_109
      rw [s55]
      refine ⟨fun _ => ?_, fun z => absurd z (by omega)⟩
      -- the columns
      refine up_ind (α := Int × Int × Int) (mX - 1) (fun c s => 0 ≤ c ∧ c ≤ mX ∧ Bs (fun j i => (0 ≤ j ∧ 0 ≤ i ∧ i < mX) ∧ (j < r ∨ (j = r ∧ i < c))) (G 75) (G 76) (wnW F G g a b) s.2.1 s.2.2 s.1) (fun c s => Go d MX10_window 161 [some (vR 53), some (vI g), some (vI a), some (vI b), some (vI w), some (vI mX), some (vI mY), some (vJ s.1), none, some (vI s.2.1), some (vI s.2.2), some (vI r), some (vI c), none, none, none] [] S F G2 Q) ?_ ?_ 0 (m, x, y) ⟨by omega, by omega, bs_c bs (fun j i => by omega)⟩
      · rintro c ⟨m2, x2, y2⟩ ⟨c0, c1, bs2⟩ hc ih3
        dsimp only at bs2
        have xb := sX c c0 (by omega)
        have s75 := g2 75 (by decide)
        have s76 := g2 76 (by decide)
        refine R_X10_window_161 hsm ?_
        unfold V_X10_window_161
        refine ⟨fun z => absurd z (by omega), fun _ => ?_⟩
        have tot := col_aS hx g (x1 := G 75 c) (y1 := G 76 r) (x2 := G 75 c + a - 1) (y2 := G 76 r + b - 1) xb.1 (by omega) yb.1 (by omega)
        have tle := mv_le hx mba mt g0 g1 (x1 := G 75 c) (y1 := G 76 r) (x2 := G 75 c + a - 1) (y2 := G 76 r + b - 1) xb.1 (by omega) yb.1 (by omega)
        rw [← tot] at tle
        have tp : ∀ t : Int, 0 ≤ t → t < G 55 0 → 0 ≤ colM F G g t (G 76 r) (G 76 r + b - 1) * ov (me F G 0 t) (me F G 0 (t + 1)) (G 75 c) (G 75 c + a - 1) := fun t t0 t1 => Int.mul_nonneg (colM_pos hx mba (by omega) g1 t0 t1) (ov_pos _ _ _ _)
        -- the sum
        refine up_ind (α := Unit) (G 55 0 - 1) (fun t _ => 0 ≤ t ∧ t ≤ G 55 0) (fun t _ => Go d MX10_window 174 [some (vR 53), some (vI g), some (vI a), some (vI b), some (vI w), some (vI mX), some (vI mY), some (vJ m2), none, some (vI x2), some (vI y2), some (vI r), some (vI c), some (vJ (sI (fun i => colM F G g i (G 76 r) (G 76 r + b - 1) * ov (me F G 0 i) (me F G 0 (i + 1)) (G 75 c) (G 75 c + a - 1)) t)), none, some (vI t)] [] S F G2 Q) ?_ ?_ 0 () ⟨by omega, by omega⟩
        · rintro t - ⟨t0, t1⟩ ht ih4
          have pp := pu_part (d := d - 1) (S := S) (F := F) (G := G2) (by omega) hsm hx2 (a := 0) (i := t) (x := G 75 c) (y := G 75 c + a - 1) (by omega) (by omega) t0 (by rw [s55]; omega) (by omega) (by omega) (by omega) (by omega)
          rw [em] at pp
          have pt := sI_part (f := fun i => colM F G g i (G 76 r) (G 76 r + b - 1) * ov (me F G 0 i) (me F G 0 (i + 1)) (G 75 c) (G 75 c + a - 1)) (n := G 55 0) (m := t + 1) (by omega) (by omega) tp
          have s1 := sI_1 (fun i => colM F G g i (G 76 r) (G 76 r + b - 1) * ov (me F G 0 i) (me F G 0 (i + 1)) (G 75 c) (G 75 c + a - 1)) t0
          have p0 := sI_pos (f := fun i => colM F G g i (G 76 r) (G 76 r + b - 1) * ov (me F G 0 i) (me F G 0 (i + 1)) (G 75 c) (G 75 c + a - 1)) (n := t) (fun i i0 i1 => tp i i0 (by omega))
          have pt0 := tp t t0 (by omega)
          refine R_X10_window_174 hsm ?_
          unfold V_X10_window_174
          rw [s55, s75, st t t0 (by omega)]
          refine ⟨fun z => absurd z (by omega), fun _ => ⟨t0, by omega, c0, by omega, by omega, by omega, by omega, _, pp, by omega, by omega, fun x22 e22 => ⟨by omega, ?_⟩⟩⟩
          rw [e22, ← s1]
          exact ih4 () ⟨by omega, by omega⟩
        · rintro t - ⟨t0, t1⟩ ht
          have et : t = G 55 0 := by omega
          subst et
          refine R_X10_window_174 hsm ?_
          unfold V_X10_window_174
          rw [s55, s75, s76, tot]
          rw [tot] at tle
          have eW : aS (mv F G g) (G 75 c) (G 76 r) (G 75 c + a - 1) (G 76 r + b - 1) = wnW F G g a b (G 75 c) (G 76 r) := rfl
          rw [eW] at tle ⊢
          have next : ∀ (m3 x3 y3 q1 q2 : Int), Bs (fun j i => (0 ≤ j ∧ 0 ≤ i ∧ i < mX) ∧ (j < r ∨ (j = r ∧ i < c + 1))) (G 75) (G 76) (wnW F G g a b) x3 y3 m3 → V_X10_window_263 d S F G2 Q g a b w mX mY m3 x3 y3 r c q1 q2 := by
            intro m3 x3 y3 q1 q2 b3
            unfold V_X10_window_263
            exact ⟨by omega, ih3 (m3, x3, y3) ⟨by omega, by omega, b3⟩⟩
          have hp : ∀ b' a' : Int, ((0 ≤ b' ∧ 0 ≤ a' ∧ a' < mX) ∧ (b' < r ∨ (b' = r ∧ a' < c + 1))) ↔ (((0 ≤ b' ∧ 0 ≤ a' ∧ a' < mX) ∧ (b' < r ∨ (b' = r ∧ a' < c))) ∨ (b' = r ∧ a' = c)) := fun b' a' => by omega
          refine ⟨fun _ => ⟨fun lt => ⟨c0, by omega, fun x3 e3 => ⟨r0, by omega, fun x6 e6 => ?_⟩⟩, fun nl => next m2 x2 y2 _ _ (bs_old (j := r) (i := c) bs2 hp tle.1 ?_)⟩, fun z => absurd (Int.le_refl _) z⟩
          · rw [e3, e6]
            exact next _ _ _ _ _ (bs_new (j := r) (i := c) bs2 hp (Or.inl lt))
          · rintro (z | ⟨z1, z2⟩)
            · exact nl z
            · rcases bs2 with ⟨e, -⟩ | ⟨⟨j', i', pr, ex, ey, -⟩, -⟩
              · omega
              · rcases pr.2 with l | ⟨l1, l2⟩
                · have := rY j' r pr.1.1 l (by omega)
                  omega
                · rw [l1] at ey
                  have := rX i' c pr.1.2.1 l2 (by omega)
                  omega
      · rintro c ⟨m2, x2, y2⟩ ⟨c0, c1, bs2⟩ hc
        dsimp only at bs2
        refine R_X10_window_161 hsm ?_
        unfold V_X10_window_161
        exact ⟨fun _ => ⟨by omega, ih (G2, m2, x2, y2) ⟨by omega, by omega, g2, bs_c bs2 (fun j i => by omega)⟩⟩, fun z => absurd (by omega) z⟩
  · rintro r ⟨G1, m, x, y⟩ ⟨r0, r1, gr, bs⟩ hr
    dsimp only at gr bs
    have fin := hq G1 x y m gr (bs_c bs (fun j i => by omega))
    refine R_X10_window_99 hsm ?_
    unfold V_X10_window_99
    refine ⟨fun _ => ⟨fun z1 => ⟨fun z2 => ?_, fun z2 => ?_⟩, fun z1 => ?_⟩, fun z => absurd (by omega) z⟩
    · rw [if_neg z1, if_neg z2] at fin; exact fin
    · rw [if_neg z1, if_pos z2] at fin; exact fin
    · rw [if_pos z1] at fin; exact fin
theorem pr_window {d : Nat} {S : AS} {F : AF} {G : AG} {b' : Int} (hd : 6 ≤ d) (h : Inv S F G b') (g a b w : Int) : Pr d MX9_window MX10_window [vR 1, vI g, vI a, vI b, vI w] [vR 53, vI g, vI a, vI b, vI w] vJ S F G b' := by
  refine pr_rel (P := PWi g a b w) h (fun z z' p p' => pwi_uniq p p') (fun F1 G1 k z p => pwi_scr k p) (fun Q hq => ?_) (fun F G h Q hq => ?_)
  · have hsh := inv_shc h
    have sz := inv_sz h
    have hc := inv_cc h
    have hx := inv_mx h
    obtain ⟨-, kk, -⟩ := inv_ci h
    refine ok_go rfl (by decide) (Nat.le_of_ble_eq_true rfl) (R_X9_window_0 hsh ?_)
    unfold V_X9_window_0
    have bad2 : ¬ ((0 ≤ g ∧ g ≤ 2) ∧ 0 ≤ w ∧ w ≤ 2) → Q (some (vJ (-2))) S F G := fun n => hq F G _ (scr_rf F G) (Or.inl ⟨n, rfl⟩)
    refine ⟨by omega, _, pu_cisGood hsh g, fun q => bad2 (fun z => bI_0.mp q z.1), fun q => ⟨fun q2 => bad2 (fun z => by omega), fun q2 => ⟨fun q3 => ?_, fun q3 => bad2 (fun z => by omega)⟩⟩⟩
    have yg : 0 ≤ g ∧ g ≤ 2 := Classical.byContradiction (fun z => q (bI_f z))
    have yw : 0 ≤ w ∧ w ≤ 2 := by omega
    have bad3 : ¬ ((1 ≤ a ∧ a ≤ F 53 1) ∧ 1 ≤ b ∧ b ≤ F 53 2) → Q (some (vJ (-3))) S F G := fun n => hq F G _ (scr_rf F G) (Or.inr ⟨⟨yg, yw⟩, Or.inl ⟨n, rfl⟩⟩)
    have pw := pu_width (d := d - 1) (S := S) (F := F) (G := G) (at_17 hsh) (by rw [hc.2.2.1, hc.2.2.2.2.1]; omega) (by rw [hc.2.2.1, hc.2.2.2.2.1]; omega)
    have ph := pu_height (d := d - 1) (S := S) (F := F) (G := G) (at_17 hsh) (by rw [hc.2.2.2.1, hc.2.2.2.2.2]; omega) (by rw [hc.2.2.2.1, hc.2.2.2.2.2]; omega)
    have e17w : F 17 2 - F 17 0 + 1 = F 53 1 := by rw [hc.2.2.1, hc.2.2.2.2.1]; omega
    have e17h : F 17 3 - F 17 1 + 1 = F 53 2 := by rw [hc.2.2.2.1, hc.2.2.2.2.2]; omega
    rw [e17w] at pw
    rw [e17h] at ph
    refine ⟨fun q4 => bad3 (fun z => by omega), fun q4 => ⟨_, pw, fun q5 => bad3 (fun z => by omega), fun q5 => ⟨fun q6 => bad3 (fun z => by omega), fun q6 => ⟨_, ph, fun q7 => ?_, fun q7 => bad3 (fun z => by omega)⟩⟩⟩⟩
    have ok : (1 ≤ a ∧ a ≤ F 53 1) ∧ 1 ≤ b ∧ b ≤ F 53 2 := by omega
    refine ok_findWindow (by omega) hsh hc (inv_pba h) (inv_ct h) yg.1 yg.2 ok.1.1 (by omega) ok.2.1 (by omega) (fun F' G' s34 gr bst => ⟨rfl, rfl, ?_⟩)
    have kG : Scr F' F' G G' := ⟨fun _ _ _ _ _ _ _ _ _ => rfl, ⟨rfl, rfl, rfl⟩, ⟨rfl, rfl, rfl, rfl, rfl, rfl, rfl, rfl, rfl⟩, fun c _ _ _ _ _ _ _ h1 _ _ _ => gr c (by omega) (by omega) (by omega) (by omega) (by omega)⟩
    have k := scr_tr (scr_34 (G := G) s34) kG
    have bst2 : Bst (PlR F G 0 a) (PlR F G 1 b) (wnW F G g a b) (F' 34 4) (F' 34 5) (F' 34 8) := bst_cg bst (fun q => stt_pl hx (by omega) (by omega) (by rw [msz_0]; exact sz.1) kk.1.2.2.2.1 ok.1.1) (fun q => stt_pl hx (by omega) (by omega) (by rw [msz_1]; exact sz.2.1) kk.1.2.2.2.2 ok.2.1) (fun x y sx sy => by
      have bx := stt_in hc.1 ok.1.1 (by omega) sx
      have by' := stt_in hc.2.1 ok.2.1 (by omega) sy
      exact inv_aS h (by omega) yg.2 bx.1 (by omega) by'.1 (by omega))
    have fin := hq F' G' _ k (Or.inr ⟨⟨yg, yw⟩, Or.inr ⟨ok, _, _, _, bst2, rfl⟩⟩)
    refine ⟨fun z1 => ?_, fun z1 => ?_, fun z1 => ?_⟩
    · rw [if_pos z1] at fin; exact fin
    · rw [if_neg (by omega), if_pos z1] at fin; exact fin
    · rw [if_neg z1.1, if_neg z1.2] at fin; exact fin
  · have hsm := inv_shm h
    refine ok_go rfl (by decide) (Nat.le_of_ble_eq_true rfl) (R_X10_window_0 hsm ?_)
    unfold V_X10_window_0
    intro F1 e1
    subst e1
    have k := scr_thrown (F := F) (G := G)
    have h1 := inv_scr h k
    have hq' : ∀ (G' : AG) (z : Int), Scr (fu F 53 0 0) (fu F 53 0 0) G G' → PWi g a b w (fu F 53 0 0) G z → Q (some (vJ z)) S (fu F 53 0 0) G' := fun G' z k' p => hq _ G' z (scr_tr k k') (pwi_scr k p)
    clear hq
    generalize hF1 : fu F 53 0 0 = F1 at *
    have sz := inv_sz h1
    have hx := inv_mx h1
    refine ⟨by omega, _, pu_isGood (by omega) hsm g, fun q => hq' G _ (scr_rf _ _) (Or.inl ⟨fun z => bI_0.mp q z.1, rfl⟩), fun q => ⟨_, pu_isIn hsm _ _ _, fun q2 => ?_, fun q2 => hq' G _ (scr_rf _ _) (Or.inl ⟨fun z => bI_0.mp q2 z.2, rfl⟩)⟩⟩
    have yg : 0 ≤ g ∧ g ≤ 2 := Classical.byContradiction (fun z => q (bI_f z))
    have yw : 0 ≤ w ∧ w ≤ 2 := Classical.byContradiction (fun z => q2 (bI_f z))
    refine ⟨_, pu_isIn hsm _ _ _, fun q3 => hq' G _ (scr_rf _ _) (Or.inr ⟨⟨yg, yw⟩, Or.inl ⟨fun z => bI_0.mp q3 z.1, rfl⟩⟩), fun q3 => ⟨_, pu_isIn hsm _ _ _, fun q4 => ?_, fun q4 => hq' G _ (scr_rf _ _) (Or.inr ⟨⟨yg, yw⟩, Or.inl ⟨fun z => bI_0.mp q4 z.2, rfl⟩⟩)⟩⟩
    have oa : 1 ≤ a ∧ a ≤ F1 53 1 := Classical.byContradiction (fun z => q3 (bI_f z))
    have ob : 1 ≤ b ∧ b ≤ F1 53 2 := Classical.byContradiction (fun z => q4 (bI_f z))
    refine ok_laysPlaces (by omega) hsm hx (by omega) (by omega) oa.1 (by rw [msz_0]; exact oa.2) (Or.inl rfl) (fun G30 mX gx x1 x2 rX sX => ⟨rfl, _, rfl, ?_⟩)
    have hx30 : MX F1 G30 := mx_cg rfl rfl (gx 54 (by decide)) (gx 55 (by decide)) hx
    refine ok_laysPlaces (by omega) hsm hx30 (by omega) (by omega) ob.1 (by rw [msz_1]; exact ob.2) (Or.inr rfl) (fun G35 mY gy y1 y2 rY sY => ⟨rfl, _, rfl, ?_⟩)
    have gg : ∀ c : Nat, c ≠ 75 → c ≠ 76 → G35 c = G c := fun c h1 h2 => (gy c h2).trans (gx c h1)
    have k35 : Scr F1 F1 G G35 := ⟨fun _ _ _ _ _ _ _ _ _ => rfl, ⟨rfl, rfl, rfl⟩, ⟨rfl, rfl, rfl, rfl, rfl, rfl, rfl, rfl, rfl⟩, fun c _ _ _ _ _ _ _ _ _ _ h1 => gg c (by omega) (by omega)⟩
    have k30 : Scr F1 F1 G G30 := ⟨fun _ _ _ _ _ _ _ _ _ => rfl, ⟨rfl, rfl, rfl⟩, ⟨rfl, rfl, rfl, rfl, rfl, rfl, rfl, rfl, rfl⟩, fun c _ _ _ _ _ _ _ _ _ _ h1 => gx c (by omega)⟩
    have h35 := inv_scr h1 k35
    have pX : ∀ q : Int, isB (G35 75) mX q ↔ PlR F1 G 0 a q := fun q => by rw [gy 75 (by decide)]; exact sX q
    have pY : ∀ q : Int, isB (G35 76) mY q ↔ PlR F1 G 1 b q := fun q => by rw [sY q, scr_pl k30]
    have plle : ∀ (ax sz' q : Int), 1 ≤ sz' → sz' ≤ msz F1 ax → PlR F1 G ax sz' q → 0 ≤ q ∧ q ≤ msz F1 ax - sz' := by
      intro ax sz' q s1 s2 p
      rcases p with p | ⟨p, p2, -⟩
      · omega
      · omega
    refine mwindow (by omega) hsm (inv_mx h35) (inv_mba h35) (inv_mt h35) yg.1 yg.2 oa.1 oa.2 ob.1 ob.2 x1 x2 y1 y2 (fun i j i0 ij jm => by rw [gy 75 (by decide)]; exact rX i j i0 ij jm) rY (fun i i0 i1 => ?_) (fun i i0 i1 => ?_) (fun G' x y m gr bs => ?_)
    · have := plle 0 a _ oa.1 (by rw [msz_0]; exact oa.2) ((pX _).mp ⟨i, i0, i1, rfl⟩)
      rw [msz_0] at this
      exact this
    · have := plle 1 b _ ob.1 (by rw [msz_1]; exact ob.2) ((pY _).mp ⟨i, i0, i1, rfl⟩)
      rw [msz_1] at this
      exact this
    · have kG : Scr F1 F1 G35 G' := ⟨fun _ _ _ _ _ _ _ _ _ => rfl, ⟨rfl, rfl, rfl⟩, ⟨rfl, rfl, rfl, rfl, rfl, rfl, rfl, rfl, rfl⟩, fun c _ _ _ _ _ _ _ _ _ _ h1 => gr c (by omega)⟩
      have eW : wnW F1 G35 g a b = wnW F1 G g a b := by
        funext x y
        unfold wnW
        rw [scr_mv k35]
      rw [eW] at bs
      refine hq' G' _ (scr_tr k35 kG) (Or.inr ⟨⟨yg, yw⟩, Or.inr ⟨⟨oa, ob⟩, x, y, m, ?_, rfl⟩⟩)
      rcases bs with ⟨-, no⟩ | ⟨⟨j, i, pr, ex, ey, em⟩, all⟩
      · exact absurd ⟨Int.le_refl 0, (by omega : (0 : Int) < mY), Int.le_refl 0, (by omega : (0 : Int) < mX)⟩ (no 0 0)
      · refine ⟨(pX x).mp ⟨i, pr.2.2.1, pr.2.2.2, ex.symm⟩, (pY y).mp ⟨j, pr.1, pr.2.1, ey.symm⟩, em, fun x' y' hx' hy' => ?_⟩
        obtain ⟨i', i0', i1', ei'⟩ := (pX x').mpr hx'
        obtain ⟨j', j0', j1', ej'⟩ := (pY y').mpr hy'
        have := all j' i' ⟨j0', j1', i0', i1'⟩
        rw [ei', ej'] at this
        exact this
end
