/-! THE FULLEST LINE; THE DEPOT -/
theorem ln_m1 {S : AS} {F : AF} {G : AG} {b : Int} (h : Inv S F G b) {g i : Int} (g0 : -1 ≤ g) (g1 : g ≤ 2) (i0 : 0 ≤ i) (i1 : i < G 55 0) : LN F G 1 g i = mLN F G g 0 i := by
  obtain ⟨n1, n2, e1, e2⟩ := inv_rows h.2.1
  have sz := inv_sz h
  show sI (fun j => cu G 18 g i j * ov (G 12 j) (G 12 (j + 1)) 0 (F 11 2 - 1)) (F 11 1) = sI (fun j => mu G g i j * ov (me F G 1 j) (me F G 1 (j + 1)) 0 (F 53 2 - 1)) (G 55 1)
  rw [← n2, ← sz.2.1]
  exact sI_congr (fun j j0 j1 => by rw [inv_cu h g0 g1 i0 (by omega) j0 j1, e2 j j0 (by omega), e2 (j + 1) (by omega) (by omega)])
theorem ln_m0 {S : AS} {F : AF} {G : AG} {b : Int} (h : Inv S F G b) {g j : Int} (g0 : -1 ≤ g) (g1 : g ≤ 2) (j0 : 0 ≤ j) (j1 : j < G 55 1) : LN F G 0 g j = mLN F G g 1 j := by
  obtain ⟨n1, n2, e1, e2⟩ := inv_rows h.2.1
  have sz := inv_sz h
  show sI (fun i => cu G 18 g i j * ov (G 5 i) (G 5 (i + 1)) 0 (F 4 2 - 1)) (F 4 1) = sI (fun i => mu G g i j * ov (me F G 0 i) (me F G 0 (i + 1)) 0 (F 53 1 - 1)) (G 55 0)
  rw [← n1, ← sz.1]
  exact sI_congr (fun i i0 i1 => by rw [inv_cu h g0 g1 i0 i1 j0 (by omega), e1 i i0 (by omega), e1 (i + 1) (by omega) (by omega)])
theorem mln_tot {S : AS} {F : AF} {G : AG} {b : Int} (h : Inv S F G b) {g a : Int} (g0 : 0 ≤ g) (g1 : g ≤ 2) (a0 : 0 ≤ a) (a1 : a ≤ 1) : sI (fun b => mLN F G g a b * WD (me F G a) b) (G 55 a) = G 59 g := by
  have hx := inv_mx h
  rw [(inv_all h g0 g1).1]
  by_cases w : a = 0
  · subst w
    rw [← tot_D hx g]
    refine sI_congr (fun i i0 i1 => ?_)
    have e := ov_full (sq_x hx) i0 i1
    show mLN F G g 0 i * (me F G 0 (i + 1) - me F G 0 i) = rwS (me F G 1) (G 55 1) (mu G g) 0 (F 53 2 - 1) i * ov (me F G 0 i) (me F G 0 (i + 1)) 0 (F 53 1 - 1)
    rw [e]
    rfl
  · have : a = 1 := by omega
    subst this
    rw [← mtot hx (by omega) (by omega) (by omega) (by omega)]
    refine sI_congr (fun i i0 i1 => ?_)
    have e := ov_full (sq_y hx) i0 i1
    show mLN F G g 1 i * (me F G 1 (i + 1) - me F G 1 i) = rwS (me F G 0) (G 55 0) (mq G g) 0 (F 53 1 - 1) i * ov (me F G 1 i) (me F G 1 (i + 1)) 0 (F 53 2 - 1)
    rw [e]
    rfl
/-- one road of the system is one axis of the reference -/
theorem ln_ax {S : AS} {F : AF} {G : AG} {b : Int} (h : Inv S F G b) {g a : Int} (g0 : -1 ≤ g) (g1 : g ≤ 2) (a0 : 0 ≤ a) (a1 : a ≤ 1) : F (out (1 - a)) 1 = G 55 a ∧ F (out (1 - a)) 2 = msz F a ∧ (∀ i : Int, 0 ≤ i → i ≤ G 55 a → G (out (1 - a) + 1) i = me F G a i) ∧ ∀ i : Int, 0 ≤ i → i < G 55 a → LN F G (1 - a) g i = mLN F G g a i := by
  obtain ⟨n1, n2, e1, e2⟩ := inv_rows h.2.1
  have sz := inv_sz h
  by_cases w : a = 0
  · subst w
    exact ⟨n1, sz.1, fun i i0 i1 => e1 i i0 (by omega), fun i i0 i1 => ln_m1 h g0 g1 i0 i1⟩
  · have : a = 1 := by omega
    subst this
    exact ⟨n2, sz.2.1, fun i i0 i1 => e2 i i0 (by omega), fun i i0 i1 => ln_m0 h g0 g1 i0 i1⟩
theorem scr_mln {F F' : AF} {G G' : AG} (k : Scr F F' G G') : mLN F' G' = mLN F G := by
  funext g a i
  unfold mLN colM rowM fX fY
  rw [scr_me k, scr_me k, scr_mu k, (scr_g k).2.1, k.2.2.1.1, k.2.2.1.2.1]
def PLn (g a w : Int) (F : AF) (G : AG) (z : Int) : Prop := (¬ ((0 ≤ g ∧ g ≤ 2) ∧ (0 ≤ a ∧ a ≤ 1) ∧ 0 ≤ w ∧ w ≤ 1) ∧ z = -2) ∨ (((0 ≤ g ∧ g ≤ 2) ∧ (0 ≤ a ∧ a ≤ 1) ∧ 0 ≤ w ∧ w ≤ 1) ∧ ∃ i : Int, Amx (mLN F G g a) (G 55 a) i ∧ z = if w = 0 then me F G a i else mLN F G g a i)
theorem pln_uniq {g a w z z' : Int} {F : AF} {G : AG} (p : PLn g a w F G z) (p' : PLn g a w F G z') : z = z' := by
  rcases p with ⟨c, e⟩ | ⟨c, i, f, e⟩
  · rcases p' with ⟨-, e'⟩ | ⟨c', -⟩
    · rw [e, e']
    · exact absurd c' c
  · rcases p' with ⟨c', -⟩ | ⟨-, i', f', e'⟩
    · exact absurd c c'
    · rw [e, e', amx_uniq f f']
theorem pln_scr {F F1 : AF} {G G1 : AG} (k : Scr F F1 G G1) {g a w z : Int} (p : PLn g a w F1 G1 z) : PLn g a w F G z := by
  unfold PLn at *
  rw [scr_mln k, (scr_g k).2.1, scr_me k] at p
  exact p
theorem amx_cg {f f' : Int → Int} {n b : Int} (h : ∀ i : Int, 0 ≤ i → i < n → f i = f' i) (a : Amx f n b) : Amx f' n b := by
  obtain ⟨a1, a2, a3, a4⟩ := a
  refine ⟨a1, a2, fun i i0 i1 => ?_, fun i i0 i1 => ?_⟩
  · rw [← h i i0 (by omega), ← h b a1 a2]; exact a3 i i0 i1
  · rw [← h i (by omega) i1, ← h b a1 a2]; exact a4 i i0 i1
theorem pr_line {d : Nat} {S : AS} {F : AF} {G : AG} {b : Int} (hd : 6 ≤ d) (h : Inv S F G b) (g a w : Int) : Pr d MX9_line MX10_line [vR 1, vI g, vI a, vI w] [vR 53, vI g, vI a, vI w] vJ S F G b := by
  refine pr_rel (P := PLn g a w) h (fun z z' p p' => pln_uniq p p') (fun F1 G1 k z p => pln_scr k p) (fun Q hq => ?_) (fun F G h Q hq => ?_)
  · have hsh := inv_shc h
    refine ok_go rfl (by decide) (Nat.le_of_ble_eq_true rfl) (R_X9_line_0 hsh ?_)
    unfold V_X9_line_0
    refine ⟨by omega, _, pu_cisGood hsh g, fun q => hq F G _ (scr_rf F G) (Or.inl ⟨fun z => bI_0.mp q z.1, rfl⟩), fun q => ⟨_, pu_isAxis hsh a, fun q2 => hq F G _ (scr_rf F G) (Or.inl ⟨fun z => bI_0.mp q2 z.2.1, rfl⟩), fun q2 => ⟨fun q3 => hq F G _ (scr_rf F G) (Or.inl ⟨fun z => by omega, rfl⟩), fun q3 => ⟨fun q4 => ?_, fun q4 => hq F G _ (scr_rf F G) (Or.inl ⟨fun z => by omega, rfl⟩)⟩⟩⟩⟩
    have yg : 0 ≤ g ∧ g ≤ 2 := Classical.byContradiction (fun z => q (bI_f z))
    have ya : 0 ≤ a ∧ a ≤ 1 := Classical.byContradiction (fun z => q2 (bI_f z))
    have yw : 0 ≤ w ∧ w ≤ 1 := ⟨by omega, q4⟩
    have fin : V_X9_line_41 d S F G Q g a w (1 - a) g := by
      unfold V_X9_line_41
      obtain ⟨n1, n2, n3, n4⟩ := ln_ax h (g := g) (by omega) yg.2 ya.1 ya.2
      refine ⟨by omega, ok_findLine (by omega) hsh (inv_cc h) (inv_pba h) (by omega) yg.2 (fun F' i s am e8 => ⟨rfl, _, rfl, fun w0 => ?_, fun w0 => ?_⟩)⟩
      · rw [n1] at am
        rw [e8]
        refine hq F' G _ (scr_34 s) (Or.inr ⟨⟨yg, ya, yw⟩, i, amx_cg n4 am, ?_⟩)
        rw [if_neg w0, n4 i am.1 am.2.1]
      · rw [n1] at am
        refine hq F' G _ (scr_34 s) (Or.inr ⟨⟨yg, ya, yw⟩, i, amx_cg n4 am, ?_⟩)
        have am1 := am.1
        have am2 := am.2.1
        rw [if_pos w0, n3 i am1 (by omega)]
    refine ⟨fun a0 => ?_, fun a0 => ?_⟩
    · have e : (0 : Int) = 1 - a := by omega
      rw [e]; exact fin
    · have e : (1 : Int) = 1 - a := by omega
      have fin' := fin
      rw [← e] at fin'
      exact fin'
  · have hsm := inv_shm h
    refine ok_go rfl (by decide) (Nat.le_of_ble_eq_true rfl) (R_X10_line_0 hsm ?_)
    unfold V_X10_line_0
    intro F1 e1
    subst e1
    have k := scr_thrown (F := F) (G := G)
    have h1 := inv_scr h k
    have hq' : ∀ (F' : AF) (G' : AG) (z : Int), Scr (fu F 53 0 0) F' G G' → PLn g a w (fu F 53 0 0) G z → Q (some (vJ z)) S F' G' := fun F' G' z k' p => hq F' G' z (scr_tr k k') (pln_scr k p)
    clear hq
    generalize hF1 : fu F 53 0 0 = F1 at *
    have hx := inv_mx h1
    refine ⟨by omega, _, pu_isGood (by omega) hsm g, fun q => hq' F1 G _ (scr_rf _ _) (Or.inl ⟨fun z => bI_0.mp q z.1, rfl⟩), fun q => ⟨_, pu_isIn hsm _ _ _, fun q2 => hq' F1 G _ (scr_rf _ _) (Or.inl ⟨fun z => bI_0.mp q2 z.2.1, rfl⟩), fun q2 => ⟨_, pu_isIn hsm _ _ _, fun q3 => ?_, fun q3 => hq' F1 G _ (scr_rf _ _) (Or.inl ⟨fun z => bI_0.mp q3 z.2.2, rfl⟩)⟩⟩⟩
    have yg : 0 ≤ g ∧ g ≤ 2 := Classical.byContradiction (fun z => q (bI_f z))
    have ya : 0 ≤ a ∧ a ≤ 1 := Classical.byContradiction (fun z => q2 (bI_f z))
    have yw : 0 ≤ w ∧ w ≤ 1 := Classical.byContradiction (fun z => q3 (bI_f z))
    have m0 := hx a ya.1 ya.2
    have main : ∀ (k : Nat) (i v e : Int), 0 ≤ i → i ≤ G 55 a → (G 55 a - i).toNat ≤ k → ((i = 0 ∧ v = -1) ∨ ∃ j : Int, Amx (mLN F1 G g a) i j ∧ v = mLN F1 G g a j ∧ e = me F1 G a j) → Go d MX10_line 47 [some (vR 53), some (vI g), some (vI a), some (vI w), some (vJ v), none, some (vI e), some (vI i), none, none] [] S F1 G Q := by
      have stop : ∀ (v e : Int), ((G 55 a = 0 ∧ v = -1) ∨ ∃ j : Int, Amx (mLN F1 G g a) (G 55 a) j ∧ v = mLN F1 G g a j ∧ e = me F1 G a j) → ((¬ w = 0) → Q (some (vJ v)) S F1 G) ∧ ((w = 0) → Q (some (vJ e)) S F1 G) := by
        intro v e hv
        rcases hv with ⟨z, -⟩ | ⟨j, am, e1, e2⟩
        · omega
        · refine ⟨fun w0 => hq' F1 G _ (scr_rf _ _) (Or.inr ⟨⟨yg, ya, yw⟩, j, am, by rw [if_neg w0]; exact e1⟩), fun w0 => hq' F1 G _ (scr_rf _ _) (Or.inr ⟨⟨yg, ya, yw⟩, j, am, by rw [if_pos w0]; exact e2⟩)⟩
      intro k
      induction k with
      | zero =>
        intro i v e i0 i1 i2 hv
        have ei : i = G 55 a := by omega
        subst ei
        refine R_X10_line_47 hsm ?_
        unfold V_X10_line_47
        exact ⟨ya.1, by omega, fun _ => stop v e hv, fun z => absurd z (by omega)⟩
      | succ k ih =>
        intro i v e i0 i1 i2 hv
        refine R_X10_line_47 hsm ?_
        unfold V_X10_line_47
        refine ⟨ya.1, by omega, fun z => ?_, fun z => ?_⟩
        · have ei : i = G 55 a := by omega
          subst ei
          exact stop v e hv
        · have pl := pu_lineOf (d := d - 1) (S := S) (by omega) hsm hx (inv_mba h1) (g := g) (by omega) yg.2 ya.1 ya.2 i0 (by omega)
          have mp := mln_pos hx (inv_mba h1) (g := g) (by omega) yg.2 ya.1 ya.2 i0 (by omega)
          refine ⟨by omega, mLN F1 G g a i, pl, fun lt => ⟨_, pu_edgeAt (by omega) hsm hx ya.1 ya.2 i0 (by omega), ?_⟩, fun lt => ?_⟩
          · unfold V_X10_line_92
            refine ⟨by omega, ih (i + 1) _ _ (by omega) (by omega) (by omega) (Or.inr ⟨i, ⟨i0, by omega, fun j j0 j1 => ?_, fun j j0 j1 => ?_⟩, rfl, rfl⟩)⟩
            · rcases hv with ⟨z1, -⟩ | ⟨j', ⟨c1, c2, c3, c4⟩, e1, -⟩
              · omega
              · by_cases jj : j < j'
                · have := c3 j j0 jj
                  omega
                · have := c4 j (by omega) j1
                  omega
            · have : j = i := by omega
              subst this
              omega
          · unfold V_X10_line_92
            refine ⟨by omega, ih (i + 1) _ _ (by omega) (by omega) (by omega) ?_⟩
            rcases hv with ⟨z1, z2⟩ | ⟨j', ⟨c1, c2, c3, c4⟩, e1, e2⟩
            · omega
            · refine Or.inr ⟨j', ⟨c1, by omega, c3, fun j j0 j1 => ?_⟩, e1, e2⟩
              by_cases jj : j < i
              · exact c4 j j0 jj
              · have : j = i := by omega
                subst this
                omega
    exact main _ 0 (-1) 0 (by omega) (by omega) (Nat.le_refl _) (Or.inl ⟨rfl, rfl⟩)
