/-! MORE PAIRS THAT ASK -/
theorem sI_swap (f : Int → Int → Int) (n m : Int) : sI (fun i => sI (fun j => f i j) m) n = sI (fun j => sI (fun i => f i j) n) m := by
  by_cases n0 : 0 ≤ n
  · have main : ∀ k : Nat, sI (fun i => sI (fun j => f i j) m) k = sI (fun j => sI (fun i => f i j) k) m := by
      intro k
      induction k with
      | zero =>
        rw [sI_0 _ (by omega)]
        have : sI (fun j => sI (fun i => f i j) ((0 : Nat) : Int)) m = sI (fun _ => 0) m := sI_congr (fun j _ _ => sI_0 _ (by omega))
        rw [this, sI_z]
      | succ k ih =>
        have e : ((k + 1 : Nat) : Int) = (k : Int) + 1 := by omega
        rw [e, sI_1 _ (by omega), ih, ← sI_add]
        exact sI_congr (fun j _ _ => (sI_1 _ (by omega)).symm)
    have := main n.toNat
    have e : (n.toNat : Int) = n := by omega
    rw [e] at this
    exact this
  · rw [sI_0 _ (by omega)]
    have : sI (fun j => sI (fun i => f i j) n) m = sI (fun _ => 0) m := sI_congr (fun j _ _ => sI_0 _ (by omega))
    rw [this, sI_z]
theorem cellsM_pS {F : AF} {G : AG} (g x1 y1 x2 y2 t : Int) : cellsM F G g x1 y1 x2 y2 t = pS (me F G 0) (me F G 1) (G 55 0) (G 55 1) (atl (mu G g) t) x1 y1 x2 y2 := by
  unfold cellsM cfI pS
  rw [sI_swap]
  refine sI_congr (fun j _ _ => ?_)
  unfold pY pR
  rw [← sI_mul]
  refine sI_congr (fun i _ _ => ?_)
  unfold cfJ pX atl
  dsimp only
  by_cases w : mu G g i j < t
  · rw [if_pos w, if_pos w, Int.zero_mul, Int.zero_mul]
  · rw [if_neg w, if_neg w, Int.one_mul]
noncomputable def nFrom (F : AF) (G : AG) (g t x1 y1 x2 y2 : Int) : Int := aS (fun x y => if mv F G g x y < t then 0 else 1) x1 y1 x2 y2
theorem cellsM_n {F : AF} {G : AG} (hx : MX F G) {g x1 y1 x2 y2 : Int} (t : Int) (r : recOK F x1 y1 x2 y2) : cellsM F G g x1 y1 x2 y2 t = nFrom F G g t x1 y1 x2 y2 := by
  obtain ⟨r1, r2, r3, r4, r5, r6⟩ := r
  rw [cellsM_pS, pS_aS (sq_x hx) (sq_y hx) (atl (mu G g) t) r1 r3 r4 r6]
  rfl
theorem ccells_n {S : AS} {F : AF} {G : AG} {b : Int} (h : Inv S F G b) {g x1 y1 x2 y2 : Int} (g0 : -1 ≤ g) (g1 : g ≤ 2) (t : Int) (r : recOK F x1 y1 x2 y2) : ccells F G 18 g t x1 y1 x2 y2 = nFrom F G g t x1 y1 x2 y2 := by
  have sz := inv_sz h
  obtain ⟨r1, r2, r3, r4, r5, r6⟩ := r
  unfold ccells
  rw [pS_aS (sq_co (inv_cc h).1) (sq_co (inv_cc h).2.1) (atl (cu G 18 g) t) r1 (by omega) r4 (by omega)]
  refine aS_congr (fun x y x0 x1' y0 y1' => ?_)
  show (if vu F G 18 g x y < t then 0 else 1) = _
  rw [inv_vu h g0 g1 (by omega) (by omega) (by omega) (by omega)]
theorem from_51 {d : Nat} {S : AS} {F : AF} {G : AG} {b : Int} (hd : 1 ≤ d) (h : Inv S F G b) {g x1 y1 x2 y2 : Int} (g0 : -1 ≤ g) (g1 : g ≤ 2) (t : Int) (r : recOK F x1 y1 x2 y2) : Pu d MX2_cellsFrom [vR 2, vI g, vR 51, vJ t] S (setR F 51 x1 y1 x2 y2) G (some (vJ (nFrom F G g t x1 y1 x2 y2))) := by
  obtain ⟨hI, hr1, -, -⟩ := ask_in h r
  have p := pu_ccellsFrom hd (inv_shc hI) (inv_cc hI) (at_51 (inv_shc hI)) (inv_pba hI) g0 g1 hr1 t
  have k := scr_51 (F := F) (G := G) x1 y1 x2 y2
  have r' : recOK (setR F 51 x1 y1 x2 y2) x1 y1 x2 y2 := by
    unfold recOK
    rw [setR_c (by decide)]
    exact r
  rw [setR_0, setR_1, setR_2, setR_3, ccells_n hI g0 g1 t r'] at p
  unfold nFrom at p ⊢
  rw [scr_mv k] at p
  exact p
noncomputable def aAtL (g x1 y1 x2 y2 t : Int) (F : AF) (G : AG) : Int := if (-1 ≤ g ∧ g ≤ 2) ∧ recOK F x1 y1 x2 y2 then (if 0 ≤ t then nFrom F G g t x1 y1 x2 y2 else -3) else -2
theorem aAtL_scr {g x1 y1 x2 y2 t : Int} {F F1 : AF} {G G1 : AG} (k : Scr F F1 G G1) : aAtL g x1 y1 x2 y2 t F1 G1 = aAtL g x1 y1 x2 y2 t F G := by
  simp only [aAtL, nFrom, recOK, scr_mv k, k.2.2.1.1, k.2.2.1.2.1]
theorem pr_atLeast {d : Nat} {S : AS} {F : AF} {G : AG} {b : Int} (hd : 5 ≤ d) (h : Inv S F G b) (g x1 y1 x2 y2 t : Int) : Pr d MX9_atLeast MX10_atLeast [vR 1, vI g, vI x1, vI y1, vI x2, vI y2, vJ t] [vR 53, vI g, vI x1, vI y1, vI x2, vI y2, vJ t] vJ S F G b := by
  refine pr_gen (A := aAtL g x1 y1 x2 y2 t) h (fun F1 G1 k => aAtL_scr k) (fun Q hq => ?_) (fun F G h Q hq => ?_)
  · unfold aAtL at hq
    have hsh := inv_shc h
    refine ok_go rfl (by decide) (Nat.le_of_ble_eq_true rfl) (R_X9_atLeast_0 hsh ?_)
    unfold V_X9_atLeast_0
    refine ⟨by omega, _, pu_cisGoodOrAll (by omega) hsh g, fun q => ?_, fun q => ok_ask (by omega) h _ _ _ _ ⟨rfl, _, rfl, fun q2 => ?_, fun q2 => ?_⟩⟩
    · rw [if_neg (fun z => bI_0.mp q z.1)] at hq
      exact hq F G (scr_rf F G)
    · have yg : -1 ≤ g ∧ g ≤ 2 := Classical.byContradiction (fun z => q (bI_f z))
      have yr : recOK F x1 y1 x2 y2 := Classical.byContradiction (fun z => q2 (bI_f z))
      rw [if_pos ⟨yg, yr⟩] at hq
      refine ⟨fun t0 => ?_, fun t0 => ?_⟩
      · rw [if_pos t0] at hq
        exact ⟨_, from_51 (by omega) h yg.1 yg.2 t yr, hq _ G (scr_51 _ _ _ _)⟩
      · rw [if_neg t0] at hq
        exact hq _ G (scr_51 _ _ _ _)
    · rw [if_neg (fun z => bI_0.mp q2 z.2)] at hq
      exact hq _ G (scr_51 _ _ _ _)
  · have hsm := inv_shm h
    refine ok_go rfl (by decide) (Nat.le_of_ble_eq_true rfl) (R_X10_atLeast_0 hsm ?_)
    unfold V_X10_atLeast_0
    intro F1 e1
    subst e1
    have h1 := inv_scr h scr_thrown
    rw [← aAtL_scr scr_thrown] at hq
    unfold aAtL at hq
    have hx := inv_mx h1
    have sz := inv_sz h1
    refine ⟨by omega, _, pu_isGoodOrAll (by omega) hsm g, fun q => ?_, fun q => ⟨_, pu_isRectangle hsm _ _ _ _, fun q2 => ?_, fun q2 => ?_⟩⟩
    · rw [if_neg (fun z => bI_0.mp q z.1)] at hq
      exact hq _ G scr_thrown
    · have yg : -1 ≤ g ∧ g ≤ 2 := Classical.byContradiction (fun z => q (bI_f z))
      have yr : recOK (fu F 53 0 0) x1 y1 x2 y2 := Classical.byContradiction (fun z => q2 (bI_f z))
      rw [if_pos ⟨yg, yr⟩] at hq
      obtain ⟨r1, r2, r3, r4, r5, r6⟩ := id yr
      refine ⟨fun t0 => ?_, fun t0 => ?_⟩
      · rw [if_pos t0, ← cellsM_n hx t yr] at hq
        exact ⟨_, pu_cellsFrom (by omega) hsm hx (inv_mba h1) yg.1 yg.2 (by omega) (by omega) (by omega) (by omega) (by omega) (by omega) (by omega) (by omega), hq _ G scr_thrown⟩
      · rw [if_neg t0] at hq
        exact hq _ G scr_thrown
    · rw [if_neg (fun z => bI_0.mp q2 z.2)] at hq
      exact hq _ G scr_thrown
theorem pr_borders {d : Nat} {S : AS} {F : AF} {G : AG} {b : Int} (hd : 2 ≤ d) (h : Inv S F G b) (a w : Int) : Pr d MX9_borders MX10_borders [vR 1, vI a, vI w] [vR 53, vI a, vI w] vI S F G b := by
  refine pr_gen (A := fun _ G => if (0 ≤ a ∧ a ≤ 1) ∧ 0 ≤ w ∧ w ≤ 1 then (if w = 0 then G 55 a else G 56 a) else -2) h (fun F1 G1 k => ?_) (fun Q hq => ?_) (fun F G h Q hq => ?_)
  · rw [(scr_g k).2.1, (scr_g k).2.2.1]
  · have hsh := inv_shc h
    obtain ⟨-, ⟨-, -, -, -, B5, B6, -⟩, ⟨L1, L2, -⟩, -⟩ := h
    have hq := hq F G (scr_rf F G)
    refine ok_go rfl (by decide) (Nat.le_of_ble_eq_true rfl) (R_X9_borders_0 hsh ?_)
    unfold V_X9_borders_0
    refine ⟨by omega, _, pu_isAxis hsh a, fun q => ?_, fun q => ⟨fun q2 => ?_, fun q2 => ⟨fun q3 => ⟨_, pu_axisOf hsh a, fun q4 => ?_, fun q4 => ?_⟩, fun q3 => ?_⟩⟩⟩
    · rw [if_neg (fun z => bI_0.mp q z.1)] at hq; exact hq
    · rw [if_neg (by omega)] at hq; exact hq
    · have ya : 0 ≤ a ∧ a ≤ 1 := Classical.byContradiction (fun z => q (bI_f z))
      rw [if_pos ⟨ya, by omega, q3⟩, if_neg q4] at hq
      by_cases z : a = 0
      · subst z
        rw [if_pos rfl]
        exact ⟨at_3 hsh, by rw [L1]; exact hq⟩
      · have : a = 1 := by omega
        subst this
        rw [if_neg (by decide)]
        exact ⟨at_10 hsh, by rw [L2]; exact hq⟩
    · have ya : 0 ≤ a ∧ a ≤ 1 := Classical.byContradiction (fun z => q (bI_f z))
      rw [if_pos ⟨ya, by omega, q3⟩, if_pos q4] at hq
      by_cases z : a = 0
      · subst z
        rw [if_pos rfl]
        exact ⟨at_3 hsh, by show Q (some (vI (F 4 1))) S F G; rw [B5]; exact hq⟩
      · have : a = 1 := by omega
        subst this
        rw [if_neg (by decide)]
        exact ⟨at_10 hsh, by show Q (some (vI (F 11 1))) S F G; rw [B6]; exact hq⟩
    · rw [if_neg (by omega)] at hq; exact hq
  · have hsm := inv_shm h
    refine ok_go rfl (by decide) (Nat.le_of_ble_eq_true rfl) (R_X10_borders_0 hsm ?_)
    unfold V_X10_borders_0
    intro F1 e1
    subst e1
    have hq := hq _ G scr_thrown
    refine ⟨by omega, _, pu_isIn hsm _ _ _, fun q => ?_, fun q => ⟨_, pu_isIn hsm _ _ _, fun q2 => ?_, fun q2 => ?_⟩⟩
    · rw [if_neg (fun z => bI_0.mp q z.1)] at hq; exact hq
    · have ya : 0 ≤ a ∧ a ≤ 1 := Classical.byContradiction (fun z => q (bI_f z))
      have yw : 0 ≤ w ∧ w ≤ 1 := Classical.byContradiction (fun z => q2 (bI_f z))
      rw [if_pos ⟨ya, yw⟩] at hq
      refine ⟨fun q3 => ?_, fun q3 => ?_⟩
      · rw [if_neg q3] at hq
        exact ⟨ya.1, by omega, hq⟩
      · rw [if_pos q3] at hq
        exact ⟨ya.1, by omega, hq⟩
    · rw [if_neg (fun z => bI_0.mp q2 z.2)] at hq; exact hq
theorem pr_border {d : Nat} {S : AS} {F : AF} {G : AG} {b : Int} (hd : 2 ≤ d) (h : Inv S F G b) (a i : Int) : Pr d MX9_border MX10_border [vR 1, vI a, vI i] [vR 53, vI a, vI i] vI S F G b := by
  refine pr_gen (A := fun _ G => if 0 ≤ a ∧ a ≤ 1 then (if 0 ≤ i then (if G 55 a ≤ i then -1 else G 54 (48 * a + i)) else -3) else -2) h (fun F1 G1 k => ?_) (fun Q hq => ?_) (fun F G h Q hq => ?_)
  · rw [(scr_g k).2.1, (scr_g k).1]
  · have hsh := inv_shc h
    have hq := hq F G (scr_rf F G)
    obtain ⟨-, ⟨B1, B2, B3, B4, B5, B6, B7, B8⟩, -⟩ := h
    have n4 := B1.1.2.1
    have n11 := B1.2.1.2.1
    refine ok_go rfl (by decide) (Nat.le_of_ble_eq_true rfl) (R_X9_border_0 hsh ?_)
    unfold V_X9_border_0
    refine ⟨by omega, _, pu_isAxis hsh a, fun q => ⟨fun q2 => ⟨_, pu_axisOf hsh a, ?_⟩, fun q2 => ?_⟩, fun q => ?_⟩
    · have ya : 0 ≤ a ∧ a ≤ 1 := Classical.byContradiction (fun z => q (bI_f z))
      rw [if_pos ya, if_pos q2] at hq
      by_cases z : a = 0
      · subst z
        rw [if_pos rfl]
        refine ⟨at_3 hsh, fun x15 e15 => ?_⟩
        subst e15
        refine ⟨at_4 hsh, fun q3 => ?_, fun q3 => ⟨q2, ?_, ?_⟩⟩
        · have q3' : F 4 1 ≤ i := q3
          rw [if_pos (by rw [← B5]; exact q3')] at hq; exact hq
        · have q3' : ¬ F 4 1 ≤ i := q3
          omega
        · have q3' : ¬ F 4 1 ≤ i := q3
          rw [if_neg (by rw [← B5]; exact q3')] at hq
          show Q (some (vI (G 5 i))) S F G
          rw [B7 i q2 (by omega), me_lo (by omega)]
          exact hq
      · have : a = 1 := by omega
        subst this
        rw [if_neg (by decide)]
        refine ⟨at_10 hsh, fun x15 e15 => ?_⟩
        subst e15
        refine ⟨at_11 hsh, fun q3 => ?_, fun q3 => ⟨q2, ?_, ?_⟩⟩
        · have q3' : F 11 1 ≤ i := q3
          rw [if_pos (by rw [← B6]; exact q3')] at hq; exact hq
        · have q3' : ¬ F 11 1 ≤ i := q3
          omega
        · have q3' : ¬ F 11 1 ≤ i := q3
          rw [if_neg (by rw [← B6]; exact q3')] at hq
          show Q (some (vI (G 12 i))) S F G
          rw [B8 i q2 (by omega), me_lo (by omega)]
          exact hq
    · have ya : 0 ≤ a ∧ a ≤ 1 := Classical.byContradiction (fun z => q (bI_f z))
      rw [if_pos ya, if_neg q2] at hq; exact hq
    · rw [if_neg (bI_0.mp q)] at hq; exact hq
  · have hsm := inv_shm h
    have hx := inv_mx h
    refine ok_go rfl (by decide) (Nat.le_of_ble_eq_true rfl) (R_X10_border_0 hsm ?_)
    unfold V_X10_border_0
    intro F1 e1
    subst e1
    have hq := hq _ G scr_thrown
    refine ⟨by omega, _, pu_isIn hsm _ _ _, fun q => ?_, fun q => ?_⟩
    · have ya : 0 ≤ a ∧ a ≤ 1 := Classical.byContradiction (fun z => q (bI_f z))
      have n48 := (hx a ya.1 ya.2).2.1
      rw [if_pos ya] at hq
      refine ⟨fun q2 => ⟨ya.1, by omega, fun q3 => ?_, fun q3 => ⟨by omega, by omega, by omega, by omega, ?_⟩⟩, fun q2 => ?_⟩
      · rw [if_pos q2, if_pos q3] at hq; exact hq
      · rw [if_pos q2, if_neg q3] at hq; exact hq
      · rw [if_neg q2] at hq; exact hq
    · rw [if_neg (bI_0.mp q)] at hq; exact hq
theorem pr_act {d : Nat} {S : AS} {F : AF} {G : AG} {b : Int} (hd : 2 ≤ d) (h : Inv S F G b) (i w : Int) : Pr d MX9_act MX10_act [vR 1, vI i, vI w] [vR 53, vI i, vI w] vJ S F G b := by
  refine pr_gen (A := fun F G => if (0 ≤ i ∧ i ≤ F 53 14 - 1) ∧ 0 ≤ w ∧ w ≤ 6 then mt G i w else -2) h (fun F1 G1 k => ?_) (fun Q hq => ?_) (fun F G h Q hq => ?_)
  · simp only [mt, k.2.2.1.2.2.2.2.1, (scr_g k).2.2.2.2.2.2.1]
  · have hsh := inv_shc h
    have hq := hq F G (scr_rf F G)
    obtain ⟨-, -, -, -, -, ⟨T1, T2, T3⟩, -⟩ := h
    refine ok_go rfl (by decide) (Nat.le_of_ble_eq_true rfl) (R_X9_act_0 hsh ?_)
    unfold V_X9_act_0
    refine ⟨fun q => ?_, fun q => ⟨fun q2 => ?_, fun q2 => ⟨fun q3 => ?_, fun q3 => ⟨fun q4 => ⟨by omega, _, pu_told (by omega) hsh T1 (by omega) (by omega) (by omega) q4, ?_⟩, fun q4 => ?_⟩⟩⟩⟩
    · rw [if_neg (by omega)] at hq; exact hq
    · rw [if_neg (by omega)] at hq; exact hq
    · rw [if_neg (by omega)] at hq; exact hq
    · rw [if_pos (by omega)] at hq
      rw [T3 i w (by omega) (by omega) (by omega) q4]; exact hq
    · rw [if_neg (by omega)] at hq; exact hq
  · have hsm := inv_shm h
    have t := h.2.2.2.2.2.1
    obtain ⟨⟨t1, t2, t3, t4⟩, T2, -⟩ := t
    refine ok_go rfl (by decide) (Nat.le_of_ble_eq_true rfl) (R_X10_act_0 hsm ?_)
    unfold V_X10_act_0
    intro F1 e1
    subst e1
    have hq := hq _ G scr_thrown
    have e14 : fu F 53 0 0 53 14 = F 53 14 := fu_k (by decide)
    rw [e14]
    refine ⟨by omega, by omega, _, pu_isIn hsm _ _ _, fun q => ?_, fun q => ⟨_, pu_isIn hsm _ _ _, fun q2 => ?_, fun q2 => ?_⟩⟩
    · rw [if_neg (fun z => bI_0.mp q z.1)] at hq; exact hq
    · rw [if_neg (fun z => bI_0.mp q2 z.2)] at hq; exact hq
    · have y1 : 0 ≤ i ∧ i ≤ F 53 14 - 1 := Classical.byContradiction (fun z => q (bI_f z))
      have y2 : 0 ≤ w ∧ w ≤ 6 := Classical.byContradiction (fun z => q2 (bI_f z))
      rw [if_pos ⟨y1, y2⟩] at hq
      exact ⟨by omega, by omega, by omega, by omega, hq⟩
