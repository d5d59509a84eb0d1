/-! PAIRS OF CALLS THAT ONLY ASK -/
def Pr (d : Nat) (MC MM : AM) (avC avM : List AV) (mk : Int → AV) (S : AS) (F : AF) (G : AG) (b : Int) : Prop := Ok d MC avC S F G (fun w S1 F1 G1 => S1 = S ∧ ∃ z : Int, w = some (mk z) ∧ Inv S F1 G1 b ∧ Ok d MM avM S F1 G1 (fun w2 S2 F2 G2 => S2 = S ∧ w2 = some (mk z) ∧ Inv S F2 G2 b))
theorem pr_gen {d : Nat} {S : AS} {F : AF} {G : AG} {b : Int} {MC MM : AM} {avC avM : List AV} {mk : Int → AV} {A : AF → AG → Int} (h : Inv S F G b) (hA : ∀ F1 G1, Scr F F1 G G1 → A F1 G1 = A F G) (hC : ∀ Q : AQ, (∀ F' G', Scr F F' G G' → Q (some (mk (A F G))) S F' G') → Ok d MC avC S F G Q) (hM : ∀ F1 G1, Inv S F1 G1 b → ∀ Q : AQ, (∀ F' G', Scr F1 F' G1 G' → Q (some (mk (A F1 G1))) S F' G') → Ok d MM avM S F1 G1 Q) : Pr d MC MM avC avM mk S F G b := by
  refine hC _ (fun F1 G1 k => ⟨rfl, A F G, rfl, inv_scr h k, ?_⟩)
  refine hM F1 G1 (inv_scr h k) _ (fun F2 G2 k2 => ⟨rfl, by rw [hA F1 G1 k], inv_scr (inv_scr h k) k2⟩)
theorem scr_g {F F' : AF} {G G' : AG} (k : Scr F F' G G') : G' 54 = G 54 ∧ G' 55 = G 55 ∧ G' 56 = G 56 ∧ G' 57 = G 57 ∧ G' 58 = G 58 ∧ G' 59 = G 59 ∧ G' 62 = G 62 ∧ G' 63 = G 63 ∧ G' 64 = G 64 ∧ G' 65 = G 65 := by
  have gg := k.2.2.2
  refine ⟨gg 54 ?_ ?_ ?_ ?_ ?_ ?_ ?_ ?_ ?_ ?_ ?_, gg 55 ?_ ?_ ?_ ?_ ?_ ?_ ?_ ?_ ?_ ?_ ?_, gg 56 ?_ ?_ ?_ ?_ ?_ ?_ ?_ ?_ ?_ ?_ ?_, gg 57 ?_ ?_ ?_ ?_ ?_ ?_ ?_ ?_ ?_ ?_ ?_, gg 58 ?_ ?_ ?_ ?_ ?_ ?_ ?_ ?_ ?_ ?_ ?_, gg 59 ?_ ?_ ?_ ?_ ?_ ?_ ?_ ?_ ?_ ?_ ?_, gg 62 ?_ ?_ ?_ ?_ ?_ ?_ ?_ ?_ ?_ ?_ ?_, gg 63 ?_ ?_ ?_ ?_ ?_ ?_ ?_ ?_ ?_ ?_ ?_, gg 64 ?_ ?_ ?_ ?_ ?_ ?_ ?_ ?_ ?_ ?_ ?_, gg 65 ?_ ?_ ?_ ?_ ?_ ?_ ?_ ?_ ?_ ?_ ?_⟩ <;> decide
theorem scr_me {F F' : AF} {G G' : AG} (k : Scr F F' G G') (a : Int) : me F' G' a = me F G a := me_cg k.2.2.1.1 k.2.2.1.2.1 (scr_g k).1 (scr_g k).2.1 a
theorem scr_mv {F F' : AF} {G G' : AG} (k : Scr F F' G G') : mv F' G' = mv F G := by
  funext g x y
  unfold mv cv mu
  rw [scr_me k, scr_me k, (scr_g k).2.1, (scr_g k).2.2.2.1]
abbrev recOK (F : AF) (x1 y1 x2 y2 : Int) : Prop := 0 ≤ x1 ∧ x1 ≤ x2 ∧ x2 < F 53 1 ∧ 0 ≤ y1 ∧ y1 ≤ y2 ∧ y2 < F 53 2
theorem ok_ask {d : Nat} {S : AS} {F : AF} {G : AG} {b : Int} (hd : 1 ≤ d) (h : Inv S F G b) (x1 y1 x2 y2 : Int) {Q : AQ} (hq : Q (some (vI (bI (recOK F x1 y1 x2 y2)))) S (setR F 51 x1 y1 x2 y2) G) : Ok d MX9_ask [vR 1, vI x1, vI y1, vI x2, vI y2] S F G Q := by
  have hsh := inv_shc h
  have sz := inv_sz h
  refine ok_go rfl (by decide) (Nat.le_of_ble_eq_true rfl) (R_X9_ask_0 hsh ?_)
  unfold V_X9_ask_0
  have hc : CC (setR F 51 x1 y1 x2 y2) G := cc_cg (setR_c (by decide)) (setR_c (by decide)) (setR_c (by decide)) rfl rfl (inv_cc h)
  have ph := pu_holds (d := d - 1) (S := S) hsh (at_51 hsh) hc
  rw [setR_0, setR_1, setR_2, setR_3, setR_c (by decide), setR_c (by decide), sz.1, sz.2.1] at ph
  exact ⟨hd, ok_set (at_51 hsh) x1 y1 x2 y2 ⟨rfl, rfl, _, ph, bI_r, hq⟩⟩
/-- what is asked for, as the system has it -/
theorem ask_in {S : AS} {F : AF} {G : AG} {b : Int} (h : Inv S F G b) {x1 y1 x2 y2 : Int} (r : recOK F x1 y1 x2 y2) : Inv S (setR F 51 x1 y1 x2 y2) G b ∧ RG1 (setR F 51 x1 y1 x2 y2) 51 ∧ RI (setR F 51 x1 y1 x2 y2) 51 ∧ RO (setR F 51 x1 y1 x2 y2) 51 := by
  have sz := inv_sz h
  obtain ⟨r1, r2, r3, r4, r5, r6⟩ := r
  refine ⟨inv_scr h (scr_51 x1 y1 x2 y2), ?_, ?_, ?_⟩
  · unfold RG1
    rw [setR_0, setR_1, setR_2, setR_3, setR_c (by decide), setR_c (by decide)]
    omega
  · unfold RI
    rw [setR_0, setR_1, setR_2, setR_3, setR_c (by decide), setR_c (by decide)]
    omega
  · unfold RO
    rw [setR_0, setR_1, setR_2, setR_3]
    omega
theorem sum_51 {d : Nat} {S : AS} {F : AF} {G : AG} {b : Int} (hd : 2 ≤ d) (h : Inv S F G b) {g x1 y1 x2 y2 : Int} (g0 : -1 ≤ g) (g1 : g ≤ 2) (r : recOK F x1 y1 x2 y2) : Pu d MX2_sumOf [vR 2, vI g, vR 51] S (setR F 51 x1 y1 x2 y2) G (some (vJ (aS (mv F G g) x1 y1 x2 y2))) := by
  obtain ⟨hI, -, hri, -⟩ := ask_in h r
  have sz := inv_sz h
  have p := pu_csumOf hd (inv_shc hI) (inv_cc hI) (at_51 (inv_shc hI)) (inv_pba hI) (inv_ct hI) g0 g1 hri
  rw [setR_0, setR_1, setR_2, setR_3] at p
  obtain ⟨r1, r2, r3, r4, r5, r6⟩ := r
  have e4 : setR F 51 x1 y1 x2 y2 4 2 = F 4 2 := by rw [setR_c (by decide)]
  have e11 : setR F 51 x1 y1 x2 y2 11 2 = F 11 2 := by rw [setR_c (by decide)]
  rw [csum_aS (inv_cc hI) 18 g r1 (by omega) r4 (by omega), inv_aS hI g0 g1 r1 (by omega) r4 (by omega), scr_mv (scr_51 x1 y1 x2 y2)] at p
  exact p
noncomputable def aSum (g x1 y1 x2 y2 : Int) (F : AF) (G : AG) : Int := if (-1 ≤ g ∧ g ≤ 2) ∧ recOK F x1 y1 x2 y2 then aS (mv F G g) x1 y1 x2 y2 else -2
theorem pr_sum {d : Nat} {S : AS} {F : AF} {G : AG} {b : Int} (hd : 5 ≤ d) (h : Inv S F G b) (g x1 y1 x2 y2 : Int) : Pr d MX9_sum MX10_sum [vR 1, vI g, vI x1, vI y1, vI x2, vI y2] [vR 53, vI g, vI x1, vI y1, vI x2, vI y2] vJ S F G b := by
  refine pr_gen (A := aSum g x1 y1 x2 y2) h (fun F1 G1 k => ?_) (fun Q hq => ?_) (fun F G h Q hq => ?_)
  · simp only [aSum, recOK, scr_mv k, k.2.2.1.1, k.2.2.1.2.1]
  · unfold aSum at hq
    have hsh := inv_shc h
    refine ok_go rfl (by decide) (Nat.le_of_ble_eq_true rfl) (R_X9_sum_0 hsh ?_)
    unfold V_X9_sum_0
    refine ⟨by omega, _, pu_cisGoodOrAll (by omega) hsh g, fun y => ?_, fun y => ok_ask (by omega) h _ _ _ _ ⟨rfl, _, rfl, fun q2 => ?_, fun q2 => ?_⟩⟩
    · rw [if_neg (fun z => bI_0.mp y z.1)] at hq
      exact hq F G (scr_rf F G)
    · have yg : -1 ≤ g ∧ g ≤ 2 := Classical.byContradiction (fun z => y (bI_f z))
      have yr : recOK F x1 y1 x2 y2 := Classical.byContradiction (fun z => q2 (bI_f z))
      rw [if_pos ⟨yg, yr⟩] at hq
      exact ⟨_, sum_51 (by omega) h yg.1 yg.2 yr, hq _ G (scr_51 _ _ _ _)⟩
    · rw [if_neg (fun z => bI_0.mp q2 z.2)] at hq
      exact hq _ G (scr_51 _ _ _ _)
  · have hsm := inv_shm h
    refine ok_go rfl (by decide) (Nat.le_of_ble_eq_true rfl) (R_X10_sum_0 hsm ?_)
    unfold V_X10_sum_0
    intro F1 e1
    subst e1
    have h1 := inv_scr h scr_thrown
    have hA : aSum g x1 y1 x2 y2 F G = aSum g x1 y1 x2 y2 (fu F 53 0 0) G := by
      have k := scr_thrown (F := F) (G := G)
      simp only [aSum, recOK, scr_mv k, k.2.2.1.1, k.2.2.1.2.1]
    rw [hA] at hq
    unfold aSum at hq
    have sz := inv_sz h1
    refine ⟨by omega, _, pu_isGoodOrAll (by omega) hsm g, fun y => ?_, fun y => ⟨_, pu_isRectangle hsm _ _ _ _, fun q2 => ?_, fun q2 => ?_⟩⟩
    · rw [if_neg (fun z => bI_0.mp y z.1)] at hq
      exact hq _ G scr_thrown
    · rw [if_neg (fun z => bI_0.mp q2 z.2)] at hq
      exact hq _ G scr_thrown
    · have yg : -1 ≤ g ∧ g ≤ 2 := Classical.byContradiction (fun z => y (bI_f z))
      have yr : recOK (fu F 53 0 0) x1 y1 x2 y2 := Classical.byContradiction (fun z => q2 (bI_f z))
      rw [if_pos ⟨yg, yr⟩] at hq
      obtain ⟨r1, r2, r3, r4, r5, r6⟩ := yr
      exact ⟨_, pu_msum (by omega) hsm (inv_mx h1) (inv_mba h1) (inv_mt h1) yg.1 yg.2 r1 r3 r4 r6 (by omega) (by omega) (by omega) (by omega), hq _ G scr_thrown⟩
theorem aS_one (f : Int → Int → Int) (x y : Int) : aS f x y x y = f x y := by
  unfold aS
  rw [dS_one, dS_one]
noncomputable def aAt (g x y : Int) (F : AF) (G : AG) : Int := if (-1 ≤ g ∧ g ≤ 2) ∧ (0 ≤ x ∧ x < F 53 1 ∧ 0 ≤ y ∧ y < F 53 2) then mv F G g x y else -2
theorem pr_at {d : Nat} {S : AS} {F : AF} {G : AG} {b : Int} (hd : 5 ≤ d) (h : Inv S F G b) (g x y : Int) : Pr d MX9_at MX10_at [vR 1, vI g, vI x, vI y] [vR 53, vI g, vI x, vI y] vJ S F G b := by
  refine pr_gen (A := aAt g x y) h (fun F1 G1 k => ?_) (fun Q hq => ?_) (fun F G h Q hq => ?_)
  · simp only [aAt, scr_mv k, k.2.2.1.1, k.2.2.1.2.1]
  · unfold aAt at hq
    have hsh := inv_shc h
    refine ok_go rfl (by decide) (Nat.le_of_ble_eq_true rfl) (R_X9_at_0 hsh ?_)
    unfold V_X9_at_0
    refine ⟨by omega, _, pu_cisGoodOrAll (by omega) hsh g, fun q => ?_, fun q => ok_ask (by omega) h _ _ _ _ ⟨rfl, _, rfl, fun q2 => ?_, fun q2 => ?_⟩⟩
    · rw [if_neg (fun z => bI_0.mp q z.1)] at hq
      exact hq F G (scr_rf F G)
    · have yg : -1 ≤ g ∧ g ≤ 2 := Classical.byContradiction (fun z => q (bI_f z))
      have yr : recOK F x y x y := Classical.byContradiction (fun z => q2 (bI_f z))
      rw [if_pos ⟨yg, yr.1, yr.2.2.1, yr.2.2.2.1, yr.2.2.2.2.2⟩] at hq
      have p := sum_51 (d := d - 1) (by omega) h yg.1 yg.2 yr
      rw [aS_one] at p
      exact ⟨_, p, hq _ G (scr_51 _ _ _ _)⟩
    · have nr := bI_0.mp q2
      rw [if_neg (fun z => nr ⟨z.2.1, Int.le_refl _, z.2.2.1, z.2.2.2.1, Int.le_refl _, z.2.2.2.2⟩)] at hq
      exact hq _ G (scr_51 _ _ _ _)
  · have hsm := inv_shm h
    refine ok_go rfl (by decide) (Nat.le_of_ble_eq_true rfl) (R_X10_at_0 hsm ?_)
    unfold V_X10_at_0
    intro F1 e1
    subst e1
    have h1 := inv_scr h scr_thrown
    have hA : aAt g x y F G = aAt g x y (fu F 53 0 0) G := by
      have k := scr_thrown (F := F) (G := G)
      simp only [aAt, scr_mv k, k.2.2.1.1, k.2.2.1.2.1]
    rw [hA] at hq
    unfold aAt at hq
    have hx := inv_mx h1
    refine ⟨by omega, _, pu_isGoodOrAll (by omega) hsm g, fun q => ?_, fun q => ⟨_, pu_isCell (by omega) hsm hx _ _, fun q2 => ?_, fun q2 => ?_⟩⟩
    · rw [if_neg (fun z => bI_0.mp q z.1)] at hq
      exact hq _ G scr_thrown
    · rw [if_neg (fun z => bI_0.mp q2 z.2)] at hq
      exact hq _ G scr_thrown
    · have yg : -1 ≤ g ∧ g ≤ 2 := Classical.byContradiction (fun z => q (bI_f z))
      have yr : 0 ≤ x ∧ x < fu F 53 0 0 53 1 ∧ 0 ≤ y ∧ y < fu F 53 0 0 53 2 := Classical.byContradiction (fun z => q2 (bI_f z))
      rw [if_pos ⟨yg, yr⟩] at hq
      obtain ⟨r1, r2, r3, r4⟩ := yr
      have bx := mb_spec hx (a := 0) (p := x) (by omega) (by omega) r1 (by rw [msz_0]; exact r2)
      have by' := mb_spec hx (a := 1) (p := y) (by omega) (by omega) r3 (by rw [msz_1]; exact r4)
      have n0 := (hx 0 (by omega) (by omega)).2.1
      have n1 := (hx 1 (by omega) (by omega)).2.1
      exact ⟨_, pu_blockAt (by omega) hsm hx (by omega) (by omega) r1 (by rw [msz_0]; exact r2), _, pu_blockAt (by omega) hsm hx (by omega) (by omega) r3 (by rw [msz_1]; exact r4), _, pu_in (by omega) hsm (inv_mba h1 _ _ bx.1 bx.2.1 by'.1 by'.2.1) yg.1 yg.2 bx.1 (by omega) by'.1 (by omega), hq _ G scr_thrown⟩
theorem pr_fault {d : Nat} {S : AS} {F : AF} {G : AG} {b : Int} (h : Inv S F G b) (w : Int) : Pr d MX9_fault MX10_fault [vR 1, vI w] [vR 53, vI w] vI S F G b := by
  refine pr_gen (A := fun F _ => if w = 0 then F 53 37 else if w = 1 then F 53 38 else if w = 2 then F 53 39 else -1) h (fun F1 G1 k => ?_) (fun Q hq => ?_) (fun F G h Q hq => ?_)
  · rw [k.2.2.1.2.2.2.2.2.2.1, k.2.2.1.2.2.2.2.2.2.2.1, k.2.2.1.2.2.2.2.2.2.2.2]
  · have hsh := inv_shc h
    obtain ⟨-, -, -, -, -, -, -, X1, X2, X3, X4, X5, X6, X7⟩ := h
    have hq := hq F G (scr_rf F G)
    refine ok_go rfl (by decide) (Nat.le_of_ble_eq_true rfl) (R_X9_fault_0 hsh ?_)
    unfold V_X9_fault_0
    refine ⟨fun y => ?_, fun y => ?_, fun y => ?_, fun y => ?_⟩
    · rw [if_pos y] at hq; rw [X5]; exact hq
    · rw [if_neg (by omega), if_pos y] at hq; rw [X6]; exact hq
    · rw [if_neg (by omega), if_neg (by omega), if_pos y] at hq; rw [X7]; exact hq
    · rw [if_neg (by omega), if_neg (by omega), if_neg (by omega)] at hq; exact hq
  · have hsm := inv_shm h
    refine ok_go rfl (by decide) (Nat.le_of_ble_eq_true rfl) (R_X10_fault_0 hsm ?_)
    unfold V_X10_fault_0
    intro F1 e1
    subst e1
    have hq := hq _ G scr_thrown
    rw [fu_k (by decide), fu_k (by decide), fu_k (by decide)]
    refine ⟨fun y => ⟨fun y2 => ⟨fun y3 => ?_, fun y3 => ?_⟩, fun y2 => ?_⟩, fun y => ?_⟩
    · rw [if_neg y, if_neg y2, if_neg y3] at hq; exact hq
    · rw [if_neg y, if_neg y2, if_pos y3] at hq; exact hq
    · rw [if_neg y, if_pos y2] at hq; exact hq
    · rw [if_pos y] at hq; exact hq
