/-! COUNTS, WHAT IS AHEAD, ZONES, SHARES -/
theorem pr_count {d : Nat} {S : AS} {F : AF} {G : AG} {b : Int} (hd : 2 ≤ d) (h : Inv S F G b) (w : Int) : Pr d MX9_count MX10_count [vR 1, vI w] [vR 53, vI w] vJ S F G b := by
  refine pr_gen (A := fun F _ => if w = 0 then F 53 1 * F 53 2 else if w = 1 then F 53 1 else if w = 2 then F 53 2 else if w = 3 then F 53 11 else if w = 4 then F 53 14 else if w = 5 then F 53 34 else if w = 6 then F 53 3 else -1) h (fun F1 G1 k => ?_) (fun Q hq => ?_) (fun F G h Q hq => ?_)
  · simp only [k.2.2.1.1, k.2.2.1.2.1, k.2.2.1.2.2.1, k.2.2.1.2.2.2.1, k.2.2.1.2.2.2.2.1, k.2.2.1.2.2.2.2.2.1]
  · have hsh := inv_shc h
    have sz := inv_sz h
    have hc := inv_cc h
    obtain ⟨-, -, c0, c1, c2, c3⟩ := hc
    have hq := hq F G (scr_rf F G)
    obtain ⟨-, -, -, ⟨P1, -⟩, ⟨O1, -⟩, ⟨-, T2, -⟩, -, -, X2, -⟩ := h
    have pc := pu_cells (d := d - 1) (S := S) (F := F) (G := G) (by omega) (at_17 hsh) ⟨by omega, by omega, by omega, by omega, by omega, by omega, by omega, by omega⟩
    have pw := pu_width (d := d - 1) (S := S) (F := F) (G := G) (at_17 hsh) (by omega) (by omega)
    have ph := pu_height (d := d - 1) (S := S) (F := F) (G := G) (at_17 hsh) (by omega) (by omega)
    have e1 : F 17 2 - F 17 0 + 1 = F 53 1 := by omega
    have e2 : F 17 3 - F 17 1 + 1 = F 53 2 := by omega
    rw [e1, e2] at pc
    rw [e1] at pw
    rw [e2] at ph
    refine ok_go rfl (by decide) (Nat.le_of_ble_eq_true rfl) (R_X9_count_0 hsh ?_)
    unfold V_X9_count_0
    refine ⟨fun y => ⟨by omega, _, pc, ?_⟩, fun y => ⟨by omega, _, pw, ?_⟩, fun y => ⟨by omega, _, ph, ?_⟩, fun y => ?_, fun y => ?_, fun y => ?_, fun y => ?_, fun y => ?_⟩
    · rw [if_pos y] at hq; exact hq
    · rw [if_neg (by omega), if_pos y] at hq; exact hq
    · rw [if_neg (by omega), if_neg (by omega), if_pos y] at hq; exact hq
    · rw [if_neg (by omega), if_neg (by omega), if_neg (by omega), if_pos y] at hq; rw [O1]; exact hq
    · rw [if_neg (by omega), if_neg (by omega), if_neg (by omega), if_neg (by omega), if_pos y] at hq; rw [T2]; exact hq
    · rw [if_neg (by omega), if_neg (by omega), if_neg (by omega), if_neg (by omega), if_neg (by omega), if_pos y] at hq; rw [X2]; exact hq
    · rw [if_neg (by omega), if_neg (by omega), if_neg (by omega), if_neg (by omega), if_neg (by omega), if_neg (by omega), if_pos y] at hq; rw [P1]; exact hq
    · rw [if_neg (by omega), if_neg (by omega), if_neg (by omega), if_neg (by omega), if_neg (by omega), if_neg (by omega), if_neg (by omega)] at hq; exact hq
  · have hsm := inv_shm h
    have sz := inv_sz h
    have m := mul_bd (a := F 53 1) (b := F 53 2) (A := 10000) (B := 10000) (by omega) (by omega) (by omega) (by omega)
    refine ok_go rfl (by decide) (Nat.le_of_ble_eq_true rfl) (R_X10_count_0 hsm ?_)
    unfold V_X10_count_0
    intro F1 e1
    subst e1
    have hq := hq _ G scr_thrown
    rw [fu_k (by decide), fu_k (by decide), fu_k (by decide), fu_k (by decide), fu_k (by decide), fu_k (by decide)]
    refine ⟨fun y => ⟨by omega, ?_⟩, fun y => ?_, fun y => ?_, fun y => ?_, fun y => ?_, fun y => ?_, fun y => ?_, fun y => ?_⟩
    · rw [if_pos y] at hq; exact hq
    · rw [if_neg (by omega), if_pos y] at hq; exact hq
    · rw [if_neg (by omega), if_neg (by omega), if_pos y] at hq; exact hq
    · rw [if_neg (by omega), if_neg (by omega), if_neg (by omega), if_pos y] at hq; exact hq
    · rw [if_neg (by omega), if_neg (by omega), if_neg (by omega), if_neg (by omega), if_pos y] at hq; exact hq
    · rw [if_neg (by omega), if_neg (by omega), if_neg (by omega), if_neg (by omega), if_neg (by omega), if_pos y] at hq; exact hq
    · rw [if_neg (by omega), if_neg (by omega), if_neg (by omega), if_neg (by omega), if_neg (by omega), if_neg (by omega), if_pos y] at hq; exact hq
    · rw [if_neg (by omega), if_neg (by omega), if_neg (by omega), if_neg (by omega), if_neg (by omega), if_neg (by omega), if_neg (by omega)] at hq; exact hq
theorem aS_ey {f : Int → Int → Int} {x1 x2 y1 y2 : Int} (h : y2 < y1) : aS f x1 y1 x2 y2 = 0 := dS_0 _ h
theorem aS_ex {f : Int → Int → Int} {x1 x2 y1 y2 : Int} (h : x2 < x1) : aS f x1 y1 x2 y2 = 0 := by
  unfold aS
  have : dS (fun y => dS (fun x => f x y) x1 x2) y1 y2 = dS (fun _ => 0) y1 y2 := dS_congr (fun y _ _ => dS_0 _ h)
  rw [this, dS_z]
/-- a sum of any rectangle that lies in the grid, with or without a cell -/
theorem sum_re {d : Nat} {S : AS} {F : AF} {G : AG} {b : Int} (hd : 2 ≤ d) (h : Inv S F G b) {re : Nat} (hk : AtRect S re) {g : Int} (g0 : -1 ≤ g) (g1 : g ≤ 2) (a0 : 0 ≤ F re 0) (a1 : F re 2 < F 53 1) (a2 : 0 ≤ F re 1) (a3 : F re 3 < F 53 2) (a4 : F re 0 ≤ 100000) (a5 : F re 1 ≤ 100000) (a6 : -100000 ≤ F re 2) (a7 : -100000 ≤ F re 3) : Pu d MX2_sumOf [vR 2, vI g, vR re] S F G (some (vJ (aS (mv F G g) (F re 0) (F re 1) (F re 2) (F re 3)))) := by
  have sz := inv_sz h
  have p := pu_csumOf hd (inv_shc h) (inv_cc h) hk (inv_pba h) (inv_ct h) g0 g1 ⟨a0, by omega, a2, by omega, a4, a5, a6, a7⟩
  rw [csum_aS (inv_cc h) 18 g a0 (by omega) a2 (by omega), inv_aS h g0 g1 a0 (by omega) a2 (by omega)] at p
  exact p
noncomputable def aAhd (g o x y : Int) (F : AF) (G : AG) : Int := if (0 ≤ g ∧ g ≤ 2) ∧ (0 ≤ o ∧ o ≤ 1) ∧ (0 ≤ x ∧ x < F 53 1 ∧ 0 ≤ y ∧ y < F 53 2) then (if o = 0 then aS (mv F G g) 0 0 (F 53 1 - 1) (y - 1) + aS (mv F G g) 0 y (x - 1) y else aS (mv F G g) 0 0 (x - 1) (F 53 2 - 1) + aS (mv F G g) x 0 x (y - 1)) else -2
theorem aAhd_scr {g o x y : Int} {F F1 : AF} {G G1 : AG} (k : Scr F F1 G G1) : aAhd g o x y F1 G1 = aAhd g o x y F G := by
  simp only [aAhd, scr_mv k, k.2.2.1.1, k.2.2.1.2.1]
theorem pr_ahead {d : Nat} {S : AS} {F : AF} {G : AG} {b : Int} (hd : 5 ≤ d) (h : Inv S F G b) (g o x y : Int) : Pr d MX9_ahead MX10_ahead [vR 1, vI g, vI o, vI x, vI y] [vR 53, vI g, vI o, vI x, vI y] vJ S F G b := by
  refine pr_gen (A := aAhd g o x y) h (fun F1 G1 k => aAhd_scr k) (fun Q hq => ?_) (fun F G h Q hq => ?_)
  · unfold aAhd at hq
    have hsh := inv_shc h
    have sz := inv_sz h
    refine ok_go rfl (by decide) (Nat.le_of_ble_eq_true rfl) (R_X9_ahead_0 hsh ?_)
    unfold V_X9_ahead_0
    refine ⟨by omega, _, pu_cisGood hsh g, fun q => ?_, fun q => ⟨_, pu_isAxis hsh o, fun q2 => ?_, fun q2 => ok_ask (by omega) h _ _ _ _ ⟨rfl, _, rfl, fun q3 => ?_, fun q3 => ?_⟩⟩⟩
    · rw [if_neg (fun z => bI_0.mp q z.1)] at hq
      exact hq F G (scr_rf F G)
    · rw [if_neg (fun z => bI_0.mp q2 z.2.1)] at hq
      exact hq F G (scr_rf F G)
    · have yg : 0 ≤ g ∧ g ≤ 2 := Classical.byContradiction (fun z => q (bI_f z))
      have yo : 0 ≤ o ∧ o ≤ 1 := Classical.byContradiction (fun z => q2 (bI_f z))
      have yr : recOK F x y x y := Classical.byContradiction (fun z => q3 (bI_f z))
      obtain ⟨r1, r2, r3, r4, r5, r6⟩ := yr
      rw [if_pos ⟨yg, yo, r1, r3, r4, r6⟩] at hq
      have hc := inv_cc h
      obtain ⟨-, -, w0, w1, w2, w3⟩ := hc
      have k17 : ∀ k : Nat, setR F 51 x y x y 17 k = F 17 k := fun k => by rw [setR_c (by decide)]
      -- the two sums
      have fin : ∀ a1 b1 c1 d1 a2 b2 c2 d2 : Int, (∀ F' : AF, Scr F F' G G → Q (some (vJ (aS (mv F G g) a1 b1 c1 d1 + aS (mv F G g) a2 b2 c2 d2))) S F' G) → 0 ≤ a1 → c1 < F 53 1 → 0 ≤ b1 → d1 < F 53 2 → a1 ≤ 100000 → b1 ≤ 100000 → -100000 ≤ c1 → -100000 ≤ d1 → 0 ≤ a2 → c2 < F 53 1 → 0 ≤ b2 → d2 < F 53 2 → a2 ≤ 100000 → b2 ≤ 100000 → -100000 ≤ c2 → -100000 ≤ d2 → V_X9_ahead_112 d S (setR (setR (setR F 51 x y x y) 51 a1 b1 c1 d1) 52 a2 b2 c2 d2) G Q g o x y := by
        intro a1 b1 c1 d1 a2 b2 c2 d2 hq' p1 p2 p3 p4 p5 p6 p7 p8 q1 q2 q3 q4 q5 q6 q7 q8
        have k1 := scr_tr (scr_tr (scr_51 (F := F) (G := G) x y x y) (scr_51 a1 b1 c1 d1)) (scr_52 a2 b2 c2 d2)
        have hI := inv_scr h k1
        have e51 : (setR (setR (setR F 51 x y x y) 51 a1 b1 c1 d1) 52 a2 b2 c2 d2) 51 = setR (setR F 51 x y x y) 51 a1 b1 c1 d1 51 := setR_c (by decide)
        have w1' := k1.2.2.1.1
        have w2' := k1.2.2.1.2.1
        have s1 := sum_re (d := d - 1) (by omega) hI (at_51 hsh) (g := g) (by omega) yg.2 (by rw [e51, setR_0]; exact p1) (by rw [e51, setR_2, w1']; exact p2) (by rw [e51, setR_1]; exact p3) (by rw [e51, setR_3, w2']; exact p4) (by rw [e51, setR_0]; exact p5) (by rw [e51, setR_1]; exact p6) (by rw [e51, setR_2]; exact p7) (by rw [e51, setR_3]; exact p8)
        have s2 := sum_re (d := d - 1) (by omega) hI (at_52 hsh) (g := g) (by omega) yg.2 (by rw [setR_0]; exact q1) (by rw [setR_2, w1']; exact q2) (by rw [setR_1]; exact q3) (by rw [setR_3, w2']; exact q4) (by rw [setR_0]; exact q5) (by rw [setR_1]; exact q6) (by rw [setR_2]; exact q7) (by rw [setR_3]; exact q8)
        rw [e51, setR_0, setR_1, setR_2, setR_3, scr_mv k1] at s1
        rw [setR_0, setR_1, setR_2, setR_3, scr_mv k1] at s2
        have b1' := mv_le (inv_mx h) (inv_mba h) (inv_mt h) yg.1 yg.2 p1 p2 p3 p4
        have b2' := mv_le (inv_mx h) (inv_mba h) (inv_mt h) yg.1 yg.2 q1 q2 q3 q4
        unfold V_X9_ahead_112
        exact ⟨by omega, _, s1, _, s2, by omega, hq' _ k1⟩
      refine ⟨fun q4 => ⟨by omega, ok_set (at_51 hsh) _ _ _ _ ⟨rfl, rfl, by omega, ok_set (at_52 hsh) _ _ _ _ ⟨rfl, rfl, ?_⟩⟩⟩, fun q4 => ⟨by omega, ok_set (at_51 hsh) _ _ _ _ ⟨rfl, rfl, by omega, ok_set (at_52 hsh) _ _ _ _ ⟨rfl, rfl, ?_⟩⟩⟩⟩
      · rw [if_neg q4] at hq
        rw [k17]
        have e3 : F 17 3 = F 53 2 - 1 := by omega
        rw [e3]
        exact fin _ _ _ _ _ _ _ _ (fun F' k => hq F' G k) (by omega) (by omega) (by omega) (by omega) (by omega) (by omega) (by omega) (by omega) (by omega) (by omega) (by omega) (by omega) (by omega) (by omega) (by omega) (by omega)
      · rw [if_pos q4] at hq
        rw [k17]
        have e3 : F 17 2 = F 53 1 - 1 := by omega
        rw [e3]
        exact fin _ _ _ _ _ _ _ _ (fun F' k => hq F' G k) (by omega) (by omega) (by omega) (by omega) (by omega) (by omega) (by omega) (by omega) (by omega) (by omega) (by omega) (by omega) (by omega) (by omega) (by omega) (by omega)
    · have nr := bI_0.mp q3
      rw [if_neg (fun z => nr ⟨z.2.2.1, Int.le_refl _, z.2.2.2.1, z.2.2.2.2.1, Int.le_refl _, z.2.2.2.2.2⟩)] at hq
      exact hq _ G (scr_51 _ _ _ _)
  · have hsm := inv_shm h
    refine ok_go rfl (by decide) (Nat.le_of_ble_eq_true rfl) (R_X10_ahead_0 hsm ?_)
    unfold V_X10_ahead_0
    intro F1 e1
    subst e1
    have h1 := inv_scr h scr_thrown
    rw [← aAhd_scr scr_thrown] at hq
    have hq := hq _ G scr_thrown
    unfold aAhd at hq
    generalize hF1 : fu F 53 0 0 = F1 at *
    have hx := inv_mx h1
    have sz := inv_sz h1
    refine ⟨by omega, _, pu_isGood (by omega) hsm g, fun q => ?_, fun q => ⟨_, pu_isIn hsm _ _ _, fun q2 => ?_, fun q2 => ⟨_, pu_isCell (by omega) hsm hx _ _, fun q3 => ?_, fun q3 => ?_⟩⟩⟩
    · rw [if_neg (fun z => bI_0.mp q z.1)] at hq; exact hq
    · rw [if_neg (fun z => bI_0.mp q2 z.2.1)] at hq; exact hq
    · have yg : 0 ≤ g ∧ g ≤ 2 := Classical.byContradiction (fun z => q (bI_f z))
      have yo : 0 ≤ o ∧ o ≤ 1 := Classical.byContradiction (fun z => q2 (bI_f z))
      have yr : 0 ≤ x ∧ x < F1 53 1 ∧ 0 ≤ y ∧ y < F1 53 2 := Classical.byContradiction (fun z => q3 (bI_f z))
      obtain ⟨r1, r3, r4, r6⟩ := yr
      rw [if_pos ⟨yg, yo, r1, r3, r4, r6⟩] at hq
      have ms := fun (d : Nat) (hd : 4 ≤ d) (a1 b1 c1 d1 : Int) (p1 : 0 ≤ a1) (p2 : c1 < F1 53 1) (p3 : 0 ≤ b1) (p4 : d1 < F1 53 2) (p5 : a1 ≤ 100000) (p6 : -100000 ≤ c1) (p7 : b1 ≤ 100000) (p8 : -100000 ≤ d1) => pu_msum (d := d) hd hsm hx (inv_mba h1) (inv_mt h1) (g := g) (by omega) yg.2 p1 p2 p3 p4 p5 p6 p7 p8
      have mb := fun (a1 b1 c1 d1 : Int) (p1 : 0 ≤ a1) (p2 : c1 < F1 53 1) (p3 : 0 ≤ b1) (p4 : d1 < F1 53 2) => mv_le hx (inv_mba h1) (inv_mt h1) yg.1 yg.2 p1 p2 p3 p4
      refine ⟨fun q4 => ?_, fun q4 => ?_⟩
      · rw [if_neg q4] at hq
        have tail' : ∀ s : Int, s = aS (mv F1 G g) 0 0 (x - 1) (F1 53 2 - 1) → V_X10_ahead_113 d S F1 G Q g o x y s := by
          intro s es
          have b1 := mb 0 0 (x - 1) (F1 53 2 - 1) (by omega) (by omega) (by omega) (by omega)
          have b2 := mb x 0 x (y - 1) (by omega) (by omega) (by omega) (by omega)
          unfold V_X10_ahead_113
          refine ⟨fun z => ⟨by omega, by omega, _, ms (d - 1) (by omega) x 0 x (y - 1) (by omega) (by omega) (by omega) (by omega) (by omega) (by omega) (by omega) (by omega), by omega, by rw [es]; exact hq⟩, fun z => ⟨by omega, ?_⟩⟩
          rw [aS_ey (f := mv F1 G g) (x1 := x) (x2 := x) (y1 := 0) (y2 := y - 1) (by omega)] at hq
          rw [es]; exact hq
        refine ⟨fun z => ⟨by omega, by omega, _, ms (d - 1) (by omega) 0 0 (x - 1) (F1 53 2 - 1) (by omega) (by omega) (by omega) (by omega) (by omega) (by omega) (by omega) (by omega), tail' _ rfl⟩, fun z => tail' 0 ?_⟩
        rw [aS_ex (by omega)]
      · rw [if_pos q4] at hq
        have tail' : ∀ s : Int, s = aS (mv F1 G g) 0 0 (F1 53 1 - 1) (y - 1) → V_X10_ahead_66 d S F1 G Q g o x y s := by
          intro s es
          have b1 := mb 0 0 (F1 53 1 - 1) (y - 1) (by omega) (by omega) (by omega) (by omega)
          have b2 := mb 0 y (x - 1) y (by omega) (by omega) (by omega) (by omega)
          unfold V_X10_ahead_66
          refine ⟨fun z => ⟨by omega, by omega, _, ms (d - 1) (by omega) 0 y (x - 1) y (by omega) (by omega) (by omega) (by omega) (by omega) (by omega) (by omega) (by omega), by omega, by rw [es]; exact hq⟩, fun z => ⟨by omega, ?_⟩⟩
          rw [aS_ex (f := mv F1 G g) (x1 := 0) (x2 := x - 1) (by omega)] at hq
          rw [es]; exact hq
        refine ⟨fun z => ⟨by omega, by omega, _, ms (d - 1) (by omega) 0 0 (F1 53 1 - 1) (y - 1) (by omega) (by omega) (by omega) (by omega) (by omega) (by omega) (by omega) (by omega), tail' _ rfl⟩, fun z => tail' 0 ?_⟩
        rw [aS_ey (by omega)]
    · rw [if_neg (fun z => bI_0.mp q3 z.2.2)] at hq; exact hq
