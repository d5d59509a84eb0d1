/-! SUMS OF BEFORE -/
theorem inv_vS {S : AS} {F : AF} {G : AG} {b : Int} (h : Inv S F G b) {k : Nat} (hk : (k : Int) < F 2 8) {g x1 y1 x2 y2 : Int} (g0 : 0 ≤ g) (g1 : g ≤ 2) (a0 : 0 ≤ x1) (a1 : x2 < F 4 2) (b0 : 0 ≤ y1) (b1 : y2 < F 11 2) : aS (vu F G (79 + 2 * k) g) x1 y1 x2 y2 = aS (mC F G 58 (6912 * k) g) x1 y1 x2 y2 := by
  refine aS_congr (fun x y x0 x1' y0 y1' => ?_)
  rw [vu_g g0]
  exact inv_vC h.2.1 (h.2.2.2.2.1.2.2.2.1 k hk).1 g0 g1 (by omega) (by omega) (by omega) (by omega)
noncomputable def aBef (k g x1 y1 x2 y2 : Int) (F : AF) (G : AG) : Int := if (0 ≤ k ∧ k < F 53 11) ∧ (0 ≤ g ∧ g ≤ 2) ∧ recOK F x1 y1 x2 y2 then aS (mC F G 58 (6912 * k) g) x1 y1 x2 y2 else -2
theorem aBef_scr {n g x1 y1 x2 y2 : Int} {F F1 : AF} {G G1 : AG} (k : Scr F F1 G G1) : aBef n g x1 y1 x2 y2 F1 G1 = aBef n g x1 y1 x2 y2 F G := by
  simp only [aBef, recOK, scr_mC k, k.2.2.1.1, k.2.2.1.2.1, k.2.2.1.2.2.2.1]
theorem mbef {d : Nat} {S : AS} {F : AF} {G : AG} {b : Int} (hd : 3 ≤ d) (h : Inv S F G b) {n g x1 y1 x2 y2 : Int} (n0 : 0 ≤ n) (n1 : n < F 53 11) (g0 : 0 ≤ g) (g1 : g ≤ 2) (r : recOK F x1 y1 x2 y2) {Q : AQ} (hq : Q (some (vJ (aS (mC F G 58 (6912 * n) g) x1 y1 x2 y2))) S F G) : Go d MX10_before 52 [some (vR 53), some (vI n), some (vI g), some (vI x1), some (vI y1), some (vI x2), some (vI y2), some (vJ 0), none, some (vI 0), none] [] S F G Q := by
  obtain ⟨r1, r2, r3, r4, r5, r6⟩ := id r
  have hsm := inv_shm h
  have hx := inv_mx h
  have sz := inv_sz h
  have m0 := hx 0 (by omega) (by omega)
  have m1 := hx 1 (by omega) (by omega)
  have P3 := h.2.2.2.1.2.2.1
  obtain ⟨O1, O2, O3, O4, -⟩ := h.2.2.2.2.1
  have B5 := h.2.1.2.2.2.2.1
  have B6 := h.2.1.2.2.2.2.2.1
  have en : ((n.toNat : Nat) : Int) = n := by omega
  obtain ⟨-, K2, K3, -⟩ := O4 n.toNat (by omega)
  rw [en] at K2 K3
  obtain ⟨K3, K4⟩ := K3 g g0 g1
  have eT := dbl_pS (me F G 0) (me F G 1) (G 55 0) (G 55 1) (fun i j => G 58 (6912 * n + 2304 * g + 48 * j + i)) x1 y1 x2 y2
  rw [pS_aS (sq_x hx) (sq_y hx) _ r1 r3 r4 r6] at eT
  have eU : aS (cv (me F G 0) (me F G 1) (G 55 0) (G 55 1) (fun i j => G 58 (6912 * n + 2304 * g + 48 * j + i))) x1 y1 x2 y2 = aS (mC F G 58 (6912 * n) g) x1 y1 x2 y2 := rfl
  rw [eU] at eT
  have mono := aS_mono (f := mC F G 58 (6912 * n) g) (x1 := x1) (y1 := y1) (x2 := x2) (y2 := y2) (a1 := 0) (b1 := 0) (a2 := F 53 1 - 1) (b2 := F 53 2 - 1) (fun x y x0 x1' y0 y1' => (mC_pos h K2 g0 g1 x0 (by omega) y0 (by omega)).1) r1 r4 (by omega) (by omega)
  rw [← K3, ← eT] at mono
  rw [← eT] at hq
  clear eT eU
  have tp : ∀ i j : Int, 0 ≤ i → i < G 55 0 → 0 ≤ j → j < G 55 1 → 0 ≤ G 58 (6912 * n + 2304 * g + 48 * j + i) * ov (me F G 0 i) (me F G 0 (i + 1)) x1 x2 * ov (me F G 1 j) (me F G 1 (j + 1)) y1 y2 := fun i j i0 i1 j0 j1 => Int.mul_nonneg (Int.mul_nonneg (plb_g K2 g0 g1 i0 (by omega) j0 (by omega)).1 (ov_pos _ _ _ _)) (ov_pos _ _ _ _)
  have fp : ∀ i : Int, 0 ≤ i → i < G 55 0 → 0 ≤ sI (fun j => G 58 (6912 * n + 2304 * g + 48 * j + i) * ov (me F G 0 i) (me F G 0 (i + 1)) x1 x2 * ov (me F G 1 j) (me F G 1 (j + 1)) y1 y2) (G 55 1) := fun i i0 i1 => sI_pos (fun j j0 j1 => tp i j i0 i1 j0 j1)
  generalize hf : (fun i => sI (fun j => G 58 (6912 * n + 2304 * g + 48 * j + i) * ov (me F G 0 i) (me F G 0 (i + 1)) x1 x2 * ov (me F G 1 j) (me F G 1 (j + 1)) y1 y2) (G 55 1)) = f at hq mono
  have fp' : ∀ i : Int, 0 ≤ i → i < G 55 0 → 0 ≤ f i := fun i i0 i1 => by rw [← hf]; exact fp i i0 i1
  have inner : ∀ (i accO : Int), 0 ≤ i → i < G 55 0 → accO = sI f i →
      (∀ acc2 : Int, acc2 = accO + f i → Go d MX10_before 52 [some (vR 53), some (vI n), some (vI g), some (vI x1), some (vI y1), some (vI x2), some (vI y2), some (vJ acc2), none, some (vI (i + 1)), none] [] S F G Q) →
      ∀ (k : Nat) (j acc : Int), 0 ≤ j → j ≤ G 55 1 → (G 55 1 - j).toNat ≤ k → acc = accO + sI (fun j => G 58 (6912 * n + 2304 * g + 48 * j + i) * ov (me F G 0 i) (me F G 0 (i + 1)) x1 x2 * ov (me F G 1 j) (me F G 1 (j + 1)) y1 y2) j →
      Go d MX10_before 66 [some (vR 53), some (vI n), some (vI g), some (vI x1), some (vI y1), some (vI x2), some (vI y2), some (vJ acc), none, some (vI i), some (vI j)] [] S F G Q := by
    intro i accO hi hi2 ha cont k
    induction k with
    | zero =>
      intro j acc h0 h1 h2 e
      refine R_X10_before_66 hsm ?_
      unfold V_X10_before_66
      have ej : j = G 55 1 := by omega
      refine ⟨fun h => ⟨by omega, cont acc (by rw [e, ej, ← hf])⟩, fun h => absurd h (by omega)⟩
    | succ k ih =>
      intro j acc h0 h1 h2 e
      refine R_X10_before_66 hsm ?_
      unfold V_X10_before_66
      refine ⟨fun h => ?_, fun h => ?_⟩
      · have ej : j = G 55 1 := by omega
        exact ⟨by omega, cont acc (by rw [e, ej, ← hf])⟩
      · have hj2 : j < G 55 1 := by omega
        have o1 := ov_bd hx (a := 0) (x := x1) (y := x2) (by omega) (by omega) hi hi2
        have o2 := ov_bd hx (a := 1) (x := y1) (y := y2) (by omega) (by omega) h0 hj2
        have pb := plb_g K2 g0 g1 hi (by omega) h0 (by omega)
        have b := mul_bd (A := 1000000000000) (B := 10000) pb.1 (by omega) o1.1 o1.2
        have s1 := sI_part (f := fun j => G 58 (6912 * n + 2304 * g + 48 * j + i) * ov (me F G 0 i) (me F G 0 (i + 1)) x1 x2 * ov (me F G 1 j) (me F G 1 (j + 1)) y1 y2) (m := j + 1) (n := G 55 1) (by omega) (by omega) (fun j j0 j1 => tp i j hi hi2 j0 j1)
        have s2 := sI_part (f := f) (m := i + 1) (n := G 55 0) (by omega) (by omega) fp'
        rw [sI_1 f hi] at s2
        have s3 : sI (fun j => G 58 (6912 * n + 2304 * g + 48 * j + i) * ov (me F G 0 i) (me F G 0 (i + 1)) x1 x2 * ov (me F G 1 j) (me F G 1 (j + 1)) y1 y2) (G 55 1) = f i := by rw [← hf]
        have s4 := sI_pos (f := f) (n := i) (fun q q0 q1 => fp' q q0 (by omega))
        have s5 := sI_pos (f := fun j => G 58 (6912 * n + 2304 * g + 48 * j + i) * ov (me F G 0 i) (me F G 0 (i + 1)) x1 x2 * ov (me F G 1 j) (me F G 1 (j + 1)) y1 y2) (n := j) (fun q q0 q1 => tp i q hi hi2 q0 (by omega))
        have s6 := tp i j hi hi2 h0 hj2
        rw [sI_1 _ h0, s3] at s1
        have es : 6912 * n + (2304 * g + 48 * j + i) = 6912 * n + 2304 * g + 48 * j + i := by omega
        refine ⟨by omega, by omega, _, pu_slot hsm g0 g1 hi (by omega) h0 (by omega), by omega, by omega, by omega, _, pu_part (by omega) hsm hx (by omega) (by omega) hi hi2 (by omega) (by omega) (by omega) (by omega), ?_, _, pu_part (by omega) hsm hx (by omega) (by omega) h0 hj2 (by omega) (by omega) (by omega) (by omega), ?_⟩
        · rw [es]; omega
        · rw [es]
          refine ⟨by omega, by omega, fun x28 e28 => ⟨by omega, ih (j + 1) x28 (by omega) (by omega) (by omega) ?_⟩⟩
          rw [sI_1 _ h0, e28, e]
          omega
  have outer : ∀ (k : Nat) (i acc : Int), 0 ≤ i → i ≤ G 55 0 → (G 55 0 - i).toNat ≤ k → acc = sI f i → Go d MX10_before 52 [some (vR 53), some (vI n), some (vI g), some (vI x1), some (vI y1), some (vI x2), some (vI y2), some (vJ acc), none, some (vI i), none] [] S F G Q := by
    intro k
    induction k with
    | zero =>
      intro i acc h0 h1 h2 e
      refine R_X10_before_52 hsm ?_
      unfold V_X10_before_52
      have ei : i = G 55 0 := by omega
      exact ⟨fun h => by rw [e, ei]; exact hq, fun h => absurd h (by omega)⟩
    | succ k ih =>
      intro i acc h0 h1 h2 e
      refine R_X10_before_52 hsm ?_
      unfold V_X10_before_52
      refine ⟨fun h => ?_, fun h => ?_⟩
      · have ei : i = G 55 0 := by omega
        rw [e, ei]; exact hq
      · refine inner i acc h0 (by omega) e (fun acc2 e2 => ih (i + 1) acc2 (by omega) (by omega) (by omega) ?_) _ 0 acc (by omega) (by omega) (Nat.le_refl _) ?_
        · rw [sI_1 _ h0, e2, e]
        · rw [sI_0 _ (by omega), Int.add_zero]
  exact outer _ 0 0 (by omega) (by omega) (Nat.le_refl _) (by rw [sI_0 _ (by omega)])
theorem pr_before {d : Nat} {S : AS} {F : AF} {G : AG} {b : Int} (hd : 5 ≤ d) (h : Inv S F G b) (n g x1 y1 x2 y2 : Int) : Pr d MX9_before MX10_before [vR 1, vI n, vI g, vI x1, vI y1, vI x2, vI y2] [vR 53, vI n, vI g, vI x1, vI y1, vI x2, vI y2] vJ S F G b := by
  refine pr_gen (A := aBef n g x1 y1 x2 y2) h (fun F1 G1 k => aBef_scr k) (fun Q hq => ?_) (fun F G h Q hq => ?_)
  · unfold aBef at hq
    have hsh := inv_shc h
    have sz := inv_sz h
    obtain ⟨O1, O2, O3, O4, -⟩ := h.2.2.2.2.1
    have P3 := h.2.2.2.1.2.2.1
    have op := inv_open h
    refine ok_go rfl (by decide) (Nat.le_of_ble_eq_true rfl) (R_X9_before_0 hsh ?_)
    unfold V_X9_before_0
    have ps := pu_savedAt (d := d - 1) (S := S) (F := F) (G := G) hsh n
    by_cases yn : 0 ≤ n ∧ n < F 53 11
    · have en : ((n.toNat : Nat) : Int) = n := by omega
      obtain ⟨o1, o2⟩ := op.2.2 n.toNat (by omega)
      rw [if_pos (by omega), o1] at ps
      refine ⟨by omega, _, ps, fun z => absurd z (by omega), fun _ => ⟨_, pu_cisGood hsh g, fun q => ?_, fun q => ok_ask (by omega) h _ _ _ _ ⟨rfl, _, rfl, fun q2 => ?_, fun q2 => ?_⟩⟩⟩
      · rw [if_neg (fun z => bI_0.mp q z.2.1)] at hq
        exact hq F G (scr_rf F G)
      · have yg : 0 ≤ g ∧ g ≤ 2 := Classical.byContradiction (fun z => q (bI_f z))
        have yr : recOK F x1 y1 x2 y2 := Classical.byContradiction (fun z => q2 (bI_f z))
        obtain ⟨r1, r2, r3, r4, r5, r6⟩ := id yr
        rw [if_pos ⟨yn, yg, yr⟩] at hq
        have hq := hq _ G (scr_51 x1 y1 x2 y2)
        obtain ⟨hI, -, hri, -⟩ := ask_in h yr
        have kk := scr_51 (F := F) (G := G) x1 y1 x2 y2
        have e28 : setR F 51 x1 y1 x2 y2 2 8 = F 2 8 := by rw [setR_c (by decide)]
        have e27 : setR F 51 x1 y1 x2 y2 2 7 = F 2 7 := by rw [setR_c (by decide)]
        have e42 : setR F 51 x1 y1 x2 y2 4 2 = F 4 2 := by rw [setR_c (by decide)]
        have e12 : setR F 51 x1 y1 x2 y2 11 2 = F 11 2 := by rw [setR_c (by decide)]
        have szI := inv_sz hI
        have O4I := hI.2.2.2.2.1.2.2.2.1 n.toNat (by omega)
        obtain ⟨K1, K2, K3, -⟩ := O4I
        have pb := pl_pba K1 K2 (by omega)
        have ct : CT (setR F 51 x1 y1 x2 y2) G (79 + 2 * n.toNat) := by
          intro g' g0 g1
          rw [csum_aS (inv_cc hI) _ g' (by omega) (by omega) (by omega) (by omega), inv_vS hI (by omega) g0 g1 (by omega) (by omega) (by omega) (by omega), szI.1, szI.2.1, ← (K3 g' g0 g1).1]
          exact (K3 g' g0 g1).2
        have ev : 78 + 2 * n.toNat + 1 = 79 + 2 * n.toNat := by omega
        have p := pu_sumWhenSaved (d := d - 1) (by omega) hsh (inv_cc hI) o2 (at_51 hsh) (g := g) (by rw [ev]; exact pb) (by rw [ev]; exact ct) yg.1 yg.2 hri
        rw [setR_0, setR_1, setR_2, setR_3] at p
        rw [ev, csum_aS (inv_cc hI) _ g r1 (by omega) r4 (by omega), inv_vS hI (by omega) yg.1 yg.2 r1 (by omega) r4 (by omega), scr_mC kk, en] at p
        exact ⟨_, p, hq⟩
      · rw [if_neg (fun z => bI_0.mp q2 z.2.2)] at hq
        exact hq _ G (scr_51 _ _ _ _)
    · rw [if_neg (by omega)] at ps
      rw [if_neg (fun z => yn z.1)] at hq
      exact ⟨by omega, _, ps, fun _ => hq F G (scr_rf F G), fun z => absurd rfl z⟩
  · have hsm := inv_shm h
    refine ok_go rfl (by decide) (Nat.le_of_ble_eq_true rfl) (R_X10_before_0 hsm ?_)
    unfold V_X10_before_0
    intro F1 e1
    subst e1
    have h1 := inv_scr h scr_thrown
    rw [← aBef_scr scr_thrown] at hq
    have hq := hq _ G scr_thrown
    unfold aBef at hq
    generalize hF1 : fu F 53 0 0 = F1 at *
    obtain ⟨O1, O2, O3, -⟩ := h1.2.2.2.2.1
    refine ⟨by omega, by omega, _, pu_isIn hsm _ _ _, fun q => ?_, fun q => ⟨_, pu_isGood (by omega) hsm g, fun q2 => ?_, fun q2 => ⟨_, pu_isRectangle hsm _ _ _ _, fun q3 => ?_, fun q3 => ?_⟩⟩⟩
    · have nq := bI_0.mp q
      rw [if_neg (fun z => nq (by omega))] at hq
      exact hq
    · rw [if_neg (fun z => bI_0.mp q2 z.2.1)] at hq
      exact hq
    · have yn : 0 ≤ n ∧ n ≤ F1 53 11 - 1 := Classical.byContradiction (fun z => q (bI_f z))
      have yg : 0 ≤ g ∧ g ≤ 2 := Classical.byContradiction (fun z => q2 (bI_f z))
      have yr : recOK F1 x1 y1 x2 y2 := Classical.byContradiction (fun z => q3 (bI_f z))
      rw [if_pos ⟨by omega, yg, yr⟩] at hq
      exact mbef (by omega) h1 yn.1 (by omega) yg.1 yg.2 yr hq
    · rw [if_neg (fun z => bI_0.mp q3 z.2.2)] at hq
      exact hq
