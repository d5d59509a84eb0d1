/-! EMPTY CELLS; SUMS OF BEFORE -/
theorem dbl_pS (e e1 : Int → Int) (n n1 : Int) (u : Int → Int → Int) (x1 y1 x2 y2 : Int) : sI (fun i => sI (fun j => u i j * ov (e i) (e (i + 1)) x1 x2 * ov (e1 j) (e1 (j + 1)) y1 y2) n1) n = pS e e1 n n1 u x1 y1 x2 y2 := by
  rw [sI_swap]
  refine sI_congr (fun j _ _ => ?_)
  unfold pY pR
  rw [← sI_mul]
  rfl
theorem plb_g {F : AF} {G : AG} {q : Nat} {off : Int} (h : PlB F G q off) {g i j : Int} (g0 : 0 ≤ g) (g1 : g ≤ 2) (i0 : 0 ≤ i) (i1 : i < F 4 1) (j0 : 0 ≤ j) (j1 : j < F 11 1) : 0 ≤ G q (off + 2304 * g + 48 * j + i) ∧ G q (off + 2304 * g + 48 * j + i) ≤ F 2 7 := by
  obtain ⟨a, b, c, e⟩ := h i j i0 i1 j0 j1
  by_cases w0 : g = 0
  · subst w0
    have e1 : off + 2304 * (0 : Int) + 48 * j + i = off + 48 * j + i := by omega
    rw [e1]
    omega
  · by_cases w1 : g = 1
    · subst w1
      have e1 : off + 2304 * (1 : Int) + 48 * j + i = off + (2304 + 48 * j + i) := by omega
      rw [e1]
      omega
    · have w2 : g = 2 := by omega
      subst w2
      have e1 : off + 2304 * (2 : Int) + 48 * j + i = off + (4608 + 48 * j + i) := by omega
      rw [e1]
      omega
theorem mC_pos {S : AS} {F : AF} {G : AG} {b : Int} (h : Inv S F G b) {q : Nat} {off : Int} (k : PlB F G q off) {g x y : Int} (g0 : 0 ≤ g) (g1 : g ≤ 2) (x0 : 0 ≤ x) (x1 : x < F 53 1) (y0 : 0 ≤ y) (y1 : y < F 53 2) : 0 ≤ mC F G q off g x y ∧ mC F G q off g x y ≤ F 2 7 := by
  have hx := inv_mx h
  obtain ⟨-, ⟨B1, B2, B3, B4, B5, B6, B7, B8⟩, -⟩ := h
  have bx := bl_spec (sq_x hx) x0 x1
  have by' := bl_spec (sq_y hx) y0 y1
  unfold mC cv
  exact plb_g k g0 g1 bx.1 (by rw [B5]; exact bx.2.1) by'.1 (by rw [B6]; exact by'.2.1)
theorem scr_mC {F F' : AF} {G G' : AG} (k : Scr F F' G G') (off : Int) : mC F' G' 58 off = mC F G 58 off := by
  funext g x y
  unfold mC cv
  rw [scr_me k, scr_me k, (scr_g k).2.1, (scr_g k).2.2.2.2.1]
noncomputable def aEmp (x1 y1 x2 y2 : Int) (F : AF) (G : AG) : Int := if recOK F x1 y1 x2 y2 then aS (fun x y => if mv F G (-1) x y < 1 then 1 else 0) x1 y1 x2 y2 else -2
theorem aEmp_scr {x1 y1 x2 y2 : Int} {F F1 : AF} {G G1 : AG} (k : Scr F F1 G G1) : aEmp x1 y1 x2 y2 F1 G1 = aEmp x1 y1 x2 y2 F G := by
  simp only [aEmp, recOK, scr_mv k, k.2.2.1.1, k.2.2.1.2.1]
theorem pu_memptyLoop {d : Nat} {S : AS} {F : AF} {G : AG} (hd : 3 ≤ d) (hsm : ShM S) (hx : MX F G) (hb : MBA G) {x1 y1 x2 y2 : Int} (r : recOK F x1 y1 x2 y2) {Q : AQ} (hq : Q (some (vJ (aS (fun x y => if mv F G (-1) x y < 1 then 1 else 0) x1 y1 x2 y2))) S F G) : Go d MX10_empty 27 [some (vR 53), some (vI x1), some (vI y1), some (vI x2), some (vI y2), some (vJ 0), none, some (vI 0), none] [] S F G Q := by
  obtain ⟨r1, r2, r3, r4, r5, r6⟩ := r
  have n0 := hx 0 (by omega) (by omega)
  have n1 := hx 1 (by omega) (by omega)
  have w1 : F 53 1 ≤ 10000 := n0.2.2.2.1
  have w2 : F 53 2 ≤ 10000 := n1.2.2.2.1
  have eT := dbl_pS (me F G 0) (me F G 1) (G 55 0) (G 55 1) (fun i j => if mu G (-1) i j < 1 then 1 else 0) x1 y1 x2 y2
  rw [pS_aS (sq_x hx) (sq_y hx) _ r1 r3 r4 r6] at eT
  have eU : aS (cv (me F G 0) (me F G 1) (G 55 0) (G 55 1) (fun i j => if mu G (-1) i j < 1 then 1 else 0)) x1 y1 x2 y2 = aS (fun x y => if mv F G (-1) x y < 1 then 1 else 0) x1 y1 x2 y2 := rfl
  rw [eU] at eT
  rw [← eT] at hq
  clear eT eU
  generalize hf : (fun i => sI (fun j => (if mu G (-1) i j < 1 then (1 : Int) else 0) * ov (me F G 0 i) (me F G 0 (i + 1)) x1 x2 * ov (me F G 1 j) (me F G 1 (j + 1)) y1 y2) (G 55 1)) = f at hq
  have inner : ∀ (i accO : Int), 0 ≤ i → i < G 55 0 → 0 ≤ accO → accO ≤ i * 4800000000 →
      (∀ acc2 : Int, acc2 = accO + f i → 0 ≤ acc2 → acc2 ≤ (i + 1) * 4800000000 → Go d MX10_empty 27 [some (vR 53), some (vI x1), some (vI y1), some (vI x2), some (vI y2), some (vJ acc2), none, some (vI (i + 1)), none] [] S F G Q) →
      ∀ (k : Nat) (j acc : Int), 0 ≤ j → j ≤ G 55 1 → (G 55 1 - j).toNat ≤ k → acc = accO + sI (fun j => (if mu G (-1) i j < 1 then (1 : Int) else 0) * ov (me F G 0 i) (me F G 0 (i + 1)) x1 x2 * ov (me F G 1 j) (me F G 1 (j + 1)) y1 y2) j → 0 ≤ acc → acc ≤ i * 4800000000 + j * 100000000 →
      Go d MX10_empty 41 [some (vR 53), some (vI x1), some (vI y1), some (vI x2), some (vI y2), some (vJ acc), none, some (vI i), some (vI j)] [] S F G Q := by
    intro i accO hi hi2 ha0 ha1 cont k
    induction k with
    | zero =>
      intro j acc h0 h1 h2 e a0 a1
      refine R_X10_empty_41 hsm ?_
      unfold V_X10_empty_41
      have ej : j = G 55 1 := by omega
      refine ⟨fun h => ⟨by omega, cont acc (by rw [e, ej, ← hf]) a0 (by omega)⟩, fun h => absurd h (by omega)⟩
    | succ k ih =>
      intro j acc h0 h1 h2 e a0 a1
      refine R_X10_empty_41 hsm ?_
      unfold V_X10_empty_41
      refine ⟨fun h => ?_, fun h => ?_⟩
      · have ej : j = G 55 1 := by omega
        exact ⟨by omega, cont acc (by rw [e, ej, ← hf]) a0 (by omega)⟩
      · have hj2 : j < G 55 1 := by omega
        have o1 := ov_bd hx (a := 0) (x := x1) (y := x2) (by omega) (by omega) hi hi2
        have o2 := ov_bd hx (a := 1) (x := y1) (y := y2) (by omega) (by omega) h0 hj2
        have b := mul_bd (A := 10000) (B := 10000) o1.1 o1.2 o2.1 o2.2
        have mp := mu_pos hb (g := -1) (by omega) (by omega) i j hi hi2 h0 hj2
        have next : ∀ v : Int, v = (if mu G (-1) i j < 1 then (1 : Int) else 0) * ov (me F G 0 i) (me F G 0 (i + 1)) x1 x2 * ov (me F G 1 j) (me F G 1 (j + 1)) y1 y2 → 0 ≤ v → v ≤ 100000000 → V_X10_empty_94 d S F G Q x1 y1 x2 y2 acc i j v acc := by
          intro v ev v0 v1
          unfold V_X10_empty_94
          refine ⟨by omega, fun x2' e2 => ⟨by omega, ih (j + 1) x2' (by omega) (by omega) (by omega) ?_ (by omega) (by omega)⟩⟩
          rw [sI_1 _ h0, e2, e, ev]
          omega
        refine ⟨by omega, _, pu_in (by omega) hsm (hb i j hi hi2 h0 hj2) (by omega) (by omega) hi (by omega) h0 (by omega), fun h9 => ?_, fun h9 => ⟨_, pu_part (by omega) hsm hx (by omega) (by omega) hi hi2 (by omega) (by omega) (by omega) (by omega), _, pu_part (by omega) hsm hx (by omega) (by omega) h0 hj2 (by omega) (by omega) (by omega) (by omega), by omega, ?_⟩⟩
        · exact next 0 (by rw [if_neg (by omega), Int.zero_mul, Int.zero_mul]) (by omega) (by omega)
        · exact next _ (by rw [if_pos (by omega), Int.one_mul]) b.1 b.2
  have outer : ∀ (k : Nat) (i acc : Int), 0 ≤ i → i ≤ G 55 0 → (G 55 0 - i).toNat ≤ k → acc = sI f i → 0 ≤ acc → acc ≤ i * 4800000000 → Go d MX10_empty 27 [some (vR 53), some (vI x1), some (vI y1), some (vI x2), some (vI y2), some (vJ acc), none, some (vI i), none] [] S F G Q := by
    intro k
    induction k with
    | zero =>
      intro i acc h0 h1 h2 e a0 a1
      refine R_X10_empty_27 hsm ?_
      unfold V_X10_empty_27
      have ei : i = G 55 0 := by omega
      exact ⟨fun h => by rw [e, ei]; exact hq, fun h => absurd h (by omega)⟩
    | succ k ih =>
      intro i acc h0 h1 h2 e a0 a1
      refine R_X10_empty_27 hsm ?_
      unfold V_X10_empty_27
      refine ⟨fun h => ?_, fun h => ?_⟩
      · have ei : i = G 55 0 := by omega
        rw [e, ei]; exact hq
      · refine inner i acc h0 (by omega) a0 a1 (fun acc2 e2 b0 b1 => ih (i + 1) acc2 (by omega) (by omega) (by omega) ?_ b0 b1) _ 0 acc (by omega) (by omega) (Nat.le_refl _) ?_ a0 (by omega)
        · rw [sI_1 _ h0, e2, e]
        · rw [sI_0 _ (by omega), Int.add_zero]
  exact outer _ 0 0 (by omega) (by omega) (Nat.le_refl _) (by rw [sI_0 _ (by omega)]) (by omega) (by omega)
theorem pr_empty {d : Nat} {S : AS} {F : AF} {G : AG} {b : Int} (hd : 5 ≤ d) (h : Inv S F G b) (x1 y1 x2 y2 : Int) : Pr d MX9_empty MX10_empty [vR 1, vI x1, vI y1, vI x2, vI y2] [vR 53, vI x1, vI y1, vI x2, vI y2] vJ S F G b := by
  refine pr_gen (A := aEmp x1 y1 x2 y2) h (fun F1 G1 k => aEmp_scr k) (fun Q hq => ?_) (fun F G h Q hq => ?_)
  · unfold aEmp at hq
    have hsh := inv_shc h
    have sz := inv_sz h
    refine ok_go rfl (by decide) (Nat.le_of_ble_eq_true rfl) (R_X9_empty_0 hsh ?_)
    unfold V_X9_empty_0
    refine ⟨by omega, ok_ask (by omega) h _ _ _ _ ⟨rfl, _, rfl, fun q2 => ?_, fun q2 => ?_⟩⟩
    · have yr : recOK F x1 y1 x2 y2 := Classical.byContradiction (fun z => q2 (bI_f z))
      obtain ⟨r1, r2, r3, r4, r5, r6⟩ := id yr
      rw [if_pos yr] at hq
      have c := from_51 (d := d - 1) (by omega) h (g := -1) (by omega) (by omega) 1 yr
      have pc := pu_cells (d := d - 1) (S := S) (F := setR F 51 x1 y1 x2 y2) (G := G) (by omega) (at_51 hsh) (ask_in h yr).2.2.2
      rw [setR_0, setR_1, setR_2, setR_3] at pc
      have sm : aS (fun x y => if mv F G (-1) x y < 1 then (1 : Int) else 0) x1 y1 x2 y2 + nFrom F G (-1) 1 x1 y1 x2 y2 = (x2 - x1 + 1) * (y2 - y1 + 1) := by
        unfold nFrom
        rw [← aS_add]
        have e : (x2 - x1 + 1) * (y2 - y1 + 1) = aS (fun _ _ => 1) x1 y1 x2 y2 := by rw [aS_const 1 (by omega) (by omega), Int.mul_one]
        rw [e]
        exact aS_congr (fun x y _ _ _ _ => by split <;> rfl)
      have m := mul_bd (a := x2 - x1 + 1) (b := y2 - y1 + 1) (A := 10000) (B := 10000) (by omega) (by omega) (by omega) (by omega)
      have p1 : 0 ≤ nFrom F G (-1) 1 x1 y1 x2 y2 := aS_pos (fun x y _ _ _ _ => by split <;> omega)
      have p2 : 0 ≤ aS (fun x y => if mv F G (-1) x y < 1 then (1 : Int) else 0) x1 y1 x2 y2 := aS_pos (fun x y _ _ _ _ => by split <;> omega)
      refine ⟨_, pc, _, c, by omega, ?_⟩
      have e : (x2 - x1 + 1) * (y2 - y1 + 1) - nFrom F G (-1) 1 x1 y1 x2 y2 = aS (fun x y => if mv F G (-1) x y < 1 then (1 : Int) else 0) x1 y1 x2 y2 := by omega
      rw [e]
      exact hq _ G (scr_51 _ _ _ _)
    · rw [if_neg (bI_0.mp q2)] at hq
      exact hq _ G (scr_51 _ _ _ _)
  · have hsm := inv_shm h
    refine ok_go rfl (by decide) (Nat.le_of_ble_eq_true rfl) (R_X10_empty_0 hsm ?_)
    unfold V_X10_empty_0
    intro F1 e1
    subst e1
    have h1 := inv_scr h scr_thrown
    rw [← aEmp_scr scr_thrown] at hq
    have hq := hq _ G scr_thrown
    unfold aEmp at hq
    generalize hF1 : fu F 53 0 0 = F1 at *
    refine ⟨by omega, _, pu_isRectangle hsm _ _ _ _, fun q2 => ?_, fun q2 => ?_⟩
    · have yr : recOK F1 x1 y1 x2 y2 := Classical.byContradiction (fun z => q2 (bI_f z))
      rw [if_pos yr] at hq
      exact pu_memptyLoop (by omega) hsm (inv_mx h1) (inv_mba h1) yr hq
    · rw [if_neg (bI_0.mp q2)] at hq
      exact hq
