/-! THE REFERENCE FINDS A UNIT -/
abbrev mq (G : AG) (g : Int) : Int → Int → Int := fun j i => mu G g i j
theorem mq_pos {G : AG} (hb : MBA G) {g : Int} (hg : -1 ≤ g) (hg2 : g ≤ 2) : Upos (G 55 1) (G 55 0) (mq G g) := fun j i j0 j1 i0 i1 => (mu_in (hb i j i0 i1 j0 j1) hg hg2).1
theorem mu_pos {G : AG} (hb : MBA G) {g : Int} (hg : -1 ≤ g) (hg2 : g ≤ 2) : Upos (G 55 0) (G 55 1) (mu G g) := fun j i j0 j1 i0 i1 => (mu_in (hb j i j0 j1 i0 i1) hg hg2).1
theorem mtot {F : AF} {G : AG} (hx : MX F G) {g x1 y1 x2 y2 : Int} (a0 : 0 ≤ x1) (a1 : x2 < F 53 1) (b0 : 0 ≤ y1) (b1 : y2 < F 53 2) : tot (me F G 1) (me F G 0) (G 55 1) (G 55 0) (mq G g) y1 y2 x1 x2 = aS (mv F G g) x1 y1 x2 y2 := tot_dS (sq_y hx) (sq_x hx) (mq G g) b0 b1 a0 a1
theorem ok_finds {d : Nat} {S : AS} {F : AF} {G : AG} (hd : 4 ≤ d) (hsm : ShM S) (hx : MX F G) (hb : MBA G) (ht : MT F G) {g x1 y1 x2 y2 k : Int} (hg : 0 ≤ g) (hg2 : g ≤ 2) (hr : MR F x1 y1 x2 y2) (k1 : 1 ≤ k) (k2 : k ≤ 3000000000000000000) {Q : AQ} (hq1 : ∀ x y r : Int, FdC (me F G 1) (me F G 0) (G 55 1) (G 55 0) (mq G g) y1 y2 x1 x2 k y x r → Q (some (vI 1)) S (fu (fu (fu F 53 22 y) 53 21 x) 53 23 r) G) (hq0 : aS (mv F G g) x1 y1 x2 y2 < k → Q (some (vI 0)) S F G) : Ok d MX10_finds [vR 53, vI g, vI x1, vI y1, vI x2, vI y2, vJ k] S F G Q := by
  obtain ⟨r1, r2, r3, r4, r5, r6⟩ := id hr
  have w1 := (hx 0 (by omega) (by omega)).2.2.2.1
  have w2 := (hx 1 (by omega) (by omega)).2.2.2.1
  have n1 := (hx 0 (by omega) (by omega)).2.1
  have n2 := (hx 1 (by omega) (by omega)).2.1
  have n3 := (hx 1 (by omega) (by omega)).1
  rw [msz_0] at w1
  rw [msz_1] at w2
  have hU := mq_pos hb (g := g) (by omega) hg2
  have hT := mv_le hx hb ht hg hg2 r1 r3 r4 r6
  rw [← mtot hx r1 r3 r4 r6] at hT hq0
  unfold tot at hT hq0
  have pos : ∀ j : Int, 0 ≤ j → j < G 55 1 → 0 ≤ rwS (me F G 0) (G 55 0) (mq G g) x1 x2 j * ov (me F G 1 j) (me F G 1 (j + 1)) y1 y2 := fun j j0 j1 => Int.mul_nonneg (rwS_pos hU _ _ _ j0 j1) (ov_pos _ _ _ _)
  refine ok_go rfl (by decide) (Nat.le_of_ble_eq_true rfl) (R_X10_finds_0 hsm ?_)
  unfold V_X10_finds_0
  refine up_ind (α := Int) (G 55 1 - 1) (fun j l => 0 ≤ j ∧ j ≤ G 55 1 ∧ l = k - sI (fun j => rwS (me F G 0) (G 55 0) (mq G g) x1 x2 j * ov (me F G 1 j) (me F G 1 (j + 1)) y1 y2) j ∧ 1 ≤ l) (fun j l => Go d MX10_finds 7 [some (vR 53), some (vI g), some (vI x1), some (vI y1), some (vI x2), some (vI y2), some (vJ k), none, some (vJ l), none, some (vI j), none, none, none, none, none, none, none, none] [] S F G Q) ?_ ?_ 0 k ⟨by omega, by omega, by rw [sI_0 _ (by omega)]; omega, k1⟩
  · rintro j l ⟨j0, j1, el, l1⟩ hj ih
    have sle := sI_at (f := fun j => rwS (me F G 0) (G 55 0) (mq G g) x1 x2 j * ov (me F G 1 j) (me F G 1 (j + 1)) y1 y2) (n := G 55 1) (j := j) j0 (by omega) pos
    have pj := pos j j0 (by omega)
    have sp := sI_pos (f := fun j => rwS (me F G 0) (G 55 0) (mq G g) x1 x2 j * ov (me F G 1 j) (me F G 1 (j + 1)) y1 y2) (n := j) (fun i i0 i1 => pos i i0 (by omega))
    have ss := sI_1 (fun j => rwS (me F G 0) (G 55 0) (mq G g) x1 x2 j * ov (me F G 1 j) (me F G 1 (j + 1)) y1 y2) j0
    have R0 := rwS_pos hU (me F G 0) x1 x2 j0 (by omega : j < G 55 1)
    have ovb := ov_bd hx (a := 1) (i := j) (x := y1) (y := y2) (by omega) (by omega) j0 (by omega)
    have rowe : rowM F G g j x1 x2 = rwS (me F G 0) (G 55 0) (mq G g) x1 x2 j := rfl
    -- after the sum of a row is known
    have fin : ∀ s0 : Int, (s0 = rwS (me F G 0) (G 55 0) (mq G g) x1 x2 j ∨ (s0 = 0 ∧ ov (me F G 1 j) (me F G 1 (j + 1)) y1 y2 = 0)) → V_X10_finds_49 d S F G Q g x1 y1 x2 y2 k l j (ov (me F G 1 j) (me F G 1 (j + 1)) y1 y2) s0 := by
      intro s0 hs
      have e0 : s0 * ov (me F G 1 j) (me F G 1 (j + 1)) y1 y2 = rwS (me F G 0) (G 55 0) (mq G g) x1 x2 j * ov (me F G 1 j) (me F G 1 (j + 1)) y1 y2 := by
        rcases hs with hs | ⟨-, hs⟩
        · rw [hs]
        · rw [hs, Int.mul_zero, Int.mul_zero]
      unfold V_X10_finds_49
      rw [e0]
      refine ⟨by omega, fun y => ?_, fun y => ⟨by omega, fun x24 e24 => ⟨by omega, ih x24 ⟨by omega, by omega, by rw [e24, ss]; omega, by omega⟩⟩⟩⟩
      have hs2 : s0 = rwS (me F G 0) (G 55 0) (mq G g) x1 x2 j := by
        rcases hs with hs | ⟨-, hs⟩
        · exact hs
        · rw [hs, Int.mul_zero] at y
          omega
      have D := dv R0 l1 y
      have hLoc : Loc (rwS (me F G 0) (G 55 0) (mq G g) x1 x2) (fun j => ov (me F G 1 j) (me F G 1 (j + 1)) y1 y2) (G 55 1) k j l := ⟨j0, by omega, el, l1, y⟩
      rw [hs2, tdiv_pos (by omega)]
      generalize hR : rwS (me F G 0) (G 55 0) (mq G g) x1 x2 j = R at *
      obtain ⟨D1, D2, D3, D4, D5, D6, D7, D8, D9⟩ := D
      refine ⟨by omega, by omega, by omega, fun x5 e5 => ?_⟩
      rw [← e5] at D2 D3 D4 D5 D6 D7 D8 D9
      refine ⟨by omega, by omega, fun x8 e8 => ⟨by omega, by omega, ?_⟩⟩
      -- the line is known
      have line : ∀ s : Int, s = max (me F G 1 j) y1 → V_X10_finds_122 d S F G Q g x1 y1 x2 y2 k x8 j (ov (me F G 1 j) (me F G 1 (j + 1)) y1 y2) R x5 s x5 := by
        intro s es
        have mj := me_in hx (a := 1) (i := j) (by omega) (by omega) j0 (by omega)
        unfold V_X10_finds_122
        refine ⟨by omega, fun F2 e2 => ?_⟩
        have k21 : F2 53 1 = F 53 1 := by rw [e2, fu_k (by decide)]
        have k22 : F2 53 2 = F 53 2 := by rw [e2, fu_k (by decide)]
        have hx2 : MX F2 G := mx_cg k21 k22 rfl rfl hx
        have em := fun a => me_cg (F := F) (F' := F2) (G := G) (G' := G) k21 k22 rfl rfl a
        have q0 : ∀ i : Int, 0 ≤ i → i < G 55 0 → 0 ≤ mq G g j i * ov (me F G 0 i) (me F G 0 (i + 1)) x1 x2 := fun i i0 i1 => Int.mul_nonneg (hU j i j0 (by omega) i0 i1) (ov_pos _ _ _ _)
        refine up_ind (α := Int) (G 55 0 - 1) (fun i m => 0 ≤ i ∧ i < G 55 0 ∧ m = x8 - sI (fun i => mq G g j i * ov (me F G 0 i) (me F G 0 (i + 1)) x1 x2) i ∧ 1 ≤ m) (fun i m => Go d MX10_finds 129 [some (vR 53), some (vI g), some (vI x1), some (vI y1), some (vI x2), some (vI y2), some (vJ k), none, some (vJ m), none, some (vI j), some (vI (ov (me F G 1 j) (me F G 1 (j + 1)) y1 y2)), some (vJ R), none, some (vJ x5), none, some (vI i), none, none] [] S F2 G Q) ?_ (fun i m hI hi => absurd hI.2.1 (by omega)) 0 x8 ⟨by omega, by have := (hx 0 (by omega) (by omega)).1; omega, by rw [sI_0 _ (by omega)]; omega, by omega⟩
        rintro i m ⟨i0, i1, em', m1⟩ - ih2
        have mb := hb i j i0 i1 j0 (by omega)
        have mi := mu_in mb (g := g) (by omega) hg2
        have pin := pu_in (d := d - 1) (S := S) (F := F2) (G := G) (by omega) hsm mb (g := g) (by omega) hg2 i0 (by omega) j0 (by omega)
        have ppt := pu_part (d := d - 1) (S := S) (F := F2) (G := G) (by omega) hsm hx2 (a := 0) (i := i) (x := x1) (y := x2) (by omega) (by omega) i0 i1 (by omega) (by omega) (by omega) (by omega)
        have ped := pu_edgeAt (d := d - 1) (S := S) (F := F2) (G := G) (by omega) hsm hx2 (a := 0) (i := i) (by omega) (by omega) i0 (by omega)
        rw [em] at ppt ped
        have ovx := ov_bd hx (a := 0) (i := i) (x := x1) (y := x2) (by omega) (by omega) i0 i1
        have mbd := mul_bd (a := mu G g i j) (b := ov (me F G 0 i) (me F G 0 (i + 1)) x1 x2) (A := 1000000000000) (B := 10000) mi.1 mi.2 ovx.1 ovx.2
        have ei := me_in hx (a := 0) (i := i) (by omega) (by omega) i0 (by omega)
        have spi := sI_pos (f := fun i => mq G g j i * ov (me F G 0 i) (me F G 0 (i + 1)) x1 x2) (n := i) (fun a a0 a1 => q0 a a0 (by omega))
        have ssi := sI_1 (fun i => mq G g j i * ov (me F G 0 i) (me F G 0 (i + 1)) x1 x2) i0
        simp only [mq] at ssi
        refine R_X10_finds_129 hsm ?_
        unfold V_X10_finds_129
        refine ⟨by omega, _, pin, _, ppt, by omega, fun y3 => ?_, fun y3 => ⟨_, pin, _, ppt, by omega, by omega, fun x51 e51 => ⟨by omega, ih2 x51 ⟨by omega, ?_, by rw [e51]; simp only [mq]; rw [ssi]; simp only [mq] at em'; omega, by omega⟩⟩⟩⟩
        · have D' := dv mi.1 m1 y3
          obtain ⟨E1, E2, E3, E4, E5, E6, E7, E8, E9⟩ := D'
          have fin2 : ∀ t : Int, t = max (me F G 0 i) x1 → V_X10_finds_230 d S F2 G Q g x1 y1 x2 y2 k m j (ov (me F G 1 j) (me F G 1 (j + 1)) y1 y2) R x5 i (mu G g i j) t ((m - 1) / mu G g i j) := by
            intro t et
            unfold V_X10_finds_230
            refine ⟨by omega, fun F4 e4 => ?_⟩
            rw [tdiv_pos (by omega), tmod_pos (by omega)]
            refine ⟨by omega, by omega, by omega, by omega, by omega, fun F8 e8' => ?_⟩
            have := hq1 ((m - 1) / mu G g i j + t) (x5 + s) ((m - 1) % mu G g i j + 1) ⟨j, l, i, m, ⟨hLoc, ?_⟩, by rw [hR]; omega, by show _ = max (me F G 0 i) x1 + (m - 1) / mu G g i j; omega, rfl⟩
            · rw [e8', e4, e2]; exact this
            · rw [hR, ← e5, ← e8]
              exact ⟨i0, i1, em', m1, y3⟩
          refine ⟨_, pin, ?_⟩
          rw [tdiv_pos (by omega)]
          exact ⟨by omega, by omega, by omega, by omega, _, ped, fun u => fin2 _ (by omega), fun u => ⟨_, ped, fin2 _ (by omega)⟩⟩
        · by_cases c : i + 1 < G 55 0
          · exact c
          · have ec : i + 1 = G 55 0 := by omega
            have tt : sI (fun i => mu G g i j * ov (me F G 0 i) (me F G 0 (i + 1)) x1 x2) (i + 1) = R := by
              rw [ec, ← hR]; rfl
            simp only [mq] at em'
            omega
      have ped1 := pu_edgeAt (d := d - 1) (S := S) (F := F) (G := G) (by omega) hsm hx (a := 1) (i := j) (by omega) (by omega) j0 (by omega)
      exact ⟨_, ped1, fun u => line _ (by omega), fun u => ⟨_, ped1, line _ (by omega)⟩⟩
    refine R_X10_finds_7 hsm ?_
    unfold V_X10_finds_7
    refine ⟨fun y => absurd y (by omega), fun _ => ⟨by omega, _, pu_part (by omega) hsm hx (by omega) (by omega) j0 (by omega) (by omega) (by omega) (by omega) (by omega), fun y => ⟨_, pu_acrossSum (by omega) hsm hx hb (by omega) hg2 j0 (by omega) (by omega) (by omega) (by omega) (by omega), fin _ (Or.inl rowe)⟩, fun y => fin 0 (Or.inr ⟨rfl, y⟩)⟩⟩
  · rintro j l ⟨j0, j1, el, l1⟩ hj
    have ej : j = G 55 1 := by omega
    refine R_X10_finds_7 hsm ?_
    unfold V_X10_finds_7
    refine ⟨fun _ => hq0 ?_, fun y => absurd y (by omega)⟩
    rw [← ej]
    omega
theorem ov_full {e : Int → Int} {n w i : Int} (s : Sq e n w) (i0 : 0 ≤ i) (i1 : i < n) : ov (e i) (e (i + 1)) 0 (w - 1) = e (i + 1) - e i := by
  have a := rise_le s.2.2.2 (i := 0) (j := i) (by omega) i0 (by omega)
  have b := rise_le s.2.2.2 (i := i + 1) (j := n) (by omega) (by omega) (by omega)
  have c := s.2.2.2 i i0 i1
  rw [s.2.1] at a
  rw [s.2.2.1] at b
  unfold ov
  rw [if_neg (by omega)]
  omega
theorem ok_findsDown {d : Nat} {S : AS} {F : AF} {G : AG} (hd : 4 ≤ d) (hsm : ShM S) (hx : MX F G) (hb : MBA G) {g k : Int} (hg : 0 ≤ g) (hg2 : g ≤ 2) (hT : tot (me F G 0) (me F G 1) (G 55 0) (G 55 1) (mu G g) 0 (F 53 1 - 1) 0 (F 53 2 - 1) ≤ 3000000000000000000) (k1 : 1 ≤ k) (k2 : k ≤ 3000000000000000000) {Q : AQ} (hq1 : ∀ x y r : Int, FdC (me F G 0) (me F G 1) (G 55 0) (G 55 1) (mu G g) 0 (F 53 1 - 1) 0 (F 53 2 - 1) k x y r → Q (some (vI 1)) S (fu (fu F 53 21 x) 53 22 y) G) (hq0 : tot (me F G 0) (me F G 1) (G 55 0) (G 55 1) (mu G g) 0 (F 53 1 - 1) 0 (F 53 2 - 1) < k → Q (some (vI 0)) S F G) : Ok d MX10_findsDown [vR 53, vI g, vJ k] S F G Q := by
  have w1 := (hx 0 (by omega) (by omega)).2.2.2.1
  have w2 := (hx 1 (by omega) (by omega)).2.2.2.1
  have w3 := (hx 0 (by omega) (by omega)).2.2.1
  have w4 := (hx 1 (by omega) (by omega)).2.2.1
  have n1 := (hx 0 (by omega) (by omega)).2.1
  have n2 := (hx 1 (by omega) (by omega)).2.1
  have n3 := (hx 0 (by omega) (by omega)).1
  rw [msz_0] at w1 w3
  rw [msz_1] at w2 w4
  have hU := mu_pos hb (g := g) (by omega) hg2
  unfold tot at hT hq0
  have pos : ∀ j : Int, 0 ≤ j → j < G 55 0 → 0 ≤ rwS (me F G 1) (G 55 1) (mu G g) 0 (F 53 2 - 1) j * ov (me F G 0 j) (me F G 0 (j + 1)) 0 (F 53 1 - 1) := fun j j0 j1 => Int.mul_nonneg (rwS_pos hU _ _ _ j0 j1) (ov_pos _ _ _ _)
  refine ok_go rfl (by decide) (Nat.le_of_ble_eq_true rfl) (R_X10_findsDown_0 hsm ?_)
  unfold V_X10_findsDown_0
  refine up_ind (α := Int) (G 55 0 - 1) (fun j l => 0 ≤ j ∧ j ≤ G 55 0 ∧ l = k - sI (fun j => rwS (me F G 1) (G 55 1) (mu G g) 0 (F 53 2 - 1) j * ov (me F G 0 j) (me F G 0 (j + 1)) 0 (F 53 1 - 1)) j ∧ 1 ≤ l) (fun j l => Go d MX10_findsDown 6 [some (vR 53), some (vI g), some (vJ k), none, some (vJ l), none, some (vI j), none, none, none, none, none, none, none] [] S F G Q) ?_ ?_ 0 k ⟨by omega, by omega, by rw [sI_0 _ (by omega)]; omega, k1⟩
  · rintro j l ⟨j0, j1, el, l1⟩ hj ih
    have sle := sI_at (f := fun j => rwS (me F G 1) (G 55 1) (mu G g) 0 (F 53 2 - 1) j * ov (me F G 0 j) (me F G 0 (j + 1)) 0 (F 53 1 - 1)) (n := G 55 0) (j := j) j0 (by omega) pos
    have pj := pos j j0 (by omega)
    have sp := sI_pos (f := fun j => rwS (me F G 1) (G 55 1) (mu G g) 0 (F 53 2 - 1) j * ov (me F G 0 j) (me F G 0 (j + 1)) 0 (F 53 1 - 1)) (n := j) (fun i i0 i1 => pos i i0 (by omega))
    have ss := sI_1 (fun j => rwS (me F G 1) (G 55 1) (mu G g) 0 (F 53 2 - 1) j * ov (me F G 0 j) (me F G 0 (j + 1)) 0 (F 53 1 - 1)) j0
    have R0 := rwS_pos hU (me F G 1) 0 (F 53 2 - 1) j0 (by omega : j < G 55 0)
    have ovb := ov_bd hx (a := 0) (i := j) (x := 0) (y := F 53 1 - 1) (by omega) (by omega) j0 (by omega)
    have cole : colM F G g j 0 (F 53 2 - 1) = rwS (me F G 1) (G 55 1) (mu G g) 0 (F 53 2 - 1) j := rfl
    have fj := ov_full (sq_x hx) j0 (by omega)
    have mj := me_in hx (a := 0) (i := j) (by omega) (by omega) j0 (by omega)
    have pds := pu_downSum (d := d - 1) (S := S) (F := F) (G := G) (by omega) hsm hx hb (g := g) (x := 0) (y := F 53 2 - 1) (by omega) hg2 j0 (by omega) (by omega) (by omega) (by omega) (by omega)
    have pac := pu_acrossOf (d := d - 1) (S := S) (F := F) (G := G) (by omega) hsm hx j0 (by omega)
    rw [cole] at pds
    rw [← fj] at pac
    refine R_X10_findsDown_6 hsm ?_
    unfold V_X10_findsDown_6
    refine ⟨fun y => absurd y (by omega), fun _ => ⟨by omega, by omega, _, pds, _, pac, by omega, fun y => ?_, fun y => ⟨_, pac, by omega, by omega, fun x24 e24 => ⟨by omega, ih x24 ⟨by omega, by omega, by rw [e24, ss]; omega, by omega⟩⟩⟩⟩⟩
    have D := dv R0 l1 y
    have hLoc : Loc (rwS (me F G 1) (G 55 1) (mu G g) 0 (F 53 2 - 1)) (fun j => ov (me F G 0 j) (me F G 0 (j + 1)) 0 (F 53 1 - 1)) (G 55 0) k j l := ⟨j0, by omega, el, l1, y⟩
    rw [tdiv_pos (by omega)]
    generalize hR : rwS (me F G 1) (G 55 1) (mu G g) 0 (F 53 2 - 1) j = R at *
    obtain ⟨D1, D2, D3, D4, D5, D6, D7, D8, D9⟩ := D
    refine ⟨by omega, by omega, by omega, fun x5 e5 => ?_⟩
    rw [← e5] at D2 D3 D4 D5 D6 D7 D8 D9
    refine ⟨by omega, by omega, fun x8 e8 => ⟨by omega, _, pu_edgeAt (by omega) hsm hx (by omega) (by omega) j0 (by omega), by omega, fun F2 e2 => ?_⟩⟩
    have k21 : F2 53 1 = F 53 1 := by rw [e2, fu_k (by decide)]
    have k22 : F2 53 2 = F 53 2 := by rw [e2, fu_k (by decide)]
    have hx2 : MX F2 G := mx_cg k21 k22 rfl rfl hx
    have em := fun a => me_cg (F := F) (F' := F2) (G := G) (G' := G) k21 k22 rfl rfl a
    have q0 : ∀ i : Int, 0 ≤ i → i < G 55 1 → 0 ≤ mu G g j i * ov (me F G 1 i) (me F G 1 (i + 1)) 0 (F 53 2 - 1) := fun i i0 i1 => Int.mul_nonneg (hU j i j0 (by omega) i0 i1) (ov_pos _ _ _ _)
    refine up_ind (α := Int) (G 55 1 - 1) (fun i m => 0 ≤ i ∧ i < G 55 1 ∧ m = x8 - sI (fun i => mu G g j i * ov (me F G 1 i) (me F G 1 (i + 1)) 0 (F 53 2 - 1)) i ∧ 1 ≤ m) (fun i m => Go d MX10_findsDown 104 [some (vR 53), some (vI g), some (vJ k), none, some (vJ m), none, some (vI j), some (vJ R), none, some (vJ x5), none, some (vI i), none, none] [] S F2 G Q) ?_ (fun i m hI hi => absurd hI.2.1 (by omega)) 0 x8 ⟨by omega, by have := (hx 1 (by omega) (by omega)).1; omega, by rw [sI_0 _ (by omega)]; omega, by omega⟩
    rintro i m ⟨i0, i1, em', m1⟩ - ih2
    have mb := hb j i j0 (by omega) i0 i1
    have mi := mu_in mb (g := g) (by omega) hg2
    have pin := pu_in (d := d - 1) (S := S) (F := F2) (G := G) (by omega) hsm mb (g := g) (by omega) hg2 j0 (by omega) i0 (by omega)
    have fi := ov_full (sq_y hx) i0 i1
    have pdn := pu_downOf (d := d - 1) (S := S) (F := F2) (G := G) (by omega) hsm hx2 i0 i1
    have ped := pu_edgeAt (d := d - 1) (S := S) (F := F2) (G := G) (by omega) hsm hx2 (a := 1) (i := i) (by omega) (by omega) i0 (by omega)
    rw [em] at pdn ped
    rw [← fi] at pdn
    have ovx := ov_bd hx (a := 1) (i := i) (x := 0) (y := F 53 2 - 1) (by omega) (by omega) i0 i1
    have mbd := mul_bd (a := mu G g j i) (b := ov (me F G 1 i) (me F G 1 (i + 1)) 0 (F 53 2 - 1)) (A := 1000000000000) (B := 10000) mi.1 mi.2 ovx.1 ovx.2
    have ei := me_in hx (a := 1) (i := i) (by omega) (by omega) i0 (by omega)
    have spi := sI_pos (f := fun i => mu G g j i * ov (me F G 1 i) (me F G 1 (i + 1)) 0 (F 53 2 - 1)) (n := i) (fun a a0 a1 => q0 a a0 (by omega))
    have ssi := sI_1 (fun i => mu G g j i * ov (me F G 1 i) (me F G 1 (i + 1)) 0 (F 53 2 - 1)) i0
    refine R_X10_findsDown_104 hsm ?_
    unfold V_X10_findsDown_104
    refine ⟨by omega, _, pin, _, pdn, by omega, fun y3 => ?_, fun y3 => ⟨_, pin, _, pdn, by omega, by omega, fun x51 e51 => ⟨by omega, ih2 x51 ⟨by omega, ?_, by rw [e51, ssi]; omega, by omega⟩⟩⟩⟩
    · have D' := dv mi.1 m1 y3
      obtain ⟨E1, E2, E3, E4, E5, E6, E7, E8, E9⟩ := D'
      refine ⟨_, pin, ?_⟩
      rw [tdiv_pos (by omega)]
      refine ⟨by omega, by omega, by omega, by omega, _, ped, by omega, fun F32 e32 => ?_⟩
      have := hq1 (x5 + me F G 0 j) ((m - 1) / mu G g j i + me F G 1 i) ((m - 1) % mu G g j i + 1) ⟨j, l, i, m, ⟨hLoc, ?_⟩, by rw [hR]; omega, by omega, rfl⟩
      · rw [e32, e2]; exact this
      · rw [hR, ← e5, ← e8]
        exact ⟨i0, i1, em', m1, y3⟩
    · by_cases c : i + 1 < G 55 1
      · exact c
      · have ec : i + 1 = G 55 1 := by omega
        have tt : sI (fun i => mu G g j i * ov (me F G 1 i) (me F G 1 (i + 1)) 0 (F 53 2 - 1)) (i + 1) = R := by
          rw [ec, ← hR]; rfl
        omega
  · rintro j l ⟨j0, j1, el, l1⟩ hj
    have ej : j = G 55 0 := by omega
    refine R_X10_findsDown_6 hsm ?_
    unfold V_X10_findsDown_6
    refine ⟨fun _ => hq0 ?_, fun y => absurd y (by omega)⟩
    rw [← ej]
    omega
