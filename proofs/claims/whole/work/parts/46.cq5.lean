/-! CELLS THAT HAVE SO MANY OR MORE -/
def atl (u : Int → Int → Int) (t : Int) : Int → Int → Int := fun i j => if u i j < t then 0 else 1
def ccells (F : AF) (G : AG) (p : Nat) (g t x1 y1 x2 y2 : Int) : Int := pS (G 5) (G 12) (F 4 1) (F 11 1) (atl (cu G p g) t) x1 y1 x2 y2
theorem atl_in (u : Int → Int → Int) (t i j : Int) : 0 ≤ atl u t i j ∧ atl u t i j ≤ 1 := by
  simp only [atl]
  split <;> omega
theorem pu_ccellsFrom {d : Nat} {S : AS} {F : AF} {G : AG} (hd : 1 ≤ d) (hsh : ShC S) (hc : CC F G) {re : Nat} (hk : AtRect S re) (hb : PBA F G 18) {g : Int} (hg : -1 ≤ g) (hg2 : g ≤ 2) (hr : RG1 F re) (t : Int) : Pu d MX2_cellsFrom [vR 2, vI g, vR re, vJ t] S F G (some (vJ (ccells F G 18 g t (F re 0) (F re 1) (F re 2) (F re 3)))) := by
  obtain ⟨r1, r2, r3, r4, r5, r6⟩ := hr
  have hx := hc.1
  have hy := hc.2.1
  have hx4 : CO F G 4 104 := ⟨hx.1, by have := hx.2.1; omega, hx.2.2⟩
  have hy4 : CO F G 11 104 := ⟨hy.1, by have := hy.2.1; omega, hy.2.2⟩
  obtain ⟨c1, c2, c3, c4, c5, c6, c7⟩ := id hx
  obtain ⟨b1, b2, b3, b4, b5, b6, b7⟩ := id hy
  have p1 := cb_spec hx4 (p := F re 0) r1
  have p2 := cb_spec hx4 (p := F re 2) (by omega)
  have p3 := cb_spec hy4 (p := F re 1) r4
  have p4 := cb_spec hy4 (p := F re 3) (by omega)
  have p1' := p1.2.2.2 (by omega)
  have p2' := p2.2.2.2 (by omega)
  have p3' := p3.2.2.2 (by omega)
  have p4' := p4.2.2.2 (by omega)
  have m1 := cb_mono hx4 r1 r2 r3
  have m2 := cb_mono hy4 r4 r5 r6
  generalize hV : ccells F G 18 g t (F re 0) (F re 1) (F re 2) (F re 3) = V
  have zx1 : ∀ j i : Int, 0 ≤ i → i < cb F G 4 (F re 0) → pX (G 5) (fun i => atl (cu G 18 g) t i j) (F re 0) (F re 2) i = 0 := by
    intro j i i0 i1
    have := ov_lo c7 (x := F re 0) (y := F re 2) i0 i1 (by omega) p1.2.2.1
    simp only [pX]
    rw [this, Int.mul_zero]
  have zx2 : ∀ j i : Int, cb F G 4 (F re 2) + 1 ≤ i → i < F 4 1 → pX (G 5) (fun i => atl (cu G 18 g) t i j) (F re 0) (F re 2) i = 0 := by
    intro j i i0 i1
    have := ov_hi c7 (x := F re 0) (b := cb F G 4 (F re 2)) p2.1 (show cb F G 4 (F re 2) < i by omega) (by omega) p2'
    simp only [pX]
    rw [this, Int.mul_zero]
  have bx : ∀ j i : Int, 0 ≤ i → i < F 4 1 → 0 ≤ pX (G 5) (fun i => atl (cu G 18 g) t i j) (F re 0) (F re 2) i ∧ pX (G 5) (fun i => atl (cu G 18 g) t i j) (F re 0) (F re 2) i ≤ 10000 := by
    intro j i i0 i1
    have u := atl_in (cu G 18 g) t i j
    have k1 := co_in hx (i := i) i0 (by omega)
    have k2 := co_in hx (i := i + 1) (by omega) (by omega)
    have k3 := c7 i i0 i1
    have k4 := ov_le (lo := G (4 + 1) i) (hi := G (4 + 1) (i + 1)) (a := F re 0) (b := F re 2) (Int.le_of_lt k3)
    have := mul_bd (a := atl (cu G 18 g) t i j) (b := ov (G (4 + 1) i) (G (4 + 1) (i + 1)) (F re 0) (F re 2)) (A := 1) (B := 10000) u.1 u.2 (ov_pos _ _ _ _) (by omega)
    exact this
  have zy1 : ∀ j : Int, 0 ≤ j → j < cb F G 11 (F re 1) → pY (G 5) (G 12) (F 4 1) (atl (cu G 18 g) t) (F re 0) (F re 1) (F re 2) (F re 3) j = 0 := by
    intro j j0 j1
    have := ov_lo b7 (x := F re 1) (y := F re 3) j0 j1 (by omega) p3.2.2.1
    simp only [pY]
    rw [this, Int.mul_zero]
  have zy2 : ∀ j : Int, cb F G 11 (F re 3) + 1 ≤ j → j < F 11 1 → pY (G 5) (G 12) (F 4 1) (atl (cu G 18 g) t) (F re 0) (F re 1) (F re 2) (F re 3) j = 0 := by
    intro j j0 j1
    have := ov_hi b7 (x := F re 1) (b := cb F G 11 (F re 3)) p4.1 (show cb F G 11 (F re 3) < j by omega) (by omega) p4'
    simp only [pY]
    rw [this, Int.mul_zero]
  have hVe : V = sI (pY (G 5) (G 12) (F 4 1) (atl (cu G 18 g) t) (F re 0) (F re 1) (F re 2) (F re 3)) (cb F G 11 (F re 3) + 1) := by
    rw [← hV]
    exact sI_end (by omega) (by omega) zy2
  have inner : ∀ (j acc : Int), cb F G 11 (F re 1) ≤ j → j ≤ cb F G 11 (F re 3) → 0 ≤ acc → acc ≤ j * 4800000000 →
      (∀ x : Int, x = acc + pY (G 5) (G 12) (F 4 1) (atl (cu G 18 g) t) (F re 0) (F re 1) (F re 2) (F re 3) j → 0 ≤ x → x ≤ (j + 1) * 4800000000 → Go d MX2_cellsFrom 67 [some (vR 2), some (vI g), some (vR re), some (vJ t), none, some (vJ x), none, some (vI (cb F G 4 (F re 0))), some (vI (cb F G 4 (F re 2))), some (vI (cb F G 11 (F re 3))), some (vI (j + 1)), none, none, none] [] S F G (fun r' S' F' G' => r' = some (vJ V) ∧ S' = S ∧ F' = F ∧ G' = G)) →
      ∀ (k : Nat) (i r : Int), (cb F G 4 (F re 2) + 1 - i).toNat ≤ k → cb F G 4 (F re 0) ≤ i → i ≤ cb F G 4 (F re 2) + 1 → r = sI (pX (G 5) (fun i => atl (cu G 18 g) t i j) (F re 0) (F re 2)) i → 0 ≤ r → r ≤ i * 10000 → Go d MX2_cellsFrom 81 [some (vR 2), some (vI g), some (vR re), some (vJ t), none, some (vJ acc), none, some (vI (cb F G 4 (F re 0))), some (vI (cb F G 4 (F re 2))), some (vI (cb F G 11 (F re 3))), some (vI j), some (vJ r), none, some (vI i)] [] S F G (fun r' S' F' G' => r' = some (vJ V) ∧ S' = S ∧ F' = F ∧ G' = G) := by
    intro j acc j0 j1 ha hb9 cont k
    have jm := ov_mid b7 (i := j) (b := cb F G 11 (F re 1)) (b2 := cb F G 11 (F re 3)) p3.1 j0 j1 p4.2.1 p3' p4.2.2.1 r5
    have k1 := co_in hy (i := j) (by omega) (by omega)
    have k2 := co_in hy (i := j + 1) (by omega) (by omega)
    have k3 := b7 j (by omega) (by omega)
    have k4 := ov_le (lo := G (11 + 1) j) (hi := G (11 + 1) (j + 1)) (a := F re 1) (b := F re 3) (Int.le_of_lt k3)
    have fin : ∀ (i r : Int), cb F G 4 (F re 2) + 1 = i → r = sI (pX (G 5) (fun i => atl (cu G 18 g) t i j) (F re 0) (F re 2)) i → pY (G 5) (G 12) (F 4 1) (atl (cu G 18 g) t) (F re 0) (F re 1) (F re 2) (F re 3) j = r * (min (G (11 + 1) (j + 1)) (F re 3 + 1) - max (G (11 + 1) j) (F re 1)) := by
      intro i r ei er
      rw [jm.1]
      simp only [pY, pR]
      rw [sI_end (m := cb F G 4 (F re 2) + 1) (by omega) (by omega) (zx2 j), er, ← ei]
    have done : ∀ (i r : Int), cb F G 4 (F re 2) + 1 = i → r = sI (pX (G 5) (fun i => atl (cu G 18 g) t i j) (F re 0) (F re 2)) i → 0 ≤ r → r ≤ i * 10000 → (1 ≤ d) ∧ ∃ z6 : Int, Pu (d - 1) MX1_overlap [vR 11, vI j, vI (F re 1), vI (F re 3)] S F G (some (vI z6)) ∧ (r64 (r * z6)) ∧ (r64 (acc + (r * z6))) ∧ ∀ x10 : Int, x10 = acc + (r * z6) → (r32 (j + 1)) ∧ Go d MX2_cellsFrom 67 [some (vR 2), some (vI g), some (vR re), some (vJ t), none, some (vJ x10), none, some (vI (cb F G 4 (F re 0))), some (vI (cb F G 4 (F re 2))), some (vI (cb F G 11 (F re 3))), some (vI (j + 1)), none, none, none] [] S F G (fun r' S' F' G' => r' = some (vJ V) ∧ S' = S ∧ F' = F ∧ G' = G) := by
      intro i r ei er r0 r1'
      have fe := fin i r ei er
      have mb9 := mul_bd (a := r) (b := min (G (11 + 1) (j + 1)) (F re 3 + 1) - max (G (11 + 1) j) (F re 1)) (A := 480000) (B := 10000) r0 (by omega) (by omega) (by omega)
      exact ⟨hd, _, pu_overlap (at_11 hsh) hy4 (by omega) (by omega) (by omega) (by omega) (by omega) (by omega), by omega, by omega, fun x ex => ⟨by omega, cont x (by omega) (by omega) (by omega)⟩⟩
    induction k with
    | zero =>
      intro i r q1 q2 q3 er r0 r1'
      refine R_X2_cellsFrom_81 hsh hk ?_
      unfold V_X2_cellsFrom_81
      exact ⟨fun _ => done i r (by omega) er r0 r1', fun z => absurd z (by omega)⟩
    | succ k ih =>
      intro i r q1 q2 q3 er r0 r1'
      refine R_X2_cellsFrom_81 hsh hk ?_
      unfold V_X2_cellsFrom_81
      refine ⟨fun z => done i r (by omega) er r0 r1', fun z => ?_⟩
      have im := ov_mid c7 (i := i) (b := cb F G 4 (F re 0)) (b2 := cb F G 4 (F re 2)) p1.1 q2 (by omega) p2.2.1 p1' p2.2.2.1 r2
      have b9 := bx j i (by omega) (by omega)
      have next : ∀ v : Int, v = r + pX (G 5) (fun i => atl (cu G 18 g) t i j) (F re 0) (F re 2) i → V_X2_cellsFrom_132 d S F G (fun r' S' F' G' => r' = some (vJ V) ∧ S' = S ∧ F' = F ∧ G' = G) g re t acc (cb F G 4 (F re 0)) (cb F G 4 (F re 2)) (cb F G 11 (F re 3)) j v i := by
        intro v ev
        unfold V_X2_cellsFrom_132
        refine ⟨by omega, ih (i + 1) v (by omega) (by omega) (by omega) ?_ (by omega) (by omega)⟩
        rw [sI_1 _ (by omega), ev, er]
      refine ⟨by omega, by omega, hd, _, pu_unitsAt hsh (hb i j (by omega) (by omega) (by omega) (by omega)) hg hg2 (by omega) (by omega) (by omega) (by omega) rfl, fun w => ?_, fun w => ?_⟩
      · refine next r ?_
        simp only [pX, atl]
        rw [if_pos w, Int.zero_mul, Int.add_zero]
      · have e9 : pX (G 5) (fun i => atl (cu G 18 g) t i j) (F re 0) (F re 2) i = min (G (4 + 1) (i + 1)) (F re 2 + 1) - max (G (4 + 1) i) (F re 0) := by
          rw [im.1]
          simp only [pX, atl]
          rw [if_neg w, Int.one_mul]
        refine ⟨_, pu_overlap (at_4 hsh) hx4 (by omega) (by omega) (by omega) (by omega) (by omega) (by omega), by omega, fun x ex => next x ?_⟩
        rw [ex, e9]
  have outer : ∀ (k : Nat) (j acc : Int), (cb F G 11 (F re 3) + 1 - j).toNat ≤ k → cb F G 11 (F re 1) ≤ j → j ≤ cb F G 11 (F re 3) + 1 → acc = sI (pY (G 5) (G 12) (F 4 1) (atl (cu G 18 g) t) (F re 0) (F re 1) (F re 2) (F re 3)) j → 0 ≤ acc → acc ≤ j * 4800000000 → Go d MX2_cellsFrom 67 [some (vR 2), some (vI g), some (vR re), some (vJ t), none, some (vJ acc), none, some (vI (cb F G 4 (F re 0))), some (vI (cb F G 4 (F re 2))), some (vI (cb F G 11 (F re 3))), some (vI j), none, none, none] [] S F G (fun r' S' F' G' => r' = some (vJ V) ∧ S' = S ∧ F' = F ∧ G' = G) := by
    intro k
    induction k with
    | zero =>
      intro j acc k1 k2 k3 ea a0 a1
      refine R_X2_cellsFrom_67 hsh hk ?_
      unfold V_X2_cellsFrom_67
      have ej : j = cb F G 11 (F re 3) + 1 := by omega
      exact ⟨fun _ => ⟨by rw [ea, ej, ← hVe], rfl, rfl, rfl⟩, fun z => absurd z (by omega)⟩
    | succ k ih =>
      intro j acc k1 k2 k3 ea a0 a1
      refine R_X2_cellsFrom_67 hsh hk ?_
      unfold V_X2_cellsFrom_67
      refine ⟨fun z => ?_, fun z => ?_⟩
      · have ej : j = cb F G 11 (F re 3) + 1 := by omega
        exact ⟨by rw [ea, ej, ← hVe], rfl, rfl, rfl⟩
      · refine inner j acc k2 (by omega) a0 a1 (fun x ex x0 x1 => ih (j + 1) x (by omega) (by omega) (by omega) ?_ x0 x1) _ _ 0 (Nat.le_refl _) (Int.le_refl _) (by omega) ?_ (by omega) (by omega)
        · rw [sI_1 _ (by omega), ex, ea]
        · rw [sI_beg (zx1 j)]
  refine ok_go rfl (by decide) (Nat.le_of_ble_eq_true rfl) (R_X2_cellsFrom_0 hsh hk ?_)
  unfold V_X2_cellsFrom_0
  exact ⟨hd, _, pu_bandOf (at_4 hsh) hx4 r1, _, pu_bandOf (at_4 hsh) hx4 (by omega), _, pu_bandOf (at_11 hsh) hy4 (by omega), _, pu_bandOf (at_11 hsh) hy4 r4, outer _ _ 0 (Nat.le_refl _) (Int.le_refl _) (by omega) (by rw [sI_beg zy1]) (by omega) (by omega)⟩
