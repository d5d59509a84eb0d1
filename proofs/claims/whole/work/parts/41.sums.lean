/-! SUMS over bands from one to another are sums over all -/
theorem ov_lo {e : Int → Int} {n : Int} (hr : Rise e n) {i b x y : Int} (hi : 0 ≤ i) (hib : i < b) (hb : b ≤ n) (hx : e b ≤ x) : ov (e i) (e (i + 1)) x y = 0 := by
  have := rise_le hr (i := i + 1) (j := b) (by omega) (by omega) hb
  simp only [ov]
  rw [if_pos (by omega)]
theorem ov_hi {e : Int → Int} {n : Int} (hr : Rise e n) {i b x y : Int} (hb0 : 0 ≤ b) (hib : b < i) (hi : i ≤ n) (hy : y < e (b + 1)) : ov (e i) (e (i + 1)) x y = 0 := by
  have := rise_le hr (i := b + 1) (j := i) (by omega) (by omega) hi
  simp only [ov]
  rw [if_pos (by omega)]
theorem ov_mid {e : Int → Int} {n : Int} (hr : Rise e n) {i b b2 x y : Int} (hb : 0 ≤ b) (hbi : b ≤ i) (hib : i ≤ b2) (hb2 : b2 < n) (hx : x < e (b + 1)) (hy : e b2 ≤ y) (hxy : x ≤ y) : min (e (i + 1)) (y + 1) - max (e i) x = ov (e i) (e (i + 1)) x y ∧ 0 < ov (e i) (e (i + 1)) x y := by
  have a1 := rise_le hr (i := b + 1) (j := i + 1) (by omega) (by omega) (by omega)
  have a2 := rise_le hr (i := i) (j := b2) (by omega) (by omega) (by omega)
  have a3 := hr i (by omega) (by omega)
  simp only [ov]
  rw [if_neg (by omega)]
  omega
/-- behind the last that counts nothing comes -/
theorem sI_end {f : Int → Int} {n m : Int} (h0 : 0 ≤ m) (hm : m ≤ n) (h : ∀ i : Int, m ≤ i → i < n → f i = 0) : sI f n = sI f m := by
  obtain ⟨k, hk⟩ : ∃ k : Nat, n = m + k := ⟨(n - m).toNat, by omega⟩
  subst hk
  clear hm
  induction k with
  | zero => simp
  | succ k ih =>
    have e : m + ((k + 1 : Nat) : Int) = m + k + 1 := by omega
    rw [e, sI_1 f (by omega), ih (fun i a b => h i a (by omega)), h (m + k) (by omega) (by omega), Int.add_zero]
theorem sI_beg {f : Int → Int} {b : Int} (h : ∀ i : Int, 0 ≤ i → i < b → f i = 0) : sI f b = 0 := by
  rw [sI_congr (g := fun _ => 0) h, sI_z]
/-- the sum of a plane over a rectangle -/
def pX (e : Int → Int) (u : Int → Int) (x1 x2 : Int) : Int → Int := fun i => u i * ov (e i) (e (i + 1)) x1 x2
def pR (e : Int → Int) (n : Int) (u : Int → Int → Int) (x1 x2 : Int) (j : Int) : Int := sI (pX e (fun i => u i j) x1 x2) n
def pY (e e1 : Int → Int) (n : Int) (u : Int → Int → Int) (x1 y1 x2 y2 : Int) : Int → Int := fun j => pR e n u x1 x2 j * ov (e1 j) (e1 (j + 1)) y1 y2
def pS (e e1 : Int → Int) (n n1 : Int) (u : Int → Int → Int) (x1 y1 x2 y2 : Int) : Int := sI (pY e e1 n u x1 y1 x2 y2) n1
theorem pu_sumBy {d : Nat} {S : AS} {F : AF} {G : AG} (hsh : ShC S) {xs ys pl re : Nat} {off : Int} (hd : 1 ≤ d) (hk1 : AtCuts S xs) (hk2 : AtCuts S ys) (hk3 : AtJ S pl) (hk5 : AtRect S re) (hx : CO F G xs 48) (hy : CO F G ys 48) (ho : 0 ≤ off) (hol : off + 2304 ≤ (sN S pl : Int))
    (hol2 : off ≤ 100000) (hu : ∀ i j : Int, 0 ≤ i → i < F xs 1 → 0 ≤ j → j < F ys 1 → 0 ≤ G pl (off + 48 * j + i) ∧ G pl (off + 48 * j + i) ≤ 1000000000000)
    (hr1 : 0 ≤ F re 0) (hr2 : F re 2 < F xs 2) (hr3 : 0 ≤ F re 1) (hr4 : F re 3 < F ys 2) (hr5 : F re 0 ≤ 100000) (hr6 : F re 1 ≤ 100000) (hr7 : -100000 ≤ F re 2) (hr8 : -100000 ≤ F re 3)
    (hT : pS (G (xs + 1)) (G (ys + 1)) (F xs 1) (F ys 1) (fun i j => G pl (off + 48 * j + i)) (F re 0) (F re 1) (F re 2) (F re 3) ≤ 9000000000000000000) :
    Pu d MX2_sumBy [vR 2, vR xs, vR ys, vR pl, vI off, vR re] S F G (some (vJ (pS (G (xs + 1)) (G (ys + 1)) (F xs 1) (F ys 1) (fun i j => G pl (off + 48 * j + i)) (F re 0) (F re 1) (F re 2) (F re 3)))) := by
  have hx4 : CO F G xs 104 := ⟨hx.1, by have := hx.2.1; omega, hx.2.2⟩
  have hy4 : CO F G ys 104 := ⟨hy.1, by have := hy.2.1; omega, hy.2.2⟩
  obtain ⟨c1, c2, c3, c4, c5, c6, c7⟩ := id hx
  obtain ⟨b1, b2, b3, b4, b5, b6, b7⟩ := id hy
  generalize hV : pS (G (xs + 1)) (G (ys + 1)) (F xs 1) (F ys 1) (fun i j => G pl (off + 48 * j + i)) (F re 0) (F re 1) (F re 2) (F re 3) = V at hT ⊢
  have zeroX : F re 2 < F re 0 → V = 0 := by
    intro q
    rw [← hV]
    simp only [pS]
    rw [sI_congr (g := fun _ => 0), sI_z]
    intro j _ _
    simp only [pY, pR]
    rw [sI_congr (g := fun _ => 0), sI_z, Int.zero_mul]
    intro i _ _
    simp only [pX, ov]
    rw [if_pos (by omega), Int.mul_zero]
  have zeroY : F re 3 < F re 1 → V = 0 := by
    intro q
    rw [← hV]
    simp only [pS]
    rw [sI_congr (g := fun _ => 0), sI_z]
    intro j _ _
    simp only [pY, ov]
    rw [if_pos (by omega), Int.mul_zero]
  refine ok_go rfl (by decide) (Nat.le_of_ble_eq_true rfl) (R_X2_sumBy_0 hsh hk1 hk2 hk3 hk5 ?_)
  unfold V_X2_sumBy_0
  refine ⟨fun q => ⟨by rw [zeroX q], rfl, rfl, rfl⟩, fun q => ⟨fun q2 => ?_, fun q2 => ⟨by rw [zeroY (by omega)], rfl, rfl, rfl⟩⟩⟩
  have p1 := cb_spec hx4 (p := F re 0) hr1
  have p2 := cb_spec hx4 (p := F re 2) (by omega)
  have p3 := cb_spec hy4 (p := F re 1) hr3
  have p4 := cb_spec hy4 (p := F re 3) (by omega)
  have p1' := p1.2.2.2 (by omega)
  have p2' := p2.2.2.2 (by omega)
  have p3' := p3.2.2.2 (by omega)
  have p4' := p4.2.2.2 (by omega)
  refine ⟨hd, _, pu_bandOf hk1 hx4 hr1, _, pu_bandOf hk1 hx4 (by omega), _, pu_bandOf hk2 hy4 (by omega), _, pu_bandOf hk2 hy4 hr3, ?_⟩
  -- what the sums are made of
  have zx1 : ∀ j i : Int, 0 ≤ i → i < cb F G xs (F re 0) → pX (G (xs + 1)) (fun i => G pl (off + 48 * j + i)) (F re 0) (F re 2) i = 0 := by
    intro j i i0 i1
    simp only [pX]
    rw [ov_lo c7 i0 i1 (by omega) p1.2.2.1, Int.mul_zero]
  have zx2 : ∀ j i : Int, cb F G xs (F re 2) + 1 ≤ i → i < F xs 1 → pX (G (xs + 1)) (fun i => G pl (off + 48 * j + i)) (F re 0) (F re 2) i = 0 := by
    intro j i i0 i1
    simp only [pX]
    rw [ov_hi c7 (b := cb F G xs (F re 2)) p2.1 (by omega) (by omega) p2', Int.mul_zero]
  have bx : ∀ j i : Int, 0 ≤ j → j < F ys 1 → 0 ≤ i → i < F xs 1 → 0 ≤ pX (G (xs + 1)) (fun i => G pl (off + 48 * j + i)) (F re 0) (F re 2) i ∧ pX (G (xs + 1)) (fun i => G pl (off + 48 * j + i)) (F re 0) (F re 2) i ≤ 10000000000000000 := by
    intro j i j0 j1 i0 i1
    have u := hu i j i0 i1 j0 j1
    have k1 := co_in hx (i := i) i0 (by omega)
    have k2 := co_in hx (i := i + 1) (by omega) (by omega)
    have k3 := c7 i i0 i1
    have k4 := ov_le (lo := G (xs + 1) i) (hi := G (xs + 1) (i + 1)) (a := F re 0) (b := F re 2) (by omega)
    exact mul_bd (A := 1000000000000) (B := 10000) u.1 u.2 (ov_pos _ _ _ _) (by omega)
  have rpos : ∀ j : Int, 0 ≤ j → j < F ys 1 → 0 ≤ pR (G (xs + 1)) (F xs 1) (fun i j => G pl (off + 48 * j + i)) (F re 0) (F re 2) j := fun j j0 j1 => sI_pos (fun i i0 i1 => (bx j i j0 j1 i0 i1).1)
  have ypos : ∀ j : Int, 0 ≤ j → j < F ys 1 → 0 ≤ pY (G (xs + 1)) (G (ys + 1)) (F xs 1) (fun i j => G pl (off + 48 * j + i)) (F re 0) (F re 1) (F re 2) (F re 3) j := fun j j0 j1 => Int.mul_nonneg (rpos j j0 j1) (ov_pos _ _ _ _)
  have zy1 : ∀ j : Int, 0 ≤ j → j < cb F G ys (F re 1) → pY (G (xs + 1)) (G (ys + 1)) (F xs 1) (fun i j => G pl (off + 48 * j + i)) (F re 0) (F re 1) (F re 2) (F re 3) j = 0 := by
    intro j j0 j1
    simp only [pY]
    rw [ov_lo b7 j0 j1 (by omega) p3.2.2.1, Int.mul_zero]
  have zy2 : ∀ j : Int, cb F G ys (F re 3) + 1 ≤ j → j < F ys 1 → pY (G (xs + 1)) (G (ys + 1)) (F xs 1) (fun i j => G pl (off + 48 * j + i)) (F re 0) (F re 1) (F re 2) (F re 3) j = 0 := by
    intro j j0 j1
    simp only [pY]
    rw [ov_hi b7 (b := cb F G ys (F re 3)) p4.1 (by omega) (by omega) p4', Int.mul_zero]
  have hVe : V = sI (pY (G (xs + 1)) (G (ys + 1)) (F xs 1) (fun i j => G pl (off + 48 * j + i)) (F re 0) (F re 1) (F re 2) (F re 3)) (cb F G ys (F re 3) + 1) := by
    rw [← hV]
    exact sI_end (by omega) (by omega) zy2
  have inner : ∀ (j acc : Int), cb F G ys (F re 1) ≤ j → j ≤ cb F G ys (F re 3) → 0 ≤ acc → acc + pY (G (xs + 1)) (G (ys + 1)) (F xs 1) (fun i j => G pl (off + 48 * j + i)) (F re 0) (F re 1) (F re 2) (F re 3) j ≤ 9000000000000000000 →
      (∀ x : Int, x = acc + pY (G (xs + 1)) (G (ys + 1)) (F xs 1) (fun i j => G pl (off + 48 * j + i)) (F re 0) (F re 1) (F re 2) (F re 3) j → Go d MX2_sumBy 75 [some (vR 2), some (vR xs), some (vR ys), some (vR pl), some (vI off), some (vR re), some (vJ x), none, some (vI (cb F G xs (F re 0))), some (vI (cb F G xs (F re 2))), some (vI (cb F G ys (F re 3))), some (vI (j + 1)), none, none, none, none] [] S F G (fun r' S' F' G' => r' = some (vJ V) ∧ S' = S ∧ F' = F ∧ G' = G)) →
      ∀ (k : Nat) (i r : Int), (cb F G xs (F re 2) + 1 - i).toNat ≤ k → cb F G xs (F re 0) ≤ i → i ≤ cb F G xs (F re 2) + 1 → r = sI (pX (G (xs + 1)) (fun i => G pl (off + 48 * j + i)) (F re 0) (F re 2)) i → 0 ≤ r → r ≤ i * 10000000000000000 → Go d MX2_sumBy 99 [some (vR 2), some (vR xs), some (vR ys), some (vR pl), some (vI off), some (vR re), some (vJ acc), none, some (vI (cb F G xs (F re 0))), some (vI (cb F G xs (F re 2))), some (vI (cb F G ys (F re 3))), some (vI j), some (vI (off + 48 * j)), some (vJ r), none, some (vI i)] [] S F G (fun r' S' F' G' => r' = some (vJ V) ∧ S' = S ∧ F' = F ∧ G' = G) := by
    intro j acc j0 j1 ha hb cont k
    have jm := ov_mid b7 (i := j) (b := cb F G ys (F re 1)) (b2 := cb F G ys (F re 3)) p3.1 j0 j1 p4.2.1 p3' p4.2.2.1 q2
    have fin : ∀ (i r : Int), cb F G xs (F re 2) + 1 = i → r = sI (pX (G (xs + 1)) (fun i => G pl (off + 48 * j + i)) (F re 0) (F re 2)) i → pY (G (xs + 1)) (G (ys + 1)) (F xs 1) (fun i j => G pl (off + 48 * j + i)) (F re 0) (F re 1) (F re 2) (F re 3) j = r * (min (G (ys + 1) (j + 1)) (F re 3 + 1) - max (G (ys + 1) j) (F re 1)) := by
      intro i r ei er
      rw [jm.1]
      simp only [pY, pR]
      rw [sI_end (m := cb F G xs (F re 2) + 1) (by omega) (by omega) (zx2 j), er, ← ei]
    induction k with
    | zero =>
      intro i r k1 k2 k3 er r0 r1
      have ei : cb F G xs (F re 2) + 1 = i := by omega
      have fe := fin i r ei er
      have yp := ypos j (by omega) (by omega)
      refine R_X2_sumBy_99 hsh hk1 hk2 hk3 hk5 ?_
      unfold V_X2_sumBy_99
      refine ⟨fun _ => ⟨hd, _, pu_overlap hk2 hy4 (by omega) (by omega) (by omega) hr6 hr8 (by omega), by omega, by omega, fun x ex => ⟨by omega, cont x (by omega)⟩⟩, fun z => absurd z (by omega)⟩
    | succ k ih =>
      intro i r k1 k2 k3 er r0 r1
      refine R_X2_sumBy_99 hsh hk1 hk2 hk3 hk5 ?_
      unfold V_X2_sumBy_99
      refine ⟨fun z => ?_, fun z => ?_⟩
      · have ei : cb F G xs (F re 2) + 1 = i := by omega
        have fe := fin i r ei er
        have yp := ypos j (by omega) (by omega)
        exact ⟨hd, _, pu_overlap hk2 hy4 (by omega) (by omega) (by omega) hr6 hr8 (by omega), by omega, by omega, fun x ex => ⟨by omega, cont x (by omega)⟩⟩
      · have im := ov_mid c7 (i := i) (b := cb F G xs (F re 0)) (b2 := cb F G xs (F re 2)) p1.1 k2 (by omega) p2.2.1 p1' p2.2.2.1 (by omega)
        have b9 := bx j i (by omega) (by omega) (by omega) (by omega)
        have e9 : pX (G (xs + 1)) (fun i => G pl (off + 48 * j + i)) (F re 0) (F re 2) i = G pl (off + 48 * j + i) * (min (G (xs + 1) (i + 1)) (F re 2 + 1) - max (G (xs + 1) i) (F re 0)) := by rw [im.1]; rfl
        rw [e9] at b9
        refine ⟨by omega, by omega, by omega, hd, _, pu_overlap hk1 hx4 (by omega) (by omega) (by omega) hr5 hr7 (by omega), by omega, by omega, fun x ex => ⟨by omega, ih (i + 1) x (by omega) (by omega) (by omega) ?_ (by omega) (by omega)⟩⟩
        rw [sI_1 _ (by omega), ex, er, e9]
  have outer : ∀ (k : Nat) (j acc : Int), (cb F G ys (F re 3) + 1 - j).toNat ≤ k → cb F G ys (F re 1) ≤ j → j ≤ cb F G ys (F re 3) + 1 → acc = sI (pY (G (xs + 1)) (G (ys + 1)) (F xs 1) (fun i j => G pl (off + 48 * j + i)) (F re 0) (F re 1) (F re 2) (F re 3)) j → Go d MX2_sumBy 75 [some (vR 2), some (vR xs), some (vR ys), some (vR pl), some (vI off), some (vR re), some (vJ acc), none, some (vI (cb F G xs (F re 0))), some (vI (cb F G xs (F re 2))), some (vI (cb F G ys (F re 3))), some (vI j), none, none, none, none] [] S F G (fun r' S' F' G' => r' = some (vJ V) ∧ S' = S ∧ F' = F ∧ G' = G) := by
    intro k
    induction k with
    | zero =>
      intro j acc k1 k2 k3 ea
      refine R_X2_sumBy_75 hsh hk1 hk2 hk3 hk5 ?_
      unfold V_X2_sumBy_75
      have ej : j = cb F G ys (F re 3) + 1 := by omega
      exact ⟨fun _ => ⟨by rw [ea, ej, ← hVe], rfl, rfl, rfl⟩, fun z => absurd z (by omega)⟩
    | succ k ih =>
      intro j acc k1 k2 k3 ea
      refine R_X2_sumBy_75 hsh hk1 hk2 hk3 hk5 ?_
      unfold V_X2_sumBy_75
      refine ⟨fun z => ?_, fun z => ⟨by omega, by omega, fun x ex => ?_⟩⟩
      · have ej : j = cb F G ys (F re 3) + 1 := by omega
        exact ⟨by rw [ea, ej, ← hVe], rfl, rfl, rfl⟩
      · subst ex
        have a0 : 0 ≤ acc := by rw [ea]; exact sI_pos (fun i i0 i1 => ypos i i0 (by omega))
        have a1 := sI_part (f := pY (G (xs + 1)) (G (ys + 1)) (F xs 1) (fun i j => G pl (off + 48 * j + i)) (F re 0) (F re 1) (F re 2) (F re 3)) (n := cb F G ys (F re 3) + 1) (m := j + 1) (by omega) (by omega) (fun i i0 i1 => ypos i i0 (by omega))
        rw [sI_1 _ (by omega), ← ea, ← hVe] at a1
        refine inner j acc k2 (by omega) a0 (by omega) (fun x ex => ih (j + 1) x (by omega) (by omega) (by omega) ?_) _ (cb F G xs (F re 0)) 0 (Nat.le_refl _) (by omega) ?_ ?_ (by omega) (by omega)
        · rw [sI_1 _ (by omega), ex, ea]
        · have : cb F G xs (F re 0) ≤ cb F G xs (F re 2) := by
            rcases Int.lt_or_le (cb F G xs (F re 2)) (cb F G xs (F re 0)) with w | w
            · have := rise_le c7 (i := cb F G xs (F re 2) + 1) (j := cb F G xs (F re 0)) (by omega) (by omega) (by omega)
              omega
            · exact w
          omega
        · rw [sI_beg (zx1 j)]
  refine outer _ _ 0 (Nat.le_refl _) (Int.le_refl _) ?_ ?_
  · have : cb F G ys (F re 1) ≤ cb F G ys (F re 3) := by
      rcases Int.lt_or_le (cb F G ys (F re 3)) (cb F G ys (F re 1)) with w | w
      · have := rise_le b7 (i := cb F G ys (F re 3) + 1) (j := cb F G ys (F re 1)) (by omega) (by omega) (by omega)
        omega
      · exact w
    omega
  · rw [sI_beg zy1]
