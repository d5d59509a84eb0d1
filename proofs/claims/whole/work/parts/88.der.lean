/-! WHAT FOLLOWS -/
theorem ple_at {F : AF} {G : AG} {p q : Nat} {off : Int} (h : PlE F G p q off) {i j : Int} (i0 : 0 ≤ i) (i1 : i < F 4 1) (j0 : 0 ≤ j) (j1 : j < F 11 1) : G p (48 * j + i) = G q (off + 48 * j + i) ∧ G p (2304 + 48 * j + i) = G q (off + (2304 + 48 * j + i)) ∧ G p (4608 + 48 * j + i) = G q (off + (4608 + 48 * j + i)) := by
  have a := h 0 i j (by omega) (by omega) i0 i1 j0 j1
  have b := h 1 i j (by omega) (by omega) i0 i1 j0 j1
  have c := h 2 i j (by omega) (by omega) i0 i1 j0 j1
  have e1 : 2304 * (0 : Int) + 48 * j + i = 48 * j + i := by omega
  have e2 : off + 2304 * (0 : Int) + 48 * j + i = off + 48 * j + i := by omega
  have e3 : 2304 * (1 : Int) + 48 * j + i = 2304 + 48 * j + i := by omega
  have e4 : off + 2304 * (1 : Int) + 48 * j + i = off + (2304 + 48 * j + i) := by omega
  have e5 : 2304 * (2 : Int) + 48 * j + i = 4608 + 48 * j + i := by omega
  have e6 : off + 2304 * (2 : Int) + 48 * j + i = off + (4608 + 48 * j + i) := by omega
  rw [e1, e2] at a
  rw [e3, e4] at b
  rw [e5, e6] at c
  exact ⟨a, b, c⟩
theorem pl_pba {F : AF} {G : AG} {p q : Nat} {off : Int} (h : PlE F G p q off) (k : PlB F G q off) (c : F 2 7 ≤ 1000000000000) : PBA F G p := by
  intro i j i0 i1 j0 j1
  obtain ⟨a1, a2, a3⟩ := ple_at h i0 i1 j0 j1
  obtain ⟨b1, b2, b3, b4⟩ := k i j i0 i1 j0 j1
  unfold PB
  rw [a1, a2, a3]
  exact ⟨b1, b2, b3, by omega⟩
theorem inv_blk {F : AF} {G : AG} (h : InvB F G) : (∀ x : Int, 0 ≤ x → x < F 4 2 → blk (G 5) (F 4 1) x = blk (me F G 0) (G 55 0) x) ∧ ∀ y : Int, 0 ≤ y → y < F 11 2 → blk (G 12) (F 11 1) y = blk (me F G 1) (G 55 1) y := by
  obtain ⟨B1, B2, B3, B4, B5, B6, B7, B8⟩ := h
  have s4 : Sq (G 5) (F 4 1) (F 4 2) := sq_co B1.1
  have s11 : Sq (G 12) (F 11 1) (F 11 2) := sq_co B1.2.1
  exact ⟨fun x x0 x1 => blk_cg s4 (by rw [B3]; exact sq_x B2) B5 B7 x0 x1, fun y y0 y1 => blk_cg s11 (by rw [B4]; exact sq_y B2) B6 B8 y0 y1⟩
theorem inv_vC {F : AF} {G : AG} {p q : Nat} {off : Int} (h : InvB F G) (k : PlE F G p q off) {g x y : Int} (g0 : 0 ≤ g) (g1 : g ≤ 2) (x0 : 0 ≤ x) (x1 : x < F 4 2) (y0 : 0 ≤ y) (y1 : y < F 11 2) : vC F G p g x y = mC F G q off g x y := by
  have b := inv_blk h
  have s4 : Sq (G 5) (F 4 1) (F 4 2) := sq_co h.1.1
  have s11 : Sq (G 12) (F 11 1) (F 11 2) := sq_co h.1.2.1
  have bx := bl_spec s4 x0 x1
  have by' := bl_spec s11 y0 y1
  unfold vC mC cv
  rw [← b.1 x x0 x1, ← b.2 y y0 y1]
  exact k g _ _ g0 g1 bx.1 bx.2.1 by'.1 by'.2.1
theorem vu_all {F : AF} {G : AG} {p : Nat} {x y : Int} : vu F G p (-1) x y = vu F G p 0 x y + vu F G p 1 x y + vu F G p 2 x y := by
  simp only [vu, cv, cu]
  rw [if_pos trivial, if_neg (by decide), if_neg (by decide), if_neg (by decide)]
  have e0 : 2304 * (0 : Int) + 48 * blk (G 12) (F 11 1) y + blk (G 5) (F 4 1) x = 48 * blk (G 12) (F 11 1) y + blk (G 5) (F 4 1) x := by omega
  rw [e0]
  rfl
theorem inv_vu {S : AS} {F : AF} {G : AG} {b : Int} (h : Inv S F G b) {g x y : Int} (g0 : -1 ≤ g) (g1 : g ≤ 2) (x0 : 0 ≤ x) (x1 : x < F 4 2) (y0 : 0 ≤ y) (y1 : y < F 11 2) : vu F G 18 g x y = mv F G g x y := by
  obtain ⟨-, hB, -, ⟨-, -, -, P4, -⟩, -⟩ := h
  have one : ∀ g : Int, 0 ≤ g → g ≤ 2 → vu F G 18 g x y = mv F G g x y := fun g g0 g1 => by
    rw [vu_g g0, mv_g g0]
    exact inv_vC hB P4 g0 g1 x0 x1 y0 y1
  by_cases w : g = -1
  · subst w
    rw [vu_all, mv_all, one 0 (by omega) (by omega), one 1 (by omega) (by omega), one 2 (by omega) (by omega)]
  · exact one g (by omega) g1
theorem inv_aS {S : AS} {F : AF} {G : AG} {b : Int} (h : Inv S F G b) {g x1 y1 x2 y2 : Int} (g0 : -1 ≤ g) (g1 : g ≤ 2) (a0 : 0 ≤ x1) (a1 : x2 < F 4 2) (b0 : 0 ≤ y1) (b1 : y2 < F 11 2) : aS (vu F G 18 g) x1 y1 x2 y2 = aS (mv F G g) x1 y1 x2 y2 := aS_congr (fun x y x0 x1' y0 y1' => inv_vu h g0 g1 (by omega) (by omega) (by omega) (by omega))
theorem inv_cc {S : AS} {F : AF} {G : AG} {b : Int} (h : Inv S F G b) : CC F G := h.2.1.1
theorem inv_mx {S : AS} {F : AF} {G : AG} {b : Int} (h : Inv S F G b) : MX F G := h.2.1.2.1
theorem inv_pba {S : AS} {F : AF} {G : AG} {b : Int} (h : Inv S F G b) : PBA F G 18 := pl_pba h.2.2.2.1.2.2.2.1 h.2.2.2.1.2.2.2.2.1 h.2.2.2.1.2.2.1
theorem inv_mba {S : AS} {F : AF} {G : AG} {b : Int} (h : Inv S F G b) : MBA G := by
  obtain ⟨-, ⟨B1, B2, B3, B4, B5, B6, B7, B8⟩, -, ⟨P1, P2, P3, P4, P5, P6⟩, -⟩ := h
  intro i j i0 i1 j0 j1
  have q := P5 i j i0 (by rw [B5]; exact i1) j0 (by rw [B6]; exact j1)
  rw [Int.zero_add, Int.zero_add, Int.zero_add] at q
  obtain ⟨q1, q2, q3, q4⟩ := q
  exact ⟨q1, q2, q3, by omega⟩
theorem mv_mC {F : AF} {G : AG} {g : Int} (hg : 0 ≤ g) : mv F G g = mC F G 57 0 g := by
  funext x y
  exact mv_g hg
theorem inv_all {S : AS} {F : AF} {G : AG} {b : Int} (h : Inv S F G b) {g : Int} (g0 : 0 ≤ g) (g1 : g ≤ 2) : G 59 g = aS (mv F G g) 0 0 (F 53 1 - 1) (F 53 2 - 1) ∧ G 59 g ≤ 3000000000000000000 := by
  have := h.2.2.2.1.2.2.2.2.2 g g0 g1
  rw [mv_mC g0]
  exact this
theorem inv_mt {S : AS} {F : AF} {G : AG} {b : Int} (h : Inv S F G b) : MT F G := by
  intro g g0 g1
  have := inv_all h g0 g1
  omega
theorem inv_ct {S : AS} {F : AF} {G : AG} {b : Int} (h : Inv S F G b) : CT F G 18 := by
  intro g g0 g1
  have a := inv_all h g0 g1
  have c := inv_cc h
  have e := csum_aS c 18 g (x1 := 0) (y1 := 0) (x2 := F 4 2 - 1) (y2 := F 11 2 - 1) (by omega) (by omega) (by omega) (by omega)
  rw [e, inv_aS h (by omega) g1 (by omega) (by omega) (by omega) (by omega), h.2.1.2.2.1, h.2.1.2.2.2.1]
  omega
theorem inv_sz {S : AS} {F : AF} {G : AG} {b : Int} (h : Inv S F G b) : F 4 2 = F 53 1 ∧ F 11 2 = F 53 2 ∧ 1 ≤ F 4 2 ∧ F 4 2 ≤ 10000 ∧ 1 ≤ F 11 2 ∧ F 11 2 ≤ 10000 := by
  have c := inv_cc h
  exact ⟨h.2.1.2.2.1, h.2.1.2.2.2.1, c.1.2.2.1, c.1.2.2.2.1, c.2.1.2.2.1, c.2.1.2.2.2.1⟩
theorem inv_shc {S : AS} {F : AF} {G : AG} {b : Int} (h : Inv S F G b) : ShC S := h.1.1
theorem inv_shm {S : AS} {F : AF} {G : AG} {b : Int} (h : Inv S F G b) : ShM S := h.1.2.1
theorem inv_open {S : AS} {F : AF} {G : AG} {b : Int} (h : Inv S F G b) : Opn S F := by
  obtain ⟨n, h1, h2⟩ := h.1.2.2
  exact opn_shn h1 h.2.2.2.2.1.2.1 h2
/-- scratch of the system alone: a rectangle that was asked for -/
theorem scr_51 {F : AF} {G : AG} (a b c d : Int) : Scr F (setR F 51 a b c d) G G := ⟨fun q _ _ _ _ _ h _ _ => setR_c h, ⟨by rw [setR_c (by decide)], by rw [setR_c (by decide)], by rw [setR_c (by decide)]⟩, ⟨by rw [setR_c (by decide)], by rw [setR_c (by decide)], by rw [setR_c (by decide)], by rw [setR_c (by decide)], by rw [setR_c (by decide)], by rw [setR_c (by decide)], by rw [setR_c (by decide)], by rw [setR_c (by decide)], by rw [setR_c (by decide)]⟩, fun _ _ _ _ _ _ _ _ _ _ _ _ => rfl⟩
theorem scr_52 {F : AF} {G : AG} (a b c d : Int) : Scr F (setR F 52 a b c d) G G := ⟨fun q _ _ _ _ _ _ h _ => setR_c h, ⟨by rw [setR_c (by decide)], by rw [setR_c (by decide)], by rw [setR_c (by decide)]⟩, ⟨by rw [setR_c (by decide)], by rw [setR_c (by decide)], by rw [setR_c (by decide)], by rw [setR_c (by decide)], by rw [setR_c (by decide)], by rw [setR_c (by decide)], by rw [setR_c (by decide)], by rw [setR_c (by decide)], by rw [setR_c (by decide)]⟩, fun _ _ _ _ _ _ _ _ _ _ _ _ => rfl⟩
theorem scr_34 {F F' : AF} {G : AG} (h : Same34 F F') : Scr F F' G G := ⟨fun q _ _ h3 _ _ _ _ _ => h q h3, ⟨by rw [h 46 (by decide)], by rw [h 46 (by decide)], by rw [h 46 (by decide)]⟩, ⟨by rw [h 53 (by decide)], by rw [h 53 (by decide)], by rw [h 53 (by decide)], by rw [h 53 (by decide)], by rw [h 53 (by decide)], by rw [h 53 (by decide)], by rw [h 53 (by decide)], by rw [h 53 (by decide)], by rw [h 53 (by decide)]⟩, fun _ _ _ _ _ _ _ _ _ _ _ _ => rfl⟩
/-- a field of the reference that is only worked with -/
theorem scr_f {F : AF} {G : AG} {k : Nat} {z : Int} (h1 : k ≠ 1) (h2 : k ≠ 2) (h3 : k ≠ 3) (h4 : k ≠ 11) (h5 : k ≠ 14) (h6 : k ≠ 34) (h7 : k ≠ 37) (h8 : k ≠ 38) (h9 : k ≠ 39) : Scr F (fu F 53 k z) G G := ⟨fun q _ _ _ _ _ _ _ h => fu_row h, ⟨fu_c (by decide), fu_c (by decide), fu_c (by decide)⟩, ⟨fu_k (Ne.symm h1), fu_k (Ne.symm h2), fu_k (Ne.symm h3), fu_k (Ne.symm h4), fu_k (Ne.symm h5), fu_k (Ne.symm h6), fu_k (Ne.symm h7), fu_k (Ne.symm h8), fu_k (Ne.symm h9)⟩, fun _ _ _ _ _ _ _ _ _ _ _ _ => rfl⟩
theorem scr_thrown {F : AF} {G : AG} : Scr F (fu F 53 0 0) G G := scr_f (by decide) (by decide) (by decide) (by decide) (by decide) (by decide) (by decide) (by decide) (by decide)
