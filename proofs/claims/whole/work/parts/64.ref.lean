/-! THE REFERENCE BY CELLS -/
noncomputable def mv (F : AF) (G : AG) (g x y : Int) : Int := cv (me F G 0) (me F G 1) (G 55 0) (G 55 1) (mu G g) x y
theorem msz_0 {F : AF} : msz F 0 = F 53 1 := if_pos rfl
theorem msz_1 {F : AF} : msz F 1 = F 53 2 := if_neg (by decide)
theorem sq_x {F : AF} {G : AG} (h : MX F G) : Sq (me F G 0) (G 55 0) (F 53 1) := by
  have := sq_mx h (a := 0) (by omega) (by omega)
  rw [msz_0] at this
  exact this
theorem sq_y {F : AF} {G : AG} (h : MX F G) : Sq (me F G 1) (G 55 1) (F 53 2) := by
  have := sq_mx h (a := 1) (by omega) (by omega)
  rw [msz_1] at this
  exact this
theorem mv_g {F : AF} {G : AG} {g x y : Int} (hg : 0 ≤ g) : mv F G g x y = mC F G 57 0 g x y := by
  simp only [mv, mC, cv, mu]
  rw [if_neg (by omega), Int.zero_add]
theorem mv_all {F : AF} {G : AG} {x y : Int} : mv F G (-1) x y = mv F G 0 x y + mv F G 1 x y + mv F G 2 x y := by
  simp only [mv, cv, mu]
  rw [if_pos trivial, if_neg (by decide), if_neg (by decide), if_neg (by decide)]
  have e0 : 2304 * (0 : Int) + 48 * blk (me F G 1) (G 55 1) y + blk (me F G 0) (G 55 0) x = 48 * blk (me F G 1) (G 55 1) y + blk (me F G 0) (G 55 0) x := by omega
  rw [e0]
  rfl
theorem sumM_aS {F : AF} {G : AG} (hx : MX F G) (g : Int) {x1 y1 x2 y2 : Int} (a0 : 0 ≤ x1) (a1 : x2 < F 53 1) (b0 : 0 ≤ y1) (b1 : y2 < F 53 2) : sumM F G g x1 y1 x2 y2 = aS (mv F G g) x1 y1 x2 y2 := pS_aS (sq_x hx) (sq_y hx) (mu G g) a0 a1 b0 b1
theorem mv_in {F : AF} {G : AG} (hx : MX F G) (hb : MBA G) {g x y : Int} (hg : -1 ≤ g) (hg2 : g ≤ 2) (x0 : 0 ≤ x) (x1 : x < F 53 1) (y0 : 0 ≤ y) (y1 : y < F 53 2) : 0 ≤ mv F G g x y ∧ mv F G g x y ≤ 1000000000000 := by
  have a := bl_spec (sq_x hx) x0 x1
  have b := bl_spec (sq_y hx) y0 y1
  exact mu_in (hb _ _ a.1 a.2.1 b.1 b.2.1) hg hg2
/-- all of a good -/
def MT (F : AF) (G : AG) : Prop := ∀ g : Int, 0 ≤ g → g ≤ 2 → aS (mv F G g) 0 0 (F 53 1 - 1) (F 53 2 - 1) ≤ 3000000000000000000
/-- a rectangle of the reference's grid -/
def MR (F : AF) (x1 y1 x2 y2 : Int) : Prop := 0 ≤ x1 ∧ x1 ≤ x2 ∧ x2 < F 53 1 ∧ 0 ≤ y1 ∧ y1 ≤ y2 ∧ y2 < F 53 2
theorem mv_le {F : AF} {G : AG} (hx : MX F G) (hb : MBA G) (ht : MT F G) {g x1 y1 x2 y2 : Int} (hg : 0 ≤ g) (hg2 : g ≤ 2) (a0 : 0 ≤ x1) (a1 : x2 < F 53 1) (b0 : 0 ≤ y1) (b1 : y2 < F 53 2) : 0 ≤ aS (mv F G g) x1 y1 x2 y2 ∧ aS (mv F G g) x1 y1 x2 y2 ≤ 3000000000000000000 := by
  refine ⟨aS_pos (fun x y x0 x1' y0 y1' => (mv_in hx hb (by omega) hg2 (by omega) (by omega) (by omega) (by omega)).1), ?_⟩
  refine Int.le_trans (aS_mono (a1 := 0) (b1 := 0) (a2 := F 53 1 - 1) (b2 := F 53 2 - 1) (fun x y x0 x1' y0 y1' => (mv_in hx hb (by omega) hg2 x0 (by omega) y0 (by omega)).1) a0 b0 (by omega) (by omega)) (ht g hg hg2)
theorem aS_all {F : AF} {G : AG} (x1 y1 x2 y2 : Int) : aS (mv F G (-1)) x1 y1 x2 y2 = aS (mv F G 0) x1 y1 x2 y2 + aS (mv F G 1) x1 y1 x2 y2 + aS (mv F G 2) x1 y1 x2 y2 := by
  rw [← aS_add, ← aS_add]
  exact aS_congr (fun x y _ _ _ _ => mv_all)
theorem mv_le9 {F : AF} {G : AG} (hx : MX F G) (hb : MBA G) (ht : MT F G) {g x1 y1 x2 y2 : Int} (hg : -1 ≤ g) (hg2 : g ≤ 2) (a0 : 0 ≤ x1) (a1 : x2 < F 53 1) (b0 : 0 ≤ y1) (b1 : y2 < F 53 2) : 0 ≤ aS (mv F G g) x1 y1 x2 y2 ∧ aS (mv F G g) x1 y1 x2 y2 ≤ 9000000000000000000 := by
  by_cases w : g = -1
  · subst w
    rw [aS_all]
    have q0 := mv_le hx hb ht (g := 0) (by omega) (by omega) a0 a1 b0 b1
    have q1 := mv_le hx hb ht (g := 1) (by omega) (by omega) a0 a1 b0 b1
    have q2 := mv_le hx hb ht (g := 2) (by omega) (by omega) a0 a1 b0 b1
    omega
  · have q0 := mv_le hx hb ht (g := g) (by omega) hg2 a0 a1 b0 b1
    omega
theorem pu_msum {d : Nat} {S : AS} {F : AF} {G : AG} (hd : 4 ≤ d) (hsm : ShM S) (hx : MX F G) (hb : MBA G) (ht : MT F G) {g x1 y1 x2 y2 : Int} (hg : -1 ≤ g) (hg2 : g ≤ 2) (a0 : 0 ≤ x1) (a1 : x2 < F 53 1) (b0 : 0 ≤ y1) (b1 : y2 < F 53 2) (c0 : x1 ≤ 100000) (c1 : -100000 ≤ x2) (c2 : y1 ≤ 100000) (c3 : -100000 ≤ y2) : Pu d MX10_sumOf [vR 53, vI g, vI x1, vI y1, vI x2, vI y2] S F G (some (vJ (aS (mv F G g) x1 y1 x2 y2))) := by
  have w1 := (hx 0 (by omega) (by omega)).2.2.2.1
  have w2 := (hx 1 (by omega) (by omega)).2.2.2.1
  rw [msz_0] at w1
  rw [msz_1] at w2
  have e := sumM_aS hx g a0 a1 b0 b1
  have b := (mv_le9 hx hb ht hg hg2 a0 a1 b0 b1).2
  rw [← e] at b ⊢
  exact pu_sumOf hd hsm hx hb hg hg2 (by omega) (by omega) (by omega) (by omega) (by omega) (by omega) (by omega) (by omega) b
noncomputable def brk (F : AF) (G : AG) (g x1 y1 x2 y2 v : Int) : Int := by
  classical
  exact if (∃ x y : Int, inR x1 y1 x2 y2 x y ∧ mv F G g x y + v < 0) then -5 else if (∃ x y : Int, inR x1 y1 x2 y2 x y ∧ F 53 3 < mv F G (-1) x y + v) then -7 else 0
def BkP (F : AF) (G : AG) (x1 y1 x2 y2 : Int) (P : Int → Int → Prop) (i j : Int) : Prop := ∃ a b : Int, 0 ≤ a ∧ a < G 55 0 ∧ 0 ≤ b ∧ b < G 55 1 ∧ (a < i ∨ (a = i ∧ b < j)) ∧ 0 < ov (me F G 0 a) (me F G 0 (a + 1)) x1 x2 ∧ 0 < ov (me F G 1 b) (me F G 1 (b + 1)) y1 y2 ∧ P a b
theorem bkp_s {F : AF} {G : AG} {x1 y1 x2 y2 : Int} {P : Int → Int → Prop} {i j : Int} (i0 : 0 ≤ i) (i1 : i < G 55 0) (j0 : 0 ≤ j) (j1 : j < G 55 1) : BkP F G x1 y1 x2 y2 P i (j + 1) ↔ (BkP F G x1 y1 x2 y2 P i j ∨ (0 < ov (me F G 0 i) (me F G 0 (i + 1)) x1 x2 ∧ 0 < ov (me F G 1 j) (me F G 1 (j + 1)) y1 y2 ∧ P i j)) := by
  constructor
  · rintro ⟨a, b, a0, a1, b0, b1, c, r⟩
    by_cases e : a = i ∧ b = j
    · obtain ⟨rfl, rfl⟩ := e
      exact Or.inr r
    · exact Or.inl ⟨a, b, a0, a1, b0, b1, by omega, r⟩
  · rintro (⟨a, b, a0, a1, b0, b1, c, r⟩ | r)
    · exact ⟨a, b, a0, a1, b0, b1, by omega, r⟩
    · exact ⟨i, j, i0, i1, j0, j1, by omega, r⟩
theorem bkp_n {F : AF} {G : AG} {x1 y1 x2 y2 : Int} {P : Int → Int → Prop} {i j : Int} (hj : ¬ j < G 55 1) : BkP F G x1 y1 x2 y2 P i j ↔ BkP F G x1 y1 x2 y2 P (i + 1) 0 := by
  constructor
  · rintro ⟨a, b, a0, a1, b0, b1, c, r⟩
    exact ⟨a, b, a0, a1, b0, b1, by omega, r⟩
  · rintro ⟨a, b, a0, a1, b0, b1, c, r⟩
    exact ⟨a, b, a0, a1, b0, b1, by omega, r⟩
theorem bkp_0 {F : AF} {G : AG} {x1 y1 x2 y2 : Int} {P : Int → Int → Prop} : ¬ BkP F G x1 y1 x2 y2 P 0 0 := by
  rintro ⟨a, b, a0, a1, b0, b1, c, r⟩
  omega
theorem bkp_e {F : AF} {G : AG} (hx : MX F G) {x1 y1 x2 y2 g : Int} {P : Int → Prop} {i : Int} (hi : ¬ i < G 55 0) (hr : MR F x1 y1 x2 y2) : BkP F G x1 y1 x2 y2 (fun i j => P (mu G g i j)) i 0 ↔ ∃ x y : Int, inR x1 y1 x2 y2 x y ∧ P (mv F G g x y) := by
  refine Iff.trans ?_ (fld_cell (sq_x hx) (sq_y hx) (u := mu G g) (P := P) hr.1 hr.2.2.1 hr.2.2.2.1 hr.2.2.2.2.2)
  constructor
  · rintro ⟨a, b, a0, a1, b0, b1, c, r⟩
    exact ⟨a, b, a0, a1, b0, b1, r⟩
  · rintro ⟨a, b, a0, a1, b0, b1, r⟩
    exact ⟨a, b, a0, a1, b0, b1, by omega, r⟩
theorem pu_breaksBy {d : Nat} {S : AS} {F : AF} {G : AG} (hd : 3 ≤ d) (hsm : ShM S) (hx : MX F G) (hb : MBA G) {g x1 y1 x2 y2 v : Int} (hg : 0 ≤ g) (hg2 : g ≤ 2) (hr : MR F x1 y1 x2 y2) (hv : -1000000000 ≤ v) (hv2 : v ≤ 1000000000) : Pu d MX10_breaksBy [vR 53, vI g, vI x1, vI y1, vI x2, vI y2, vI v] S F G (some (vI (brk F G g x1 y1 x2 y2 v))) := by
  classical
  obtain ⟨r1, r2, r3, r4, r5, r6⟩ := id hr
  have w1 := (hx 0 (by omega) (by omega)).2.2.2.1
  have w2 := (hx 1 (by omega) (by omega)).2.2.2.1
  have n1 := (hx 0 (by omega) (by omega)).2.1
  have n2 := (hx 1 (by omega) (by omega)).2.1
  rw [msz_0] at w1
  rw [msz_1] at w2
  generalize hV : brk F G g x1 y1 x2 y2 v = V
  refine ok_go rfl (by decide) (Nat.le_of_ble_eq_true rfl) (R_X10_breaksBy_0 hsm ?_)
  unfold V_X10_breaksBy_0
  refine up_ind (α := Int × Int) (G 55 0 - 1) (fun i A => 0 ≤ i ∧ i ≤ G 55 0 ∧ A.1 = bC (BkP F G x1 y1 x2 y2 (fun i j => mu G g i j + v < 0) i 0) ∧ A.2 = bC (BkP F G x1 y1 x2 y2 (fun i j => F 53 3 < mu G (-1) i j + v) i 0)) (fun i A => Go d MX10_breaksBy 9 [some (vR 53), some (vI g), some (vI x1), some (vI y1), some (vI x2), some (vI y2), some (vI v), some (vI A.1), some (vI A.2), some (vI i), none] [] S F G (fun r' S' F' G' => r' = some (vI V) ∧ S' = S ∧ F' = F ∧ G' = G)) ?_ ?_ 0 (0, 0) ⟨by omega, by have := (hx 0 (by omega) (by omega)).1; omega, (bC_f bkp_0).symm, (bC_f bkp_0).symm⟩
  · rintro i ⟨A, B⟩ ⟨i0, i1, hA, hB⟩ hi ih
    refine R_X10_breaksBy_9 hsm ?_
    unfold V_X10_breaksBy_9
    refine ⟨fun y => absurd y (by omega), fun _ => ?_⟩
    refine up_ind (α := Int × Int) (G 55 1 - 1) (fun j A => 0 ≤ j ∧ A.1 = bC (BkP F G x1 y1 x2 y2 (fun i j => mu G g i j + v < 0) i j) ∧ A.2 = bC (BkP F G x1 y1 x2 y2 (fun i j => F 53 3 < mu G (-1) i j + v) i j)) (fun j A => Go d MX10_breaksBy 23 [some (vR 53), some (vI g), some (vI x1), some (vI y1), some (vI x2), some (vI y2), some (vI v), some (vI A.1), some (vI A.2), some (vI i), some (vI j)] [] S F G (fun r' S' F' G' => r' = some (vI V) ∧ S' = S ∧ F' = F ∧ G' = G)) ?_ ?_ 0 (A, B) ⟨by omega, hA, hB⟩
    · rintro j ⟨A, B⟩ ⟨j0, hA, hB⟩ hj ih2
      simp only at hA hB
      have s1 := bkp_s (F := F) (G := G) (x1 := x1) (y1 := y1) (x2 := x2) (y2 := y2) (P := fun i j => mu G g i j + v < 0) i0 (by omega) j0 (by omega)
      have s2 := bkp_s (F := F) (G := G) (x1 := x1) (y1 := y1) (x2 := x2) (y2 := y2) (P := fun i j => F 53 3 < mu G (-1) i j + v) i0 (by omega) j0 (by omega)
      have mb := hb i j i0 (by omega) j0 (by omega)
      have m1 := mu_in mb (g := g) (by omega) hg2
      have m2 := mu_in mb (g := -1) (by omega) (by omega)
      have fin : ∀ A' B' : Int, A' = bC (BkP F G x1 y1 x2 y2 (fun i j => mu G g i j + v < 0) i (j + 1)) → B' = bC (BkP F G x1 y1 x2 y2 (fun i j => F 53 3 < mu G (-1) i j + v) i (j + 1)) → V_X10_breaksBy_126 d S F G (fun r' S' F' G' => r' = some (vI V) ∧ S' = S ∧ F' = F ∧ G' = G) g x1 y1 x2 y2 v A' B' i j := by
        intro A' B' a b
        unfold V_X10_breaksBy_126
        exact ⟨by omega, ih2 (A', B') ⟨by omega, a, b⟩⟩
      have pin := fun g' (h1 : -1 ≤ g') (h2 : g' ≤ 2) => pu_in (d := d - 1) (S := S) (F := F) (G := G) (by omega) hsm mb (g := g') h1 h2 i0 (by omega) j0 (by omega)
      have o1 := ov_pos (me F G 0 i) (me F G 0 (i + 1)) x1 x2
      have o2 := ov_pos (me F G 1 j) (me F G 1 (j + 1)) y1 y2
      refine R_X10_breaksBy_23 hsm ?_
      unfold V_X10_breaksBy_23
      refine ⟨fun y => absurd y (by omega), fun _ => ⟨by omega, _, pu_part (by omega) hsm hx (by omega) (by omega) i0 (by omega) (by omega) (by omega) (by omega) (by omega), fun y => fin A B ?_ ?_, fun y => ⟨_, pu_part (by omega) hsm hx (by omega) (by omega) j0 (by omega) (by omega) (by omega) (by omega) (by omega), fun yy => ?_, fun yy => fin A B ?_ ?_⟩⟩⟩
      · rw [hA]; exact bC_c (Iff.symm (s1.trans ⟨fun z => z.elim id (fun u => absurd u.1 (by omega)), Or.inl⟩))
      · rw [hB]; exact bC_c (Iff.symm (s2.trans ⟨fun z => z.elim id (fun u => absurd u.1 (by omega)), Or.inl⟩))
      · -- a block that is met
        have c2 : ∀ A' : Int, A' = bC (BkP F G x1 y1 x2 y2 (fun i j => mu G g i j + v < 0) i (j + 1)) → V_X10_breaksBy_91 d S F G (fun r' S' F' G' => r' = some (vI V) ∧ S' = S ∧ F' = F ∧ G' = G) g x1 y1 x2 y2 v A B i j A' := by
          intro A' hA'
          unfold V_X10_breaksBy_91 V_X10_breaksBy_119 V_X10_breaksBy_124
          refine ⟨fun u => fin A' 1 hA' ?_, fun u => ⟨by omega, _, pin (-1) (by omega) (by omega), by omega, fun u2 => fin A' 0 hA' ?_, fun u2 => fin A' 1 hA' ?_⟩⟩
          · have : BkP F G x1 y1 x2 y2 (fun i j => F 53 3 < mu G (-1) i j + v) i j := Classical.byContradiction (fun z => u (by rw [hB]; exact bC_f z))
            exact (bC_t (s2.mpr (Or.inl this))).symm
          · refine (bC_f (fun z => ?_)).symm
            rcases s2.mp z with z | z
            · exact absurd (hB.trans (bC_t z)) (by omega)
            · have := z.2.2
              omega
          · exact (bC_t (s2.mpr (Or.inr ⟨by omega, by omega, by omega⟩))).symm
        unfold V_X10_breaksBy_86
        refine ⟨fun u => c2 1 ?_, fun u => ⟨_, pin g (by omega) hg2, by omega, fun u2 => c2 0 ?_, fun u2 => c2 1 ?_⟩⟩
        · have : BkP F G x1 y1 x2 y2 (fun i j => mu G g i j + v < 0) i j := Classical.byContradiction (fun z => u (by rw [hA]; exact bC_f z))
          exact (bC_t (s1.mpr (Or.inl this))).symm
        · refine (bC_f (fun z => ?_)).symm
          rcases s1.mp z with z | z
          · exact absurd (hA.trans (bC_t z)) (by omega)
          · have := z.2.2
            omega
        · exact (bC_t (s1.mpr (Or.inr ⟨by omega, by omega, by omega⟩))).symm
      · rw [hA]; exact bC_c (Iff.symm (s1.trans ⟨fun z => z.elim id (fun u => absurd u.2.1 (by omega)), Or.inl⟩))
      · rw [hB]; exact bC_c (Iff.symm (s2.trans ⟨fun z => z.elim id (fun u => absurd u.2.1 (by omega)), Or.inl⟩))
    · rintro j ⟨A, B⟩ ⟨j0, hA, hB⟩ hj
      refine R_X10_breaksBy_23 hsm ?_
      unfold V_X10_breaksBy_23
      refine ⟨fun _ => ⟨by omega, ih (A, B) ⟨by omega, by omega, ?_, ?_⟩⟩, fun y => absurd y (by omega)⟩
      · exact hA.trans (bC_c (bkp_n (by omega)))
      · exact hB.trans (bC_c (bkp_n (by omega)))
  · rintro i ⟨A, B⟩ ⟨i0, i1, hA, hB⟩ hi
    simp only at hA hB
    have e1 := bkp_e hx (g := g) (P := fun u => u + v < 0) (i := i) (by omega) hr
    have e2 := bkp_e hx (g := -1) (P := fun u => F 53 3 < u + v) (i := i) (by omega) hr
    refine R_X10_breaksBy_9 hsm ?_
    unfold V_X10_breaksBy_9
    simp only [brk] at hV
    refine ⟨fun _ => ⟨fun u => ⟨fun u2 => ⟨?_, rfl, rfl, rfl⟩, fun u2 => ⟨?_, rfl, rfl, rfl⟩⟩, fun u => ⟨?_, rfl, rfl, rfl⟩⟩, fun y => absurd y (by omega)⟩
    · have q1 := bC_0.mp (hA.symm.trans u)
      have q2 := bC_0.mp (hB.symm.trans u2)
      rw [if_neg (fun z => q1 (e1.mpr z)), if_neg (fun z => q2 (e2.mpr z))] at hV
      rw [← hV]
    · have q1 := bC_0.mp (hA.symm.trans u)
      have q2 : BkP F G x1 y1 x2 y2 (fun i j => F 53 3 < mu G (-1) i j + v) i 0 := Classical.byContradiction (fun z => u2 (by rw [hB]; exact bC_f z))
      rw [if_neg (fun z => q1 (e1.mpr z)), if_pos (e2.mp q2)] at hV
      rw [← hV]
    · have q1 : BkP F G x1 y1 x2 y2 (fun i j => mu G g i j + v < 0) i 0 := Classical.byContradiction (fun z => u (by rw [hA]; exact bC_f z))
      rw [if_pos (e1.mp q1)] at hV
      rw [← hV]
