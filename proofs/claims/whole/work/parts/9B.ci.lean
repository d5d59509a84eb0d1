section
/-! THE SYSTEM ALONE, AND WHAT TIES IT TO THE REFERENCE -/
def CA (S : AS) (F : AF) : Prop := ShC S ∧ ShM S ∧ ∃ n : Nat, ShN S n ∧ F 2 8 ≤ n
def PC (F : AF) (G : AG) (p : Nat) : Prop := (∀ x y : Int, 0 ≤ x → x < F 4 2 → 0 ≤ y → y < F 11 2 → 0 ≤ vC F G p 0 x y ∧ 0 ≤ vC F G p 1 x y ∧ 0 ≤ vC F G p 2 x y ∧ vC F G p 0 x y + vC F G p 1 x y + vC F G p 2 x y ≤ F 2 7) ∧ ∀ g : Int, 0 ≤ g → g ≤ 2 → aS (vC F G p g) 0 0 (F 4 2 - 1) (F 11 2 - 1) ≤ 3000000000000000000
def CI (S : AS) (F : AF) (G : AG) (b : Int) : Prop := CA S F ∧ CC F G ∧ (0 ≤ F 3 4 ∧ F 3 4 ≤ F 4 1 - 1 ∧ 0 ≤ F 10 4 ∧ F 10 4 ≤ F 11 1 - 1) ∧ (1 ≤ F 2 7 ∧ F 2 7 ≤ 1000000000000 ∧ 0 ≤ F 2 8 ∧ F 2 8 ≤ 8) ∧ PC F G 18 ∧ (∀ k : Nat, (k : Int) < F 2 8 → PC F G (79 + 2 * k) ∧ 0 ≤ F (78 + 2 * k) 1) ∧ (sI (fun k => F (78 + 2 * k.toNat) 1) (F 2 8) ≤ b ∧ 0 ≤ b) ∧ STd F ∧ ZI F ∧ 0 ≤ F 46 1 ∧ F 46 1 ≤ 500
def KZ (F F' : AF) (G' : AG) : Prop := ∀ z : Int, 0 ≤ z → z < 6 → F (22 + 2 * z.toNat) 2 = G' 65 z ∧ (¬ F (22 + 2 * z.toNat) 2 = 0 → F (22 + 2 * z.toNat) 1 = G' 64 z ∧ F (22 + 2 * z.toNat + 1) 0 = G' 63 (4 * z) ∧ F (22 + 2 * z.toNat + 1) 1 = G' 63 (4 * z + 1) ∧ F (22 + 2 * z.toNat + 1) 2 = G' 63 (4 * z + 2) ∧ F (22 + 2 * z.toNat + 1) 3 = G' 63 (4 * z + 3))
def KK (F : AF) (G : AG) (F' : AF) (G' : AG) : Prop :=
  (MX F' G' ∧ F 4 2 = F' 53 1 ∧ F 11 2 = F' 53 2 ∧ (∀ q : Int, isC F G 4 q ↔ isB (me F' G' 0) (G' 55 0) q) ∧ ∀ q : Int, isC F G 11 q ↔ isB (me F' G' 1) (G' 55 1) q) ∧
  (F 3 4 = G' 56 0 ∧ F 10 4 = G' 56 1) ∧ (F 2 7 = F' 53 3 ∧ F 2 8 = F' 53 11) ∧
  (∀ g x y : Int, 0 ≤ g → g ≤ 2 → 0 ≤ x → x < F 4 2 → 0 ≤ y → y < F 11 2 → vC F G 18 g x y = mC F' G' 57 0 g x y) ∧
  (∀ g : Int, 0 ≤ g → g ≤ 2 → G' 59 g = aS (vC F G 18 g) 0 0 (F 4 2 - 1) (F 11 2 - 1)) ∧
  (∀ k : Nat, (k : Int) < F 2 8 → (∀ g x y : Int, 0 ≤ g → g ≤ 2 → 0 ≤ x → x < F 4 2 → 0 ≤ y → y < F 11 2 → vC F G (79 + 2 * k) g x y = mC F' G' 58 (6912 * k) g x y) ∧ (∀ g : Int, 0 ≤ g → g ≤ 2 → G' 60 (3 * k + g) = aS (vC F G (79 + 2 * k) g) 0 0 (F 4 2 - 1) (F 11 2 - 1)) ∧ F (78 + 2 * k) 1 = G' 61 k) ∧
  (F 44 2 = F' 53 14 ∧ ∀ i w : Int, 0 ≤ i → i < F 44 2 → 0 ≤ w → w < 7 → ct F G i w = mt G' i w) ∧ KZ F F' G'
def KX (F : AF) (G : AG) (F' : AF) (G' : AG) : Prop := G 47 = G' 72 ∧ F 46 1 = F' 53 34 ∧ F 46 10 = F' 53 37 ∧ F 46 11 = F' 53 38 ∧ F 1 6 = F' 53 39
theorem pl_pc {F : AF} {G : AG} {p q : Nat} {off : Int} (hB : InvB F G) (h : PlE F G p q off) (k : PlB F G q off) (t : ∀ g : Int, 0 ≤ g → g ≤ 2 → aS (mC F G q off g) 0 0 (F 53 1 - 1) (F 53 2 - 1) ≤ 3000000000000000000) : PC F G p := by
  have s4 : Sq (G 5) (F 4 1) (F 4 2) := sq_co hB.1.1
  have s11 : Sq (G 12) (F 11 1) (F 11 2) := sq_co hB.1.2.1
  refine ⟨fun x y x0 x1 y0 y1 => ?_, fun g g0 g1 => ?_⟩
  · have bx := bl_spec s4 x0 x1
    have by' := bl_spec s11 y0 y1
    obtain ⟨a1, a2, a3⟩ := ple_at h bx.1 bx.2.1 by'.1 by'.2.1
    obtain ⟨b1, b2, b3, b4⟩ := k _ _ bx.1 bx.2.1 by'.1 by'.2.1
    have e0 : vC F G p 0 x y = G p (48 * blk (G 12) (F 11 1) y + blk (G 5) (F 4 1) x) := by
      simp only [vC, cv]
      congr 1
      omega
    have e1 : vC F G p 1 x y = G p (2304 + 48 * blk (G 12) (F 11 1) y + blk (G 5) (F 4 1) x) := by
      simp only [vC, cv]
      congr 1
    have e2 : vC F G p 2 x y = G p (4608 + 48 * blk (G 12) (F 11 1) y + blk (G 5) (F 4 1) x) := by
      simp only [vC, cv]
      congr 1
    rw [e0, e1, e2, a1, a2, a3]
    exact ⟨b1, b2, b3, b4⟩
  · have e : aS (vC F G p g) 0 0 (F 4 2 - 1) (F 11 2 - 1) = aS (mC F G q off g) 0 0 (F 53 1 - 1) (F 53 2 - 1) := by
      rw [← hB.2.2.1, ← hB.2.2.2.1]
      exact aS_congr (fun x y x0 x1 y0 y1 => inv_vC hB h g0 g1 x0 (by omega) y0 (by omega))
    rw [e]
    exact t g g0 g1
theorem sum_w {F : AF} {G : AG} {p q : Nat} {off g : Int} (hB : InvB F G) (h : PlE F G p q off) (g0 : 0 ≤ g) (g1 : g ≤ 2) : aS (vC F G p g) 0 0 (F 4 2 - 1) (F 11 2 - 1) = aS (mC F G q off g) 0 0 (F 53 1 - 1) (F 53 2 - 1) := by
  rw [← hB.2.2.1, ← hB.2.2.2.1]
  exact aS_congr (fun x y x0 x1 y0 y1 => inv_vC hB h g0 g1 x0 (by omega) y0 (by omega))
theorem inv_ci {S : AS} {F : AF} {G : AG} {b : Int} (h : Inv S F G b) : CI S F G b ∧ KK F G F G ∧ KX F G F G := by
  obtain ⟨hA, hB, ⟨L1, L2, L3⟩, ⟨P1, P2, P3, P4, P5, P6⟩, ⟨O1, O2, O3, O4, O5, O6⟩, ⟨T1, T2, T3⟩, ⟨Z1, Z2⟩, ⟨X1, X2, X3, X4, X5, X6, X7⟩⟩ := h
  obtain ⟨B1, B2, B3, B4, B5, B6, B7, B8⟩ := id hB
  have l0 := L3 0 (by omega) (by omega)
  have l1 := L3 1 (by omega) (by omega)
  refine ⟨⟨hA, B1, by omega, by omega, pl_pc hB P4 P5 (fun g g0 g1 => ?_), fun k hk => ?_, ⟨?_, O6⟩, T1, Z1, X3, X4⟩, ⟨⟨B2, B3, B4, fun q => ?_, fun q => ?_⟩, ⟨L1, L2⟩, ⟨P1, O1⟩, fun g x y g0 g1 x0 x1 y0 y1 => inv_vC hB P4 g0 g1 x0 x1 y0 y1, fun g g0 g1 => ?_, fun k hk => ?_, ⟨T2, T3⟩, Z2⟩, X1, X2, X5, X6, X7⟩
  · rw [← (P6 g g0 g1).1]
    exact (P6 g g0 g1).2
  · obtain ⟨o1, o2, o3, o4, o5⟩ := O4 k hk
    exact ⟨pl_pc hB o1 o2 (fun g g0 g1 => by rw [← (o3 g g0 g1).1]; exact (o3 g g0 g1).2), by omega⟩
  · have e : sI (fun k => F (78 + 2 * k.toNat) 1) (F 2 8) = sI (G 61) (F 2 8) := by
      refine sI_congr (fun i i0 i1 => ?_)
      have := (O4 i.toNat (by omega)).2.2.2.1
      rw [this, Int.toNat_of_nonneg i0]
    rw [e]
    exact O5
  · constructor
    · rintro ⟨i, i0, i1, e⟩
      exact ⟨i, i0, by omega, by rw [← B7 i i0 (by omega)]; exact e⟩
    · rintro ⟨i, i0, i1, e⟩
      exact ⟨i, i0, by omega, (B7 i i0 (by omega)).trans e⟩
  · constructor
    · rintro ⟨i, i0, i1, e⟩
      exact ⟨i, i0, by omega, by rw [← B8 i i0 (by omega)]; exact e⟩
    · rintro ⟨i, i0, i1, e⟩
      exact ⟨i, i0, by omega, (B8 i i0 (by omega)).trans e⟩
  · rw [(P6 g g0 g1).1, sum_w hB P4 g0 g1]
  · obtain ⟨o1, o2, o3, o4, o5⟩ := O4 k hk
    exact ⟨fun g x y g0 g1 x0 x1 y0 y1 => inv_vC hB o1 g0 g1 x0 x1 y0 y1, fun g g0 g1 => by rw [(o3 g g0 g1).1, sum_w hB o1 g0 g1], o4⟩
/-- the rows of borders are one and the same -/
theorem kk_seq {F F' : AF} {G G' : AG} (hc : CC F G) (h : KK F G F' G') : (F 4 1 = G' 55 0 ∧ ∀ i : Int, 0 ≤ i → i ≤ F 4 1 → G 5 i = me F' G' 0 i) ∧ F 11 1 = G' 55 1 ∧ ∀ i : Int, 0 ≤ i → i ≤ F 11 1 → G 12 i = me F' G' 1 i := by
  obtain ⟨⟨k1, k2, k3, k4, k5⟩, -⟩ := h
  have s4 : Sq (G 5) (F 4 1) (F 4 2) := sq_co hc.1
  have s11 : Sq (G 12) (F 11 1) (F 11 2) := sq_co hc.2.1
  exact ⟨sq_uniq s4 (by rw [k2]; exact sq_x k1) k4, sq_uniq s11 (by rw [k3]; exact sq_y k1) k5⟩
theorem pc_fld {F : AF} {G : AG} {p : Nat} (hc : CC F G) (g : Int) {i j : Int} (i0 : 0 ≤ i) (i1 : i < F 4 1) (j0 : 0 ≤ j) (j1 : j < F 11 1) : G p (2304 * g + 48 * j + i) = vC F G p g (G 5 i) (G 12 j) ∧ 0 ≤ G 5 i ∧ G 5 i < F 4 2 ∧ 0 ≤ G 12 j ∧ G 12 j < F 11 2 := by
  have s4 : Sq (G 5) (F 4 1) (F 4 2) := sq_co hc.1
  have s11 : Sq (G 12) (F 11 1) (F 11 2) := sq_co hc.2.1
  have c4 := co_lt hc.1 i0 i1
  have c11 := co_lt hc.2.1 j0 j1
  exact ⟨cv_at s4 s11 (u := fun i j => G p (2304 * g + 48 * j + i)) i0 i1 j0 j1, c4.1, c4.2, c11.1, c11.2⟩
theorem pc_ple {F F' : AF} {G G' : AG} (hc : CC F G) (h : KK F G F' G') {p q : Nat} {off : Int} (e : ∀ g x y : Int, 0 ≤ g → g ≤ 2 → 0 ≤ x → x < F 4 2 → 0 ≤ y → y < F 11 2 → vC F G p g x y = mC F' G' q off g x y) {g i j : Int} (g0 : 0 ≤ g) (g1 : g ≤ 2) (i0 : 0 ≤ i) (i1 : i < F 4 1) (j0 : 0 ≤ j) (j1 : j < F 11 1) : G p (2304 * g + 48 * j + i) = G' q (off + 2304 * g + 48 * j + i) := by
  obtain ⟨⟨n4, e4⟩, n11, e11⟩ := kk_seq hc h
  obtain ⟨f1, f2, f3, f4, f5⟩ := pc_fld (p := p) hc g i0 i1 j0 j1
  rw [f1, e g _ _ g0 g1 f2 f3 f4 f5, e4 i i0 (by omega), e11 j j0 (by omega)]
  unfold mC
  exact (cv_at (sq_x h.1.1) (sq_y h.1.1) (u := fun i j => G' q (off + 2304 * g + 48 * j + i)) i0 (by omega) j0 (by omega)).symm
theorem pc_in {F : AF} {G : AG} {p : Nat} (hc : CC F G) (h : PC F G p) {i j : Int} (i0 : 0 ≤ i) (i1 : i < F 4 1) (j0 : 0 ≤ j) (j1 : j < F 11 1) : 0 ≤ G p (48 * j + i) ∧ 0 ≤ G p (2304 + 48 * j + i) ∧ 0 ≤ G p (4608 + 48 * j + i) ∧ G p (48 * j + i) + G p (2304 + 48 * j + i) + G p (4608 + 48 * j + i) ≤ F 2 7 := by
  obtain ⟨f1, f2, f3, f4, f5⟩ := pc_fld (p := p) hc 0 i0 i1 j0 j1
  have f6 := (pc_fld (p := p) hc 1 i0 i1 j0 j1).1
  have f7 := (pc_fld (p := p) hc 2 i0 i1 j0 j1).1
  have e0 : 2304 * (0 : Int) + 48 * j + i = 48 * j + i := by omega
  have e1 : 2304 * (1 : Int) + 48 * j + i = 2304 + 48 * j + i := by omega
  have e2 : 2304 * (2 : Int) + 48 * j + i = 4608 + 48 * j + i := by omega
  rw [e0] at f1
  rw [e1] at f6
  rw [e2] at f7
  rw [f1, f6, f7]
  exact h.1 _ _ f2 f3 f4 f5
theorem pc_pba {F : AF} {G : AG} {p : Nat} (hc : CC F G) (h : PC F G p) (c : F 2 7 ≤ 1000000000000) : PBA F G p := by
  intro i j i0 i1 j0 j1
  obtain ⟨a, b, d, e⟩ := pc_in hc h i0 i1 j0 j1
  exact ⟨a, b, d, by omega⟩
theorem pc_ct {F : AF} {G : AG} {p : Nat} (hc : CC F G) (h : PC F G p) : CT F G p := by
  intro g g0 g1
  rw [csum_aS hc p g (by omega) (by omega) (by omega) (by omega)]
  have e : aS (vu F G p g) 0 0 (F 4 2 - 1) (F 11 2 - 1) = aS (vC F G p g) 0 0 (F 4 2 - 1) (F 11 2 - 1) := aS_congr (fun x y _ _ _ _ => vu_g g0)
  rw [e]
  exact h.2 g g0 g1
theorem ci_inv {S : AS} {F : AF} {G : AG} {b : Int} (h : CI S F G b) (k : KK F G F G) (kx : KX F G F G) : Inv S F G b := by
  obtain ⟨hA, hc, hl, hcap, h18, hs, hb, hT, hZ, hX⟩ := h
  obtain ⟨⟨n4, e4⟩, n11, e11⟩ := kk_seq hc k
  have pe := fun {p q : Nat} {off : Int} e => @pc_ple F F G G hc k p q off e
  obtain ⟨⟨k1, k2, k3, k4, k5⟩, ⟨k6, k7⟩, ⟨k8, k9⟩, k10, k11, k12, ⟨k13, k14⟩, k15⟩ := id k
  have hB : InvB F G := ⟨hc, k1, k2, k3, n4, n11, e4, e11⟩
  have plb : ∀ (p q : Nat) (off : Int), PlE F G p q off → PC F G p → PlB F G q off := by
    intro p q off e c i j i0 i1 j0 j1
    obtain ⟨a1, a2, a3⟩ := ple_at e i0 i1 j0 j1
    have := pc_in hc c i0 i1 j0 j1
    rw [a1, a2, a3] at this
    exact this
  have p18 : PlE F G 18 57 0 := fun g i j g0 g1 i0 i1 j0 j1 => pe k10 g0 g1 i0 i1 j0 j1
  obtain ⟨x1, x2, x3, x4, x5⟩ := kx
  refine ⟨hA, hB, ⟨k6, k7, fun a a0 a1 => ?_⟩, ⟨k8, hcap.1, hcap.2.1, p18, plb _ _ _ p18 h18, fun g g0 g1 => ⟨?_, ?_⟩⟩, ⟨k9, hcap.2.2.1, hcap.2.2.2, fun k hk => ?_, ?_, hb.2⟩, ⟨hT, k13, k14⟩, ⟨hZ, k15⟩, x1, x2, hX.1, hX.2, x3, x4, x5⟩
  · have : a = 0 ∨ a = 1 := by omega
    rcases this with e | e
    · subst e
      omega
    · subst e
      omega
  · rw [k11 g g0 g1, sum_w hB p18 g0 g1]
  · rw [k11 g g0 g1]
    exact h18.2 g g0 g1
  · obtain ⟨y1, y2, y3⟩ := k12 k hk
    have pk : PlE F G (79 + 2 * k) 58 (6912 * k) := fun g i j g0 g1 i0 i1 j0 j1 => pe y1 g0 g1 i0 i1 j0 j1
    refine ⟨pk, plb _ _ _ pk (hs k hk).1, fun g g0 g1 => ⟨?_, ?_⟩, y3, ?_⟩
    · rw [y2 g g0 g1, sum_w hB pk g0 g1]
    · rw [y2 g g0 g1]
      exact (hs k hk).1.2 g g0 g1
    · have := (hs k hk).2
      omega
  · have e : sI (fun k => F (78 + 2 * k.toNat) 1) (F 2 8) = sI (G 61) (F 2 8) := by
      refine sI_congr (fun i i0 i1 => ?_)
      have := (k12 i.toNat (by omega)).2.2
      rw [this, Int.toNat_of_nonneg i0]
    rw [← e]
    exact hb.1
end
