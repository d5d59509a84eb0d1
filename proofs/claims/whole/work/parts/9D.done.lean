section
/-! AN ACT THAT IS DONE: THE SYSTEM ALONE, THEN BOTH -/
theorem sI_up {f : Int → Int} (h : ∀ i : Int, f i ≤ 1) {a : Int} (a0 : 0 ≤ a) : ∀ k : Nat, sI f (a + k) ≤ sI f a + k := by
  intro k
  induction k with
  | zero => simp
  | succ n ih =>
    have e : a + ((n + 1 : Nat) : Int) = (a + n) + 1 := by omega
    rw [e, sI_1 f (by omega)]
    have := h (a + n)
    omega
theorem sI_upi {f : Int → Int} (h : ∀ i : Int, f i ≤ 1) {a c : Int} (a0 : 0 ≤ a) (ac : a ≤ c) : sI f c ≤ sI f a + (c - a) := by
  have := sI_up h a0 (c - a).toNat
  have e : a + ((c - a).toNat : Int) = c := by omega
  rw [e] at this
  omega
theorem nw_count {e e' : Int → Int} {n n' w : Int} (s : Sq e n w) (s' : Sq e' n' w) (b : Sub e e' n n') (top : Int) : sI (fun i => nw e n top (e' i)) n' ≤ n' - n := by
  have f1 : ∀ i : Int, (fun i => nw e n top (e' i)) i ≤ 1 := fun i => (nw_in e n top (e' i)).2
  have main : ∀ j : Nat, (j : Int) < n → ∀ m : Int, 0 ≤ m → m < n' → e' m = e j → sI (fun i => nw e n top (e' i)) (m + 1) ≤ m - j := by
    intro j
    induction j with
    | zero =>
      intro j1 m m0 m1 em
      have : m = 0 := sq_inj s' m0 (by omega) (by omega) (by have := s'.1; omega) (by rw [em]; exact s.2.1.trans s'.2.1.symm)
      subst this
      rw [sI_1 _ (by omega), sI_0 _ (by omega)]
      have : nw e n top (e' 0) = 0 := nw_0 (Or.inl ⟨0, by omega, by omega, em.symm⟩)
      simp only [this]
      omega
    | succ j ih =>
      intro j1 m m0 m1 em
      obtain ⟨m', m0', m1', em'⟩ := b (e j) ⟨j, by omega, by omega, rfl⟩
      have ihm := ih (by omega) m' m0' m1' em'
      have lt : m' < m := sq_lt s' m0' (by omega) m0 (by omega) (by rw [em', em]; exact rise_lt s.2.2.2 (by omega) (by omega) (by omega))
      rw [sI_1 _ m0]
      have z : nw e n top (e' m) = 0 := nw_0 (Or.inl ⟨((j + 1 : Nat) : Int), by omega, j1, em.symm⟩)
      have u := sI_upi f1 (a := m' + 1) (c := m) (by omega) (by omega)
      simp only [z]
      omega
  have n1 := s.1
  obtain ⟨m, m0, m1, em⟩ := b (e (n - 1)) ⟨n - 1, by omega, by omega, rfl⟩
  have := main (n - 1).toNat (by omega) m m0 m1 (by rw [em]; congr 1; omega)
  have u := sI_upi f1 (a := m + 1) (c := n') (by omega) (by omega)
  omega
theorem ci_done {S : AS} {F F1 : AF} {G G1 : AG} {b g : Int} {T : Int → Int → Int} {PX PY : Int → Prop} {v : Int → Int} (h : CI S F G b) (sd : SDn F F1 G G1 g T PX PY v) (g0 : 0 ≤ g) (g1 : g ≤ 2) (hT : ∀ x y : Int, 0 ≤ x → x < F 4 2 → 0 ≤ y → y < F 11 2 → 0 ≤ T x y ∧ vu F G 18 (-1) x y - vu F G 18 g x y + T x y ≤ F 2 7) (hTT : aS T 0 0 (F 4 2 - 1) (F 11 2 - 1) ≤ 3000000000000000000) : CI S F1 G1 (b + 1) := by
  obtain ⟨hA, hc, hl, hcap, h18, hs, hb, hTd, hZ, hX⟩ := h
  obtain ⟨d1, d2, ⟨dc, dw, dh⟩, d4, d5, d6, d7, d8, d9, d10, d11, d12⟩ := sd
  have e2 : F1 2 = F 2 := d1 2 (by decide) (by decide) (by decide) (by decide) (by decide) (by decide) (by decide) (by decide) (by decide) (by decide) (by decide) (by decide)
  have e46 : F1 46 = F 46 := d1 46 (by decide) (by decide) (by decide) (by decide) (by decide) (by decide) (by decide) (by decide) (by decide) (by decide) (by decide) (by decide)
  have s4 : Sq (G 5) (F 4 1) (F 4 2) := sq_co hc.1
  have s11 : Sq (G 12) (F 11 1) (F 11 2) := sq_co hc.2.1
  have s4' : Sq (G1 5) (F1 4 1) (F 4 2) := by rw [← dw]; exact sq_co dc.1
  have s11' : Sq (G1 12) (F1 11 1) (F 11 2) := by rw [← dh]; exact sq_co dc.2.1
  have c4 := nw_count s4 s4' (fun q hq => (d4 q).mpr (Or.inl hq)) (G 5 (F 4 1 - 1))
  have c11 := nw_count s11 s11' (fun q hq => (d5 q).mpr (Or.inl hq)) (G 12 (F 11 1 - 1))
  have p4 : 0 ≤ sI (fun i => nw (G 5) (F 4 1) (G 5 (F 4 1 - 1)) (G1 5 i)) (F1 4 1) := sI_pos (fun i _ _ => (nw_in _ _ _ _).1)
  have p11 : 0 ≤ sI (fun i => nw (G 12) (F 11 1) (G 12 (F 11 1 - 1)) (G1 12 i)) (F1 11 1) := sI_pos (fun i _ _ => (nw_in _ _ _ _).1)
  refine ⟨by unfold CA; rw [e2]; exact hA, dc, ⟨by omega, by omega, by omega, by omega⟩, by rw [e2]; exact hcap, ⟨fun x y x0 x1 y0 y1 => ?_, fun g' g0' g1' => ?_⟩, fun k hk => ⟨⟨fun x y x0 x1 y0 y1 => ?_, fun g' g0' g1' => ?_⟩, ?_⟩, ⟨?_, by omega⟩, d11, fun z z0 z1 => ?_, by rw [e46]; exact hX.1, by rw [e46]; exact hX.2⟩
  · rw [dw] at x1
    rw [dh] at y1
    have a := d8 0 x y (by omega) (by omega) x0 x1 y0 y1
    have b' := d8 1 x y (by omega) (by omega) x0 x1 y0 y1
    have c := d8 2 x y (by omega) (by omega) x0 x1 y0 y1
    have o := h18.1 x y x0 x1 y0 y1
    obtain ⟨t1, t2⟩ := hT x y x0 x1 y0 y1
    rw [vu_all, vu_g (by omega), vu_g (by omega), vu_g (by omega), vu_g g0] at t2
    rw [a, b', c, e2]
    have : g = 0 ∨ g = 1 ∨ g = 2 := by omega
    rcases this with e | e | e
    · subst e
      simp only [if_pos, if_neg, reduceCtorEq]
      rw [if_neg (by decide), if_neg (by decide)]
      omega
    · subst e
      rw [if_neg (by decide), if_pos rfl, if_neg (by decide)]
      omega
    · subst e
      rw [if_neg (by decide), if_neg (by decide), if_pos rfl]
      omega
  · rw [dw, dh]
    by_cases e : g' = g
    · have q : aS (vC F1 G1 18 g') 0 0 (F 4 2 - 1) (F 11 2 - 1) = aS T 0 0 (F 4 2 - 1) (F 11 2 - 1) := aS_congr (fun x y x0 x1 y0 y1 => by rw [d8 g' x y g0' g1' x0 (by omega) y0 (by omega), if_pos e])
      rw [q]
      exact hTT
    · have q : aS (vC F1 G1 18 g') 0 0 (F 4 2 - 1) (F 11 2 - 1) = aS (vC F G 18 g') 0 0 (F 4 2 - 1) (F 11 2 - 1) := aS_congr (fun x y x0 x1 y0 y1 => by rw [d8 g' x y g0' g1' x0 (by omega) y0 (by omega), if_neg e])
      rw [q]
      exact h18.2 g' g0' g1'
  · rw [e2] at hk
    rw [dw] at x1
    rw [dh] at y1
    rw [d9 k 0 x y hk (by omega) (by omega) x0 x1 y0 y1, d9 k 1 x y hk (by omega) (by omega) x0 x1 y0 y1, d9 k 2 x y hk (by omega) (by omega) x0 x1 y0 y1, e2]
    exact (hs k hk).1.1 x y x0 x1 y0 y1
  · rw [e2] at hk
    have q : aS (vC F1 G1 (79 + 2 * k) g') 0 0 (F 4 2 - 1) (F 11 2 - 1) = aS (vC F G (79 + 2 * k) g') 0 0 (F 4 2 - 1) (F 11 2 - 1) := aS_congr (fun x y x0 x1 y0 y1 => d9 k g' x y hk g0' g1' x0 (by omega) y0 (by omega))
    rw [dw, dh, q]
    exact (hs k hk).1.2 g' g0' g1'
  · rw [e2] at hk
    have := (hs k hk).2
    rw [d10 k hk]
    split <;> omega
  · rw [e2]
    by_cases o : F 2 8 = 0
    · rw [sI_0 _ (by omega)]
      omega
    · have n1 : F 2 8 = (F 2 8 - 1) + 1 := by omega
      have o1 := hb.1
      rw [n1, sI_1 _ (by omega)] at o1 ⊢
      have q : sI (fun k : Int => F1 (78 + 2 * k.toNat) 1) (F 2 8 - 1) = sI (fun k : Int => F (78 + 2 * k.toNat) 1) (F 2 8 - 1) := sI_congr (fun i i0 i1 => by
        rw [d10 i.toNat (by omega), if_neg (by omega)]
        omega)
      have q2 := d10 (F 2 8 - 1).toNat (by omega)
      rw [if_pos (by omega)] at q2
      rw [q, q2]
      omega
  · have ez : ∀ c : Nat, 22 ≤ c → c ≤ 33 → F1 c = F c := fun c c0 c1 => d1 c (by omega) (by omega) (by omega) (by omega) (by omega) (by omega) (by omega) (by omega) (by omega) (by omega) (by omega) (by omega)
    have := hZ z z0 z1
    have q1 := ez (22 + 2 * z.toNat) (by omega) (by omega)
    have q2 := ez (22 + 2 * z.toNat + 1) (by omega) (by omega)
    unfold RO RG1 at *
    rw [q1, q2, dw, dh]
    exact this
/-- the same of the reference -/
def RDn (F F2 : AF) (G G2 : AG) (g : Int) (T : Int → Int → Int) (PX PY : Int → Prop) (v : Int → Int) (al : Int) : Prop :=
  (∀ c : Nat, c ≠ 53 → F2 c = F c) ∧ (∀ k : Nat, k ≠ 0 → k ≠ 14 → (k < 20 ∨ 27 < k) → k ≠ 32 → F2 53 k = F 53 k) ∧
  (∀ c : Nat, (c < 54 ∨ 59 < c) → c ≠ 61 → c ≠ 62 → (c < 66 ∨ 71 < c) → G2 c = G c) ∧ MX F2 G2 ∧
  (∀ q : Int, isB (me F2 G2 0) (G2 55 0) q ↔ (isB (me F G 0) (G 55 0) q ∨ (PX q ∧ 0 < q ∧ q < F 53 1))) ∧ (∀ q : Int, isB (me F2 G2 1) (G2 55 1) q ↔ (isB (me F G 1) (G 55 1) q ∨ (PY q ∧ 0 < q ∧ q < F 53 2))) ∧
  (∀ a : Int, 0 ≤ a → a ≤ 1 → G2 56 a = G 56 a + sI (fun i => nw (me F G a) (G 55 a) (me F G a (G 55 a - 1)) (me F2 G2 a i)) (G2 55 a)) ∧
  (∀ g' x y : Int, 0 ≤ g' → g' ≤ 2 → 0 ≤ x → x < F 53 1 → 0 ≤ y → y < F 53 2 → mC F2 G2 57 0 g' x y = if g' = g then T x y else mC F G 57 0 g' x y) ∧
  (∀ (k : Nat) (g' x y : Int), (k : Int) < F 53 11 → 0 ≤ g' → g' ≤ 2 → 0 ≤ x → x < F 53 1 → 0 ≤ y → y < F 53 2 → mC F2 G2 58 (6912 * k) g' x y = mC F G 58 (6912 * k) g' x y) ∧
  (∀ g' : Int, 0 ≤ g' → g' ≤ 2 → G2 59 g' = if g' = g then al else G 59 g') ∧
  (∀ k : Int, 0 ≤ k → G2 61 k = G 61 k + (if k = F 53 11 - 1 then 1 else 0)) ∧ Tld (F 53 14) (F2 53 14) (mt G) (mt G2) v
theorem nw_cg {e e' : Int → Int} {n n' t t' q : Int} (h : isB e n q ↔ isB e' n' q) (ht : t = t') : nw e n t q = nw e' n' t' q := by
  subst ht
  by_cases c : ¬ isB e n q ∧ q < t
  · rw [nw_1 c.1 c.2, nw_1 (fun z => c.1 (h.mpr z)) c.2]
  · have c1 : isB e n q ∨ ¬ q < t := Classical.byContradiction (fun z => c ⟨fun y => z (Or.inl y), Classical.byContradiction (fun y => z (Or.inr y))⟩)
    rw [nw_0 c1, nw_0 (c1.imp h.mp id)]
theorem kk_done {F F1 Fr F2 : AF} {G G1 Gr G2 : AG} {g al : Int} {T T' : Int → Int → Int} {PX PY PX' PY' : Int → Prop} {v : Int → Int} (hc : CC F G) (k : KK F G Fr Gr) (sd : SDn F F1 G G1 g T PX PY v) (rd : RDn Fr F2 Gr G2 g T' PX' PY' v al) (g0 : 0 ≤ g) (g1 : g ≤ 2) (hT : ∀ x y : Int, 0 ≤ x → x < F 4 2 → 0 ≤ y → y < F 11 2 → T x y = T' x y) (hX : ∀ q : Int, 0 < q → q < F 4 2 → (PX q ↔ PX' q)) (hY : ∀ q : Int, 0 < q → q < F 11 2 → (PY q ↔ PY' q)) (hal : al = aS T 0 0 (F 4 2 - 1) (F 11 2 - 1)) : KK F1 G1 F2 G2 := by
  obtain ⟨⟨n4, e4⟩, n11, e11⟩ := kk_seq hc k
  obtain ⟨⟨k1, k2, k3, k4, k5⟩, ⟨k6, k7⟩, ⟨k8, k9⟩, k10, k11, k12, ⟨k13, k14⟩, k15⟩ := id k
  obtain ⟨d1, d2, ⟨dc, dw, dh⟩, d4, d5, d6, d7, d8, d9, d10, d11, d12⟩ := sd
  obtain ⟨r1, r2, r3, r4, r5, r5', r6, r7, r8, r9, r10, r11⟩ := rd
  have e2 : F1 2 = F 2 := d1 2 (by decide) (by decide) (by decide) (by decide) (by decide) (by decide) (by decide) (by decide) (by decide) (by decide) (by decide) (by decide)
  have f1 : F2 53 1 = Fr 53 1 := r2 1 (by decide) (by decide) (by decide) (by decide)
  have f2 : F2 53 2 = Fr 53 2 := r2 2 (by decide) (by decide) (by decide) (by decide)
  have f3 : F2 53 3 = Fr 53 3 := r2 3 (by decide) (by decide) (by decide) (by decide)
  have f11 : F2 53 11 = Fr 53 11 := r2 11 (by decide) (by decide) (by decide) (by decide)
  have q4 : ∀ q : Int, isC F1 G1 4 q ↔ isB (me F2 G2 0) (G2 55 0) q := by
    intro q
    rw [d4 q, r5 q, k4 q, ← k2]
    refine ⟨fun z => z.imp id (fun y => ⟨(hX q y.2.1 y.2.2).mp y.1, y.2⟩), fun z => z.imp id (fun y => ⟨(hX q y.2.1 y.2.2).mpr y.1, y.2⟩)⟩
  have q11 : ∀ q : Int, isC F1 G1 11 q ↔ isB (me F2 G2 1) (G2 55 1) q := by
    intro q
    rw [d5 q, r5' q, k5 q, ← k3]
    refine ⟨fun z => z.imp id (fun y => ⟨(hY q y.2.1 y.2.2).mp y.1, y.2⟩), fun z => z.imp id (fun y => ⟨(hY q y.2.1 y.2.2).mpr y.1, y.2⟩)⟩
  have s4' : Sq (G1 5) (F1 4 1) (F1 4 2) := sq_co dc.1
  have s11' : Sq (G1 12) (F1 11 1) (F1 11 2) := sq_co dc.2.1
  obtain ⟨m4, u4⟩ := sq_uniq s4' (by rw [dw, k2, ← f1]; exact sq_x r4) q4
  obtain ⟨m11, u11⟩ := sq_uniq s11' (by rw [dh, k3, ← f2]; exact sq_y r4) q11
  have b4 := hc.1.1
  have b11 := hc.2.1.1
  refine ⟨⟨r4, by rw [dw, f1]; exact k2, by rw [dh, f2]; exact k3, q4, q11⟩, ⟨?_, ?_⟩, ⟨by rw [e2, f3]; exact k8, by rw [e2, f11]; exact k9⟩, fun g' x y g0' g1' x0 x1 y0 y1 => ?_, fun g' g0' g1' => ?_, fun j hj => ⟨fun g' x y g0' g1' x0 x1 y0 y1 => ?_, fun g' g0' g1' => ?_, ?_⟩, ?_, fun z z0 z1 => ?_⟩
  · rw [d6, r6 0 (by omega) (by omega), k6, m4]
    congr 1
    refine sI_congr (fun i i0 i1 => ?_)
    rw [u4 i i0 (by omega)]
    exact nw_cg (k4 _) (by rw [e4 _ (by omega) (by omega), n4])
  · rw [d7, r6 1 (by omega) (by omega), k7, m11]
    congr 1
    refine sI_congr (fun i i0 i1 => ?_)
    rw [u11 i i0 (by omega)]
    exact nw_cg (k5 _) (by rw [e11 _ (by omega) (by omega), n11])
  · rw [dw] at x1
    rw [dh] at y1
    rw [d8 g' x y g0' g1' x0 x1 y0 y1, r7 g' x y g0' g1' x0 (by omega) y0 (by omega), hT x y x0 x1 y0 y1, k10 g' x y g0' g1' x0 x1 y0 y1]
  · rw [r9 g' g0' g1', dw, dh]
    by_cases e : g' = g
    · rw [if_pos e, hal]
      exact aS_congr (fun x y x0 x1 y0 y1 => by rw [d8 g' x y g0' g1' x0 (by omega) y0 (by omega), if_pos e])
    · rw [if_neg e, k11 g' g0' g1']
      exact aS_congr (fun x y x0 x1 y0 y1 => by rw [d8 g' x y g0' g1' x0 (by omega) y0 (by omega), if_neg e])
  · rw [e2] at hj
    rw [dw] at x1
    rw [dh] at y1
    rw [d9 j g' x y hj g0' g1' x0 x1 y0 y1, r8 j g' x y (by omega) g0' g1' x0 (by omega) y0 (by omega)]
    exact (k12 j hj).1 g' x y g0' g1' x0 x1 y0 y1
  · rw [e2] at hj
    rw [r3 60 (by decide) (by decide) (by decide) (by decide), (k12 j hj).2.1 g' g0' g1', dw, dh]
    exact aS_congr (fun x y x0 x1 y0 y1 => (d9 j g' x y hj g0' g1' x0 (by omega) y0 (by omega)).symm)
  · rw [e2] at hj
    rw [d10 j hj, r10 j (by omega), (k12 j hj).2.2, k9]
  · have d12' := d12
    rw [k13] at d12'
    exact tld_eq d12' r11 (fun i w i0 i1 w0 w1 => k14 i w i0 (by omega) w0 w1)
  · have ez : ∀ c : Nat, 22 ≤ c → c ≤ 33 → F1 c = F c := fun c c0 c1 => d1 c (by omega) (by omega) (by omega) (by omega) (by omega) (by omega) (by omega) (by omega) (by omega) (by omega) (by omega) (by omega)
    rw [ez (22 + 2 * z.toNat) (by omega) (by omega), ez (22 + 2 * z.toNat + 1) (by omega) (by omega), r3 63 (by decide) (by decide) (by decide) (by decide), r3 64 (by decide) (by decide) (by decide) (by decide), r3 65 (by decide) (by decide) (by decide) (by decide)]
    exact k15 z z0 z1
end
