section
/-! WHAT AN ACT DOES TO THE SYSTEM -/
theorem ci_cg {S : AS} {F F' : AF} {G G' : AG} {b : Int} (h : CI S F G b) (e2 : F' 2 = F 2) (e3 : F' 3 = F 3) (e4 : F' 4 = F 4) (e10 : F' 10 = F 10) (e11 : F' 11 = F 11) (e17 : F' 17 = F 17) (e44 : F' 44 = F 44) (ez : ∀ c : Nat, 22 ≤ c → c ≤ 33 → F' c = F c) (g5 : G' 5 = G 5) (g12 : G' 12 = G 12) (g18 : G' 18 = G 18) (es : ∀ k : Nat, F' (78 + 2 * k) = F (78 + 2 * k) ∧ G' (79 + 2 * k) = G (79 + 2 * k)) (t0 : 0 ≤ F' 46 1) (t1 : F' 46 1 ≤ 500) : CI S F' G' b := by
  have vc : ∀ p : Nat, G' p = G p → vC F' G' p = vC F G p := by
    intro p e
    funext g x y
    unfold vC cv
    rw [e4, e11, g5, g12, e]
  have pc : ∀ p : Nat, G' p = G p → PC F G p → PC F' G' p := by
    intro p e h
    unfold PC at *
    rw [vc p e, e4, e11, e2]
    exact h
  obtain ⟨hA, hc, hl, hcap, h18, hs, hb, hT, hZ, hX⟩ := h
  refine ⟨by unfold CA; rw [e2]; exact hA, cc_cg e4 e11 e17 g5 g12 hc, by rw [e3, e4, e10, e11]; exact hl, by rw [e2]; exact hcap, pc 18 g18 h18, fun k hk => ?_, ?_, by unfold STd; rw [e44]; exact hT, fun z z0 z1 => ?_, t0, t1⟩
  · rw [e2] at hk
    rw [(es k).1]
    exact ⟨pc _ (es k).2 (hs k hk).1, (hs k hk).2⟩
  · have e : (fun k : Int => F' (78 + 2 * k.toNat) 1) = fun k : Int => F (78 + 2 * k.toNat) 1 := by
      funext k
      rw [(es k.toNat).1]
    rw [e2, e]
    exact hb
  · have := hZ z z0 z1
    have q1 := ez (22 + 2 * z.toNat) (by omega) (by omega)
    have q2 := ez (22 + 2 * z.toNat + 1) (by omega) (by omega)
    unfold RO RG1 at *
    rw [q1, q2, e4, e11]
    exact this
theorem kk_cg {F F' Fr : AF} {G G' Gr : AG} (h : KK F G Fr Gr) (e2 : F' 2 = F 2) (e3 : F' 3 = F 3) (e4 : F' 4 = F 4) (e10 : F' 10 = F 10) (e11 : F' 11 = F 11) (e44 : F' 44 = F 44) (ez : ∀ c : Nat, 22 ≤ c → c ≤ 33 → F' c = F c) (g5 : G' 5 = G 5) (g12 : G' 12 = G 12) (g18 : G' 18 = G 18) (g45 : G' 45 = G 45) (es : ∀ k : Nat, F' (78 + 2 * k) = F (78 + 2 * k) ∧ G' (79 + 2 * k) = G (79 + 2 * k)) : KK F' G' Fr Gr := by
  have vc : ∀ p : Nat, G' p = G p → vC F' G' p = vC F G p := by
    intro p e
    funext g x y
    unfold vC cv
    rw [e4, e11, g5, g12, e]
  obtain ⟨⟨k1, k2, k3, k4, k5⟩, ⟨k6, k7⟩, ⟨k8, k9⟩, k10, k11, k12, ⟨k13, k14⟩, k15⟩ := h
  refine ⟨⟨k1, by rw [e4]; exact k2, by rw [e11]; exact k3, fun q => (isC_cg e4 g5 q).trans (k4 q), fun q => (isC_cg e11 g12 q).trans (k5 q)⟩, ⟨by rw [e3]; exact k6, by rw [e10]; exact k7⟩, ⟨by rw [e2]; exact k8, by rw [e2]; exact k9⟩, by rw [vc 18 g18, e4, e11]; exact k10, by rw [vc 18 g18, e4, e11]; exact k11, fun k hk => ?_, ⟨by rw [e44]; exact k13, by unfold ct; rw [e44, g45]; exact k14⟩, fun z z0 z1 => ?_⟩
  · rw [e2] at hk
    rw [vc _ (es k).2, (es k).1, e4, e11]
    exact k12 k hk
  · have := k15 z z0 z1
    rw [ez (22 + 2 * z.toNat) (by omega) (by omega), ez (22 + 2 * z.toNat + 1) (by omega) (by omega)]
    exact this
theorem kk_cr {F Fr Fr' : AF} {G Gr Gr' : AG} (h : KK F G Fr Gr) (f1 : Fr' 53 1 = Fr 53 1) (f2 : Fr' 53 2 = Fr 53 2) (f3 : Fr' 53 3 = Fr 53 3) (f11 : Fr' 53 11 = Fr 53 11) (f14 : Fr' 53 14 = Fr 53 14) (gg : ∀ c : Nat, 54 ≤ c → c ≤ 65 → Gr' c = Gr c) : KK F G Fr' Gr' := by
  have g54 := gg 54 (by decide) (by decide)
  have g55 := gg 55 (by decide) (by decide)
  have em := fun a => me_cg (F := Fr) (F' := Fr') (G := Gr) (G' := Gr') f1 f2 g54 g55 a
  have mc : ∀ (p : Nat) (off : Int), Gr' p = Gr p → mC Fr' Gr' p off = mC Fr Gr p off := by
    intro p off e
    funext g x y
    unfold mC cv
    rw [em, em, g55, e]
  obtain ⟨⟨k1, k2, k3, k4, k5⟩, ⟨k6, k7⟩, ⟨k8, k9⟩, k10, k11, k12, ⟨k13, k14⟩, k15⟩ := h
  refine ⟨⟨mx_cg f1 f2 g54 g55 k1, by rw [f1]; exact k2, by rw [f2]; exact k3, by rw [em, g55]; exact k4, by rw [em, g55]; exact k5⟩, by rw [gg 56 (by decide) (by decide)]; exact ⟨k6, k7⟩, by rw [f3, f11]; exact ⟨k8, k9⟩, by rw [mc 57 0 (gg 57 (by decide) (by decide))]; exact k10, by rw [gg 59 (by decide) (by decide)]; exact k11, fun k hk => ?_, ⟨by rw [f14]; exact k13, by unfold mt; rw [gg 62 (by decide) (by decide)]; exact k14⟩, ?_⟩
  · rw [mc 58 _ (gg 58 (by decide) (by decide)), gg 60 (by decide) (by decide), gg 61 (by decide) (by decide)]
    exact k12 k hk
  · unfold KZ
    rw [gg 63 (by decide) (by decide), gg 64 (by decide) (by decide), gg 65 (by decide) (by decide)]
    exact k15
/-- the system's cells that are only worked with in acts -/
def SS (F F' : AF) (G G' : AG) : Prop := (∀ c : Nat, c ≠ 6 → c ≠ 13 → c ≠ 34 → c ≠ 35 → c ≠ 51 → c ≠ 52 → F' c = F c) ∧ ∀ c : Nat, c ≠ 7 → c ≠ 8 → c ≠ 9 → c ≠ 14 → c ≠ 15 → c ≠ 16 → c ≠ 19 → (c < 36 ∨ 43 < c) → G' c = G c
theorem ss_rf (F : AF) (G : AG) : SS F F G G := ⟨fun _ _ _ _ _ _ _ => rfl, fun _ _ _ _ _ _ _ _ _ => rfl⟩
theorem ss_tr {F F1 F2 : AF} {G G1 G2 : AG} (h : SS F F1 G G1) (k : SS F1 F2 G1 G2) : SS F F2 G G2 := ⟨fun c a1 a2 a3 a4 a5 a6 => (k.1 c a1 a2 a3 a4 a5 a6).trans (h.1 c a1 a2 a3 a4 a5 a6), fun c a1 a2 a3 a4 a5 a6 a7 a8 => (k.2 c a1 a2 a3 a4 a5 a6 a7 a8).trans (h.2 c a1 a2 a3 a4 a5 a6 a7 a8)⟩
theorem ss_f {F F' : AF} {G G' : AG} (h : SS F F' G G') : (F' 1 = F 1 ∧ F' 2 = F 2 ∧ F' 3 = F 3 ∧ F' 4 = F 4 ∧ F' 10 = F 10 ∧ F' 11 = F 11 ∧ F' 17 = F 17 ∧ F' 44 = F 44 ∧ F' 46 = F 46) ∧ (∀ c : Nat, 22 ≤ c → c ≤ 33 → F' c = F c) ∧ (G' 5 = G 5 ∧ G' 12 = G 12 ∧ G' 18 = G 18 ∧ G' 45 = G 45 ∧ G' 47 = G 47) ∧ ∀ k : Nat, F' (78 + 2 * k) = F (78 + 2 * k) ∧ G' (79 + 2 * k) = G (79 + 2 * k) := by
  obtain ⟨a, b⟩ := h
  refine ⟨⟨a 1 ?_ ?_ ?_ ?_ ?_ ?_, a 2 ?_ ?_ ?_ ?_ ?_ ?_, a 3 ?_ ?_ ?_ ?_ ?_ ?_, a 4 ?_ ?_ ?_ ?_ ?_ ?_, a 10 ?_ ?_ ?_ ?_ ?_ ?_, a 11 ?_ ?_ ?_ ?_ ?_ ?_, a 17 ?_ ?_ ?_ ?_ ?_ ?_, a 44 ?_ ?_ ?_ ?_ ?_ ?_, a 46 ?_ ?_ ?_ ?_ ?_ ?_⟩, fun c c0 c1 => a c ?_ ?_ ?_ ?_ ?_ ?_, ⟨b 5 ?_ ?_ ?_ ?_ ?_ ?_ ?_ ?_, b 12 ?_ ?_ ?_ ?_ ?_ ?_ ?_ ?_, b 18 ?_ ?_ ?_ ?_ ?_ ?_ ?_ ?_, b 45 ?_ ?_ ?_ ?_ ?_ ?_ ?_ ?_, b 47 ?_ ?_ ?_ ?_ ?_ ?_ ?_ ?_⟩, fun k => ⟨a _ ?_ ?_ ?_ ?_ ?_ ?_, b _ ?_ ?_ ?_ ?_ ?_ ?_ ?_ ?_⟩⟩ <;> omega
theorem ss_vC {F F' : AF} {G G' : AG} (h : SS F F' G G') {p : Nat} (e : G' p = G p) : vC F' G' p = vC F G p := by
  obtain ⟨⟨-, -, -, e4, -, e11, -⟩, -, ⟨g5, g12, -⟩, -⟩ := ss_f h
  funext g x y
  unfold vC cv
  rw [e4, e11, g5, g12, e]
theorem ci_ss {S : AS} {F F' : AF} {G G' : AG} {b : Int} (h : CI S F G b) (k : SS F F' G G') : CI S F' G' b := by
  obtain ⟨⟨-, e2, e3, e4, e10, e11, e17, e44, e46⟩, ez, ⟨g5, g12, g18, -⟩, es⟩ := ss_f k
  exact ci_cg h e2 e3 e4 e10 e11 e17 e44 ez g5 g12 g18 es (by rw [e46]; exact h.2.2.2.2.2.2.2.2.2.1) (by rw [e46]; exact h.2.2.2.2.2.2.2.2.2.2)
theorem kk_ss {F F' Fr : AF} {G G' Gr : AG} (h : KK F G Fr Gr) (k : SS F F' G G') : KK F' G' Fr Gr := by
  obtain ⟨⟨-, e2, e3, e4, e10, e11, e17, e44, e46⟩, ez, ⟨g5, g12, g18, g45, -⟩, es⟩ := ss_f k
  exact kk_cg h e2 e3 e4 e10 e11 e44 ez g5 g12 g18 g45 es
def SDn (F F1 : AF) (G G1 : AG) (g : Int) (T : Int → Int → Int) (PX PY : Int → Prop) (v : Int → Int) : Prop :=
  (∀ c : Nat, c < 78 → c ≠ 3 → c ≠ 4 → c ≠ 6 → c ≠ 10 → c ≠ 11 → c ≠ 13 → c ≠ 34 → c ≠ 35 → c ≠ 44 → c ≠ 51 → c ≠ 52 → F1 c = F c) ∧
  (∀ c : Nat, c < 78 → c ≠ 5 → c ≠ 7 → c ≠ 8 → c ≠ 9 → c ≠ 12 → c ≠ 14 → c ≠ 15 → c ≠ 16 → c ≠ 18 → c ≠ 19 → (c < 36 ∨ 43 < c) → c ≠ 45 → G1 c = G c) ∧
  (CC F1 G1 ∧ F1 4 2 = F 4 2 ∧ F1 11 2 = F 11 2) ∧
  (∀ q : Int, isC F1 G1 4 q ↔ (isC F G 4 q ∨ (PX q ∧ 0 < q ∧ q < F 4 2))) ∧ (∀ q : Int, isC F1 G1 11 q ↔ (isC F G 11 q ∨ (PY q ∧ 0 < q ∧ q < F 11 2))) ∧
  F1 3 4 = F 3 4 + sI (fun i => nw (G 5) (F 4 1) (G 5 (F 4 1 - 1)) (G1 5 i)) (F1 4 1) ∧ F1 10 4 = F 10 4 + sI (fun i => nw (G 12) (F 11 1) (G 12 (F 11 1 - 1)) (G1 12 i)) (F1 11 1) ∧
  (∀ g' x y : Int, 0 ≤ g' → g' ≤ 2 → 0 ≤ x → x < F 4 2 → 0 ≤ y → y < F 11 2 → vC F1 G1 18 g' x y = if g' = g then T x y else vC F G 18 g' x y) ∧
  (∀ (k : Nat) (g' x y : Int), (k : Int) < F 2 8 → 0 ≤ g' → g' ≤ 2 → 0 ≤ x → x < F 4 2 → 0 ≤ y → y < F 11 2 → vC F1 G1 (79 + 2 * k) g' x y = vC F G (79 + 2 * k) g' x y) ∧
  (∀ k : Nat, (k : Int) < F 2 8 → F1 (78 + 2 * k) 1 = F (78 + 2 * k) 1 + (if (k : Int) = F 2 8 - 1 then 1 else 0)) ∧
  STd F1 ∧ Tld (F 44 2) (F1 44 2) (ct F G) (ct F1 G1) v
theorem co_new {F F' : AF} {G G' : AG} {o o' : Nat} (h : CO F G o' 48) (e1 : F' o 1 = F o' 1) (e2 : F' o 2 = F o' 2) (eg : ∀ j : Int, 0 ≤ j → j ≤ F o' 1 → G' (o + 1) j = G (o' + 1) j) : CO F' G' o 48 := by
  obtain ⟨a1, a2, a3, a4, a5, a6, a7⟩ := h
  refine ⟨by omega, by omega, by omega, by omega, by rw [eg 0 (by omega) (by omega)]; exact a5, by rw [e1, e2, eg _ (by omega) (by omega)]; exact a6, fun i i0 i1 => ?_⟩
  rw [eg i i0 (by omega), eg (i + 1) (by omega) (by omega)]
  exact a7 i i0 (by omega)
theorem ci_acts {S : AS} {F : AF} {G : AG} {b : Int} (h : CI S F G b) {k : Nat} (hk : (k : Int) < F 2 8) : 0 ≤ F (78 + 2 * k) 1 ∧ F (78 + 2 * k) 1 ≤ b := by
  obtain ⟨hA, hc, hl, hcap, h18, hs, hb, hT, hZ, hX⟩ := h
  refine ⟨(hs k hk).2, ?_⟩
  have := sI_at (f := fun k : Int => F (78 + 2 * k.toNat) 1) (n := F 2 8) (j := (k : Int)) (by omega) hk (fun i i0 i1 => (hs i.toNat (by omega)).2)
  have e : F (78 + 2 * (k : Int).toNat) 1 = F (78 + 2 * k) 1 := by rw [Int.toNat_natCast]
  rw [e] at this
  omega
theorem ci_opn {S : AS} {F : AF} {G : AG} {b : Int} (h : CI S F G b) : Opn S F := by
  obtain ⟨n, h1, h2⟩ := h.1.2.2
  exact opn_shn h1 h.2.2.2.1.2.2.1 h2
theorem ok_keepC {d : Nat} {S : AS} {F0 F : AF} {G0 G : AG} {b : Int} {T : Int → Int → Int} {PX PY : Int → Prop} (hd : 4 ≤ d) (ci : CI S F0 G0 b) (hb : b ≤ 1000000) (ss : SS F0 F G0 G) (h : TS F G T) (hp6 : ∀ q : Int, isC F G 6 q ↔ (isC F0 G0 4 q ∨ (PX q ∧ 0 < q ∧ q < F0 4 2))) (hp13 : ∀ q : Int, isC F G 13 q ↔ (isC F0 G0 11 q ∨ (PY q ∧ 0 < q ∧ q < F0 11 2))) {kd' g am : Int} (g0 : 0 ≤ g) (g1 : g ≤ 2) {Q : AQ} (hq : ∀ F1 G1, SDn F0 F1 G0 G1 g T PX PY (nv kd' g (F 51 0) (F 51 1) (F 51 2) (F 51 3) am) → Q none S F1 G1) : Ok d MX9_keep [vR 1, vI kd', vI g, vJ am] S F G Q := by
  have ci' := ci_ss ci ss
  have hsh := ci.1.1
  obtain ⟨hA, hc, hl, hcap, h18, hs, hb', hT, hZ, hX⟩ := id ci'
  obtain ⟨⟨-, e2, e3, e4, e10, e11, e17, e44, e46⟩, ez, ⟨g5, g12, g18, g45, -⟩, es⟩ := ss_f ss
  have n4 := hc.1.2.1
  have n11 := hc.2.1.2.1
  refine ok_go rfl (by decide) (Nat.le_of_ble_eq_true rfl) (R_X9_keep_0 hsh ?_)
  unfold V_X9_keep_0
  refine ⟨by omega, ok_adopt (by omega) hsh h (ci_opn ci') g0 g1 (by omega) (by omega) (by omega) (by omega) (fun k hk => by have := ci_acts ci' hk; omega) (fun F4 G5 ad => ⟨rfl, rfl, ?_⟩)⟩
  obtain ⟨a1, a2, a3, a4, a5, a6, a7, a8, a9, a10, a11, a12, a13⟩ := ad
  have q44 : F4 44 = F 44 := a1 44 (by decide) (by decide) (by decide) (by decide) (by decide)
  have q51 : F4 51 = F 51 := a1 51 (by decide) (by decide) (by decide) (by decide) (by decide)
  refine ok_sput (by omega) hsh (by unfold STd; rw [q44]; exact hT) (at_51 hsh) (by decide) (fun F8 G9 st => ⟨rfl, rfl, hq F8 G9 ?_⟩)
  obtain ⟨s1, s2, s3, s4⟩ := st
  rw [q51] at s4
  have r4 := s1 4 (by decide)
  have r11 := s1 11 (by decide)
  have r17 : F8 17 = F 17 := (s1 17 (by decide)).trans (a1 17 (by decide) (by decide) (by decide) (by decide) (by decide))
  have h5 := s2 5 (by decide)
  have h12 := s2 12 (by decide)
  have vc1 : ∀ p : Nat, p ≠ 45 → vC F8 G9 p = vC F4 G5 p := by
    intro p hp
    funext g x y
    unfold vC cv
    rw [r4, r11, h5, h12, s2 p hp]
  obtain ⟨t1, t2, t3, t4, t5, -⟩ := id h
  have c4 : CO F8 G9 4 48 := co_new t2 (by rw [r4]; exact a5) (by rw [r4]; exact a6.trans t4.symm) (fun j j0 j1 => by show G9 5 j = G 7 j; rw [h5]; exact a9 j j0 j1)
  have c11 : CO F8 G9 11 48 := co_new t3 (by rw [r11]; exact a7) (by rw [r11]; exact a8.trans t5.symm) (fun j j0 j1 => by show G9 12 j = G 14 j; rw [h12]; exact a10 j j0 j1)
  have w4 : F8 4 2 = F0 4 2 := by rw [r4, a6, e4]
  have w11 : F8 11 2 = F0 11 2 := by rw [r11, a8, e11]
  have m4 : F8 4 1 = F 6 1 := by rw [r4]; exact a5
  have m11 : F8 11 1 = F 13 1 := by rw [r11]; exact a7
  refine ⟨fun c z0 z3 z4 z6 z10 z11 z13 z34 z35 z44 z51 z52 => ?_, fun c z0 z5 z7 z8 z9 z12 z14 z15 z16 z18 z19 zz z45 => ?_, ⟨⟨c4, c11, ?_, ?_, ?_, ?_⟩, w4, w11⟩, fun q => ?_, fun q => ?_, ?_, ?_, fun g' x y g0' g1' x0 x1 y0 y1 => ?_, fun k g' x y hk g0' g1' x0 x1 y0 y1 => ?_, fun k hk => ?_, s3, ?_⟩
  · rw [s1 c z44, a1 c z0 z3 z4 z10 z11, ss.1 c z6 z13 z34 z35 z51 z52]
  · rw [s2 c z45, a2 c z0 z5 z12 z18, ss.2 c z7 z8 z9 z14 z15 z16 z19 zz]
  · rw [r17]; exact hc.2.2.1
  · rw [r17]; exact hc.2.2.2.1
  · rw [r17, w4, ← e4]; exact hc.2.2.2.2.1
  · rw [r17, w11, ← e11]; exact hc.2.2.2.2.2
  · rw [← hp6 q]
    constructor
    · rintro ⟨i, i0, i1, e⟩
      refine ⟨i, i0, by omega, ?_⟩
      rw [← e]
      show G 7 i = G9 5 i
      rw [h5, a9 i i0 (by omega)]
    · rintro ⟨i, i0, i1, e⟩
      refine ⟨i, i0, by omega, ?_⟩
      rw [← e]
      show G9 5 i = G 7 i
      rw [h5, a9 i i0 (by omega)]
  · rw [← hp13 q]
    constructor
    · rintro ⟨i, i0, i1, e⟩
      refine ⟨i, i0, by omega, ?_⟩
      rw [← e]
      show G 14 i = G9 12 i
      rw [h12, a10 i i0 (by omega)]
    · rintro ⟨i, i0, i1, e⟩
      refine ⟨i, i0, by omega, ?_⟩
      rw [← e]
      show G9 12 i = G 14 i
      rw [h12, a10 i i0 (by omega)]
  · rw [s1 3 (by decide), a3, e3, m4, g5, e4]
    congr 1
    exact sI_congr (fun i i0 i1 => by rw [h5, a9 i i0 (by omega)])
  · rw [s1 10 (by decide), a4, e10, m11, g12, e11]
    congr 1
    exact sI_congr (fun i i0 i1 => by rw [h12, a10 i i0 (by omega)])
  · rw [vc1 18 (by decide), a11 g' x y g0' g1' x0 (by rw [e4]; exact x1) y0 (by rw [e11]; exact y1), ss_vC ss g18]
  · rw [vc1 _ (by omega), a12 k g' x y (by rw [e2]; exact hk) g0' g1' x0 (by rw [e4]; exact x1) y0 (by rw [e11]; exact y1), ss_vC ss (es k).2]
  · rw [s1 _ (by omega), a13 k (by rw [e2]; exact hk), (es k).1, e2]
  · have q45 : G5 45 = G0 45 := (a2 45 (by decide) (by decide) (by decide) (by decide)).trans g45
    have ec : ct F4 G5 = ct F0 G0 := by
      funext i w
      unfold ct
      rw [q44, e44, q45]
    rw [q44, e44, ec] at s4
    exact s4
end
