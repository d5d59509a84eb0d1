section
/-! WHAT AN ACT DOES TO THE REFERENCE -/
def RS (F F' : AF) (G G' : AG) : Prop := (∀ c : Nat, c ≠ 53 → F' c = F c) ∧ (∀ k : Nat, k ≠ 0 → (k < 20 ∨ 27 < k) → k ≠ 32 → F' 53 k = F 53 k) ∧ ∀ c : Nat, (c < 66 ∨ 71 < c) → G' c = G c
theorem rs_rf (F : AF) (G : AG) : RS F F G G := ⟨fun _ _ => rfl, fun _ _ _ _ => rfl, fun _ _ => rfl⟩
theorem rs_tr {F F1 F2 : AF} {G G1 G2 : AG} (h : RS F F1 G G1) (k : RS F1 F2 G1 G2) : RS F F2 G G2 := ⟨fun c a => (k.1 c a).trans (h.1 c a), fun j a b c => (k.2.1 j a b c).trans (h.2.1 j a b c), fun c a => (k.2.2 c a).trans (h.2.2 c a)⟩
theorem rs_fu {F : AF} {G : AG} {k : Nat} {z : Int} (h : k = 0 ∨ (20 ≤ k ∧ k ≤ 27) ∨ k = 32) : RS F (fu F 53 k z) G G := ⟨fun c a => fu_row a, fun j a b c => fu_k (by omega), fun _ _ => rfl⟩
theorem rs_wn {F F' : AF} {G G' : AG} {a m : Int} {P : Int → Prop} (h : Wn F F' G G' a m P) : RS F F' G G' := ⟨h.1, fun k _ b _ => h.2.1 k (by omega), fun c b => h.2.2.1 c (by omega)⟩
theorem rs_met {F : AF} {G : AG} {z x1 y1 x2 y2 : Int} : RS F (metF F G z x1 y1 x2 y2) G G := ⟨fun c a => met_c a, fun j a b c => met_k (by omega), fun _ _ => rfl⟩
theorem rs_G {F : AF} {G G' : AG} (h : ∀ c : Nat, (c < 66 ∨ 71 < c) → G' c = G c) : RS F F G G' := ⟨fun _ _ => rfl, fun _ _ _ _ => rfl, h⟩
theorem rs_k {F F' : AF} {G G' : AG} (h : RS F F' G G') : F' 53 1 = F 53 1 ∧ F' 53 2 = F 53 2 ∧ F' 53 3 = F 53 3 ∧ F' 53 11 = F 53 11 ∧ F' 53 14 = F 53 14 := ⟨h.2.1 1 (by omega) (by omega) (by omega), h.2.1 2 (by omega) (by omega) (by omega), h.2.1 3 (by omega) (by omega) (by omega), h.2.1 11 (by omega) (by omega) (by omega), h.2.1 14 (by omega) (by omega) (by omega)⟩
theorem kk_rs {F Fr Fr' : AF} {G Gr Gr' : AG} (h : KK F G Fr Gr) (k : RS Fr Fr' Gr Gr') : KK F G Fr' Gr' := by
  obtain ⟨a, b, c, d, e⟩ := rs_k k
  exact kk_cr h a b c d e (fun c _ h2 => k.2.2 c (by omega))
/-- cells of the system, of the script and of what was read stay -/
def RFr (F F2 : AF) (G G2 : AG) : Prop := (∀ c : Nat, c ≠ 53 → F2 c = F c) ∧ (∀ k : Nat, 33 ≤ k → k ≤ 41 → F2 53 k = F 53 k) ∧ ∀ c : Nat, (c < 54 ∨ 71 < c) → G2 c = G c
theorem rfr_rs {F F' : AF} {G G' : AG} (h : RS F F' G G') : RFr F F' G G' := ⟨h.1, fun k a b => h.2.1 k (by omega) (by omega) (by omega), fun c a => h.2.2 c (by omega)⟩
theorem rfr_rd {F F2 : AF} {G G2 : AG} {g al : Int} {T : Int → Int → Int} {PX PY : Int → Prop} {v : Int → Int} (h : RDn F F2 G G2 g T PX PY v al) : RFr F F2 G G2 := ⟨h.1, fun k a b => h.2.1 k (by omega) (by omega) (by omega) (by omega), fun c a => h.2.2.1 c (by omega) (by omega) (by omega) (by omega)⟩
theorem kk_mba {S : AS} {F Fr : AF} {G Gr : AG} {b : Int} (h : CI S F G b) (k : KK F G Fr Gr) : MBA Gr := by
  have hc := h.2.1
  obtain ⟨⟨n4, -⟩, n11, -⟩ := kk_seq hc k
  intro i j i0 i1 j0 j1
  have pe := fun g (g0 : 0 ≤ g) (g1 : g ≤ 2) => pc_ple hc k k.2.2.2.1 g0 g1 i0 (by omega) j0 (by omega : j < F 11 1)
  have p := pc_in hc h.2.2.2.2.1 i0 (by omega) j0 (by omega : j < F 11 1)
  have a0 := pe 0 (by omega) (by omega)
  have a1 := pe 1 (by omega) (by omega)
  have a2 := pe 2 (by omega) (by omega)
  have e0 : 2304 * (0 : Int) + 48 * j + i = 48 * j + i := by omega
  have e1 : 2304 * (1 : Int) + 48 * j + i = 2304 + 48 * j + i := by omega
  have e2 : 2304 * (2 : Int) + 48 * j + i = 4608 + 48 * j + i := by omega
  have o0 : 0 + 2304 * (0 : Int) + 48 * j + i = 48 * j + i := by omega
  have o1 : 0 + 2304 * (1 : Int) + 48 * j + i = 2304 + 48 * j + i := by omega
  have o2 : 0 + 2304 * (2 : Int) + 48 * j + i = 4608 + 48 * j + i := by omega
  rw [e0, o0] at a0
  rw [e1, o1] at a1
  rw [e2, o2] at a2
  rw [a0, a1, a2] at p
  have hcap := h.2.2.2.1.2.1
  exact ⟨p.1, p.2.1, p.2.2.1, by omega⟩
theorem kk_mv {F Fr : AF} {G Gr : AG} (k : KK F G Fr Gr) {g x y : Int} (g0 : -1 ≤ g) (g1 : g ≤ 2) (x0 : 0 ≤ x) (x1 : x < F 4 2) (y0 : 0 ≤ y) (y1 : y < F 11 2) : mv Fr Gr g x y = vu F G 18 g x y := by
  have one : ∀ g : Int, 0 ≤ g → g ≤ 2 → mv Fr Gr g x y = vu F G 18 g x y := fun g g0 g1 => by
    rw [vu_g g0, mv_g g0]
    exact (k.2.2.2.1 g x y g0 g1 x0 x1 y0 y1).symm
  by_cases w : g = -1
  · subst w
    rw [vu_all, mv_all, one 0 (by omega) (by omega), one 1 (by omega) (by omega), one 2 (by omega) (by omega)]
  · exact one g (by omega) g1
theorem kk_aS {F Fr : AF} {G Gr : AG} (k : KK F G Fr Gr) {g x1 y1 x2 y2 : Int} (g0 : -1 ≤ g) (g1 : g ≤ 2) (a0 : 0 ≤ x1) (a1 : x2 < F 4 2) (b0 : 0 ≤ y1) (b1 : y2 < F 11 2) : aS (mv Fr Gr g) x1 y1 x2 y2 = aS (vu F G 18 g) x1 y1 x2 y2 := aS_congr (fun x y x0 x1' y0 y1' => kk_mv k g0 g1 (by omega) (by omega) (by omega) (by omega))
theorem aS_vu {F : AF} {G : AG} {g x1 y1 x2 y2 : Int} (g0 : 0 ≤ g) : aS (vu F G 18 g) x1 y1 x2 y2 = aS (vC F G 18 g) x1 y1 x2 y2 := aS_congr (fun x y _ _ _ _ => vu_g g0)
theorem kk_mt {S : AS} {F Fr : AF} {G Gr : AG} {b : Int} (h : CI S F G b) (k : KK F G Fr Gr) : MT Fr Gr := by
  intro g g0 g1
  rw [← k.1.2.1, ← k.1.2.2.1, kk_aS k (by omega) g1 (by omega) (by omega) (by omega) (by omega), aS_vu g0]
  exact h.2.2.2.2.1.2 g g0 g1
theorem kk_lt {S : AS} {F Fr : AF} {G Gr : AG} {b : Int} (h : CI S F G b) (k : KK F G Fr Gr) : Lt Gr := by
  obtain ⟨⟨n4, -⟩, n11, -⟩ := kk_seq h.2.1 k
  have l := h.2.2.1
  have k6 := k.2.1.1
  have k7 := k.2.1.2
  intro a a0 a1
  have : a = 0 ∨ a = 1 := by omega
  rcases this with e | e <;> subst e <;> omega
theorem ov_cellD {e : Int → Int} {n w x1 x2 x : Int} (s : Sq e n w) (d1 : isD e n x1) (d2 : isD e n (x2 + 1)) (a0 : 0 ≤ x1) (a1 : x1 ≤ x2) (a2 : x2 < w) (x0 : 0 ≤ x) (xw : x < w) : 0 < ov (e (blk e n x)) (e (blk e n x + 1)) x1 x2 ↔ (x1 ≤ x ∧ x ≤ x2) := by
  have bx := bl_spec s x0 xw
  constructor
  · intro h
    obtain ⟨x', q0, q1, q2, q3, q4⟩ := ov_ex s bx.1 bx.2.1 h
    have l := (bl_lo s d1 a0 (by omega) q0 q1).mp q2
    have u := (bl_hi s d2 (by omega) a2 q0 q1).mp q3
    rw [q4] at l u
    exact ⟨(bl_lo s d1 a0 (by omega) x0 xw).mpr l, (bl_hi s d2 (by omega) a2 x0 xw).mpr u⟩
  · rintro ⟨h1, h2⟩
    exact ov_blk s x0 xw h1 h2
theorem came_d {F : AF} {G G' : AG} {PP : Int → Int → Prop} (h : Came F G G' PP) {a q : Int} (a0 : 0 ≤ a) (a1 : a ≤ 1) (q0 : 0 ≤ q) (q1 : q ≤ msz F a) (hP : PP a q) : isD (me F G' a) (G' 55 a) q := by
  have s := sq_mx h.2.1 a0 a1
  by_cases c : q = 0
  · rw [c]; exact isD_of (isB_0 s)
  · by_cases b : q = msz F a
    · rw [b]; exact isD_w s
    · exact isD_of (((h.2.2.1 a a0 a1).1 q).mpr (Or.inr ⟨hP, by omega, by omega⟩))
/-- fields of one good change: its cells -/
theorem mc_upd {F : AF} {G G' : AG} {g : Int} {P : Int → Int → Prop} {v : Int → Int → Int} (hx : MX F G) (g0 : 0 ≤ g) (g1 : g ≤ 2) (u : Upd G G' 57 (2304 * g) P v) {g' x y : Int} (g0' : 0 ≤ g') (g1' : g' ≤ 2) (x0 : 0 ≤ x) (x1 : x < F 53 1) (y0 : 0 ≤ y) (y1 : y < F 53 2) : (g' = g → P (mb F G 0 x) (mb F G 1 y) → mC F G' 57 0 g' x y = v (mb F G 0 x) (mb F G 1 y)) ∧ (g' = g → ¬ P (mb F G 0 x) (mb F G 1 y) → mC F G' 57 0 g' x y = mC F G 57 0 g' x y) ∧ (¬ g' = g → mC F G' 57 0 g' x y = mC F G 57 0 g' x y) := by
  have e54 : G' 54 = G 54 := u.1 54 (by decide)
  have e55 : G' 55 = G 55 := u.1 55 (by decide)
  have em := fun a => me_cg (F := F) (F' := F) (G := G) (G' := G') rfl rfl e54 e55 a
  have bx := mb_spec hx (a := 0) (p := x) (by omega) (by omega) x0 (by rw [msz_0]; exact x1)
  have by' := mb_spec hx (a := 1) (p := y) (by omega) (by omega) y0 (by rw [msz_1]; exact y1)
  have n0 := (hx 0 (by omega) (by omega)).2.1
  have n1 := (hx 1 (by omega) (by omega)).2.1
  have c1 : mC F G' 57 0 g' x y = G' 57 (2304 * g' + 48 * mb F G 1 y + mb F G 0 x) := by
    unfold mC cv mb
    rw [em, em, e55]
    dsimp only
    congr 1
    omega
  have c2 : mC F G 57 0 g' x y = G 57 (2304 * g' + 48 * mb F G 1 y + mb F G 0 x) := by
    unfold mC cv mb
    dsimp only
    congr 1
    omega
  rw [c1, c2]
  have q := u.2.1 _ _ bx.1 (by omega) by'.1 (by omega : mb F G 1 y < 48)
  refine ⟨fun e p => ?_, fun e p => ?_, fun e => u.2.2 _ ?_⟩
  · rw [e]; exact q.1 p
  · rw [e]; exact q.2 p
  · by_cases l : g' < g
    · left; omega
    · right; omega
theorem rd_mk {Fr F' F6 : AF} {Gr G1 G2 G3 G4 G6 : AG} {g al : Int} {T : Int → Int → Int} {PP : Int → Int → Prop} {v : Int → Int} (rs : RS Fr F' Gr G1) (c2 : ∀ c : Nat, c ≠ 66 → G2 c = G1 c) (t66 : ∀ a : Int, 0 ≤ a → a ≤ 1 → G2 66 a = me F' G1 a (G1 55 a - 1)) (cm : Came F' G2 G3 PP) (u : ∀ c : Nat, c ≠ 57 → c ≠ 59 → c ≠ 70 → G4 c = G3 c) (h57 : ∀ g' x y : Int, 0 ≤ g' → g' ≤ 2 → 0 ≤ x → x < F' 53 1 → 0 ≤ y → y < F' 53 2 → mC F' G4 57 0 g' x y = if g' = g then T x y else mC F' G3 57 0 g' x y) (h59 : ∀ g' : Int, 0 ≤ g' → g' ≤ 2 → G4 59 g' = if g' = g then al else G3 59 g') (tl : TellQ F' F6 G4 G6 v) : RDn Fr F6 Gr G6 g T (PP 0) (PP 1) v al := by
  obtain ⟨f1, f2, f3, f11, f14⟩ := rs_k rs
  obtain ⟨m1, m2, m3, m4, m5⟩ := cm
  obtain ⟨t1, t2, t3, t4, t5⟩ := tl
  have x1 : F6 53 1 = F' 53 1 := t2 1 (by decide)
  have x2 : F6 53 2 = F' 53 2 := t2 2 (by decide)
  have g64 : G6 54 = G3 54 := (t3 54 (by decide) (by decide)).trans (u 54 (by decide) (by decide) (by decide))
  have g65 : G6 55 = G3 55 := (t3 55 (by decide) (by decide)).trans (u 55 (by decide) (by decide) (by decide))
  have g44 : G4 54 = G3 54 := u 54 (by decide) (by decide) (by decide)
  have g45 : G4 55 = G3 55 := u 55 (by decide) (by decide) (by decide)
  have em6 := fun a => me_cg (F := F') (F' := F6) (G := G3) (G' := G6) x1 x2 g64 g65 a
  have g20 : ∀ c : Nat, c < 66 → G2 c = Gr c := fun c h => (c2 c (by omega)).trans (rs.2.2 c (Or.inl h))
  have e0 := fun a => me_cg (F := Fr) (F' := F') (G := Gr) (G' := G2) f1 f2 (g20 54 (by decide)) (g20 55 (by decide)) a
  have e1 := fun a => me_cg (F := Fr) (F' := F') (G := Gr) (G' := G1) f1 f2 (rs.2.2 54 (by omega)) (rs.2.2 55 (by omega)) a
  have mc0 : ∀ (p : Nat) (off : Int), p < 66 → mC F' G2 p off = mC Fr Gr p off := by
    intro p off hp
    funext g x y
    unfold mC cv
    rw [e0, e0, g20 55 (by decide), g20 p hp]
  have mc6 : ∀ (p : Nat) (off : Int), G6 p = G4 p → mC F6 G6 p off = mC F' G4 p off := by
    intro p off hp
    have em4 := fun a => me_cg (F := F') (F' := F') (G := G3) (G' := G4) rfl rfl g44 g45 a
    funext g x y
    unfold mC cv
    rw [em6, em6, em4, em4, g65, g45, hp]
  have mc4 : ∀ (p : Nat) (off : Int), G4 p = G3 p → mC F' G4 p off = mC F' G3 p off := by
    intro p off hp
    have em4 := fun a => me_cg (F := F') (F' := F') (G := G3) (G' := G4) rfl rfl g44 g45 a
    funext g x y
    unfold mC cv
    rw [em4, em4, g45, hp]
  refine ⟨fun c hc => (t1 c hc).trans (rs.1 c hc), fun k a b c d => (t2 k b).trans (rs.2.1 k a c d), fun c a b d e => ?_, mx_cg x1 x2 g64 g65 m2, fun q => ?_, fun q => ?_, fun a a0 a1 => ?_, fun g' x y g0 g1 x0 xw y0 yw => ?_, fun k g' x y hk g0 g1 x0 xw y0 yw => ?_, fun g' g0 g1 => ?_, fun k k0 => ?_, ?_⟩
  · rw [t3 c b d, u c (by omega) (by omega) (by omega), m1 c (by omega) (by omega) (by omega) (by omega) (by omega), c2 c (by omega), rs.2.2 c e]
  · have := (m3 0 (by omega) (by omega)).1 q
    rw [e0, g20 55 (by decide), msz_0, f1] at this
    rw [em6, g65]
    exact this
  · have := (m3 1 (by omega) (by omega)).1 q
    rw [e0, g20 55 (by decide), msz_1, f2] at this
    rw [em6, g65]
    exact this
  · have := (m3 a a0 a1).2.1
    rw [e0, g20 55 (by decide), g20 56 (by decide), t66 a a0 a1, e1, rs.2.2 55 (by omega)] at this
    rw [em6, g65, t3 56 (by decide) (by decide), u 56 (by decide) (by decide) (by decide)]
    exact this
  · rw [mc6 57 0 (t3 57 (by decide) (by decide)), h57 g' x y g0 g1 x0 (by omega) y0 (by omega), m4 g' x y g0 g1 x0 (by omega) y0 (by omega), mc0 57 0 (by decide)]
  · rw [mc6 58 _ (t3 58 (by decide) (by decide)), mc4 58 _ (u 58 (by decide) (by decide) (by decide)), m5 k (by omega) (by omega) g' x y g0 g1 x0 (by omega) y0 (by omega), mc0 58 _ (by decide)]
  · rw [t3 59 (by decide) (by decide), h59 g' g0 g1, m1 59 (by decide) (by decide) (by decide) (by decide) (by decide), g20 59 (by decide)]
  · rw [t5 k k0, u 61 (by decide) (by decide) (by decide), m1 61 (by decide) (by decide) (by decide) (by decide) (by decide), g20 61 (by decide), f11]
  · have e62 : G4 62 = Gr 62 := by rw [u 62 (by decide) (by decide) (by decide), m1 62 (by decide) (by decide) (by decide) (by decide) (by decide), g20 62 (by decide)]
    have em : mt G4 = mt Gr := by
      funext i w
      unfold mt
      rw [e62]
    rw [f14, em] at t4
    exact t4
end
