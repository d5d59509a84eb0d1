/-! THE TRIAL, by cells -/
theorem cc_cg {F F1 : AF} {G G1 : AG} (e4 : F1 4 = F 4) (e11 : F1 11 = F 11) (e17 : F1 17 = F 17) (g5 : G1 5 = G 5) (g12 : G1 12 = G 12) (h : CC F G) : CC F1 G1 := by
  obtain ⟨h1, h2, h3, h4, h5, h6⟩ := h
  refine ⟨co_cg e4 g5 h1, co_cg e11 g12 h2, ?_, ?_, ?_, ?_⟩ <;> rw [e17] <;> first | assumption | (rw [e4]; assumption) | (rw [e11]; assumption)
/-- what a cell of the system has of a good of a plane; by the trial -/
noncomputable def vC (F : AF) (G : AG) (p : Nat) (g x y : Int) : Int := cv (G 5) (G 12) (F 4 1) (F 11 1) (fun i j => G p (2304 * g + 48 * j + i)) x y
noncomputable def vT (F : AF) (G : AG) (x y : Int) : Int := cv (G 7) (G 14) (F 6 1) (F 13 1) (fun i j => G 19 (48 * j + i)) x y
/-- more borders -/
def Sub (e e' : Int → Int) (n n' : Int) : Prop := ∀ q : Int, isB e n q → isB e' n' q
def TS (F : AF) (G : AG) (T : Int → Int → Int) : Prop := CC F G ∧ CO F G 6 48 ∧ CO F G 13 48 ∧ F 6 2 = F 4 2 ∧ F 13 2 = F 11 2 ∧ Sub (G 5) (G 7) (F 4 1) (F 6 1) ∧ Sub (G 12) (G 14) (F 11 1) (F 13 1) ∧ (∀ i : Int, 0 ≤ i → i < F 6 1 → G 8 i = blk (G 5) (F 4 1) (G 7 i)) ∧ (∀ j : Int, 0 ≤ j → j < F 13 1 → G 15 j = blk (G 12) (F 11 1) (G 14 j)) ∧ ∀ x y : Int, 0 ≤ x → x < F 4 2 → 0 ≤ y → y < F 11 2 → vT F G x y = T x y
theorem co_lt {F : AF} {G : AG} {o : Nat} {m i : Int} (h : CO F G o m) (i0 : 0 ≤ i) (i1 : i < F o 1) : 0 ≤ G (o + 1) i ∧ G (o + 1) i < F o 2 := by
  have a := co_in h i0 (Int.le_of_lt i1)
  have b := rise_lt h.2.2.2.2.2.2 i0 i1 (Int.le_refl _)
  have := h.2.2.2.2.2.1
  omega
theorem ok_startTrialC {d : Nat} {S : AS} {F : AF} {G : AG} (hd : 2 ≤ d) (hsh : ShC S) (hc : CC F G) (h6 : CO F G 6 48) (h13 : CO F G 13 48) (w6 : F 6 2 = F 4 2) (w13 : F 13 2 = F 11 2) (b6 : Sub (G 5) (G 7) (F 4 1) (F 6 1)) (b13 : Sub (G 12) (G 14) (F 11 1) (F 13 1)) {g : Int} (hg : 0 ≤ g) (hg2 : g ≤ 2) {Q : AQ} (hq : ∀ G', (∀ c : Nat, c ≠ 8 → c ≠ 15 → c ≠ 19 → G' c = G c) → TS F G' (vC F G 18 g) → Q none S F G') : Ok d MX2_startTrial [vR 2, vI g] S F G Q := by
  have s4 : Sq (G 5) (F 4 1) (F 4 2) := sq_co hc.1
  have s11 : Sq (G 12) (F 11 1) (F 11 2) := sq_co hc.2.1
  have s6 : Sq (G 7) (F 6 1) (F 4 2) := w6 ▸ sq_co h6
  have s13 : Sq (G 14) (F 13 1) (F 11 2) := w13 ▸ sq_co h13
  have o4 : ∀ i : Int, 0 ≤ i → i < F 6 1 → cb F G 4 (G 7 i) = blk (G 5) (F 4 1) (G 7 i) := fun i a b => bl_cb (by rw [← w6]; exact (co_lt h6 a b).2)
  have o11 : ∀ i : Int, 0 ≤ i → i < F 13 1 → cb F G 11 (G 14 i) = blk (G 12) (F 11 1) (G 14 i) := fun i a b => bl_cb (by rw [← w13]; exact (co_lt h13 a b).2)
  refine ok_startTrial hd hsh hc h6 h13 hg hg2 (fun G' fr v8 v15 v19 => hq G' fr ?_)
  have e5 := fr 5 (by decide) (by decide) (by decide)
  have e12 := fr 12 (by decide) (by decide) (by decide)
  have e7 := fr 7 (by decide) (by decide) (by decide)
  have e14 := fr 14 (by decide) (by decide) (by decide)
  refine ⟨cc_cg rfl rfl rfl e5 e12 hc, co_cg rfl e7 h6, co_cg rfl e14 h13, w6, w13, by rw [e5, e7]; exact b6, by rw [e12, e14]; exact b13, fun i a b => by rw [e5, e7, v8 i a b]; exact o4 i a b, fun i a b => by rw [e12, e14, v15 i a b]; exact o11 i a b, fun x y x0 x1 y0 y1 => ?_⟩
  have a := bl_spec s6 x0 x1
  have b := bl_spec s13 y0 y1
  simp only [vT, vC, cv]
  rw [e7, e14, v19 _ _ a.1 a.2.1 b.1 b.2.1, o4 _ a.1 a.2.1, o11 _ b.1 b.2.1, bl_sub s4 s6 b6 x0 x1, bl_sub s11 s13 b13 y0 y1]
/-- a change of the trial alone -/
theorem ts_upd {F : AF} {G G' : AG} {T T' : Int → Int → Int} (h : TS F G T) (fr : ∀ c : Nat, c ≠ 19 → G' c = G c) (hT : ∀ x y : Int, 0 ≤ x → x < F 4 2 → 0 ≤ y → y < F 11 2 → vT F G' x y = T' x y) : TS F G' T' := by
  obtain ⟨h1, h2, h3, h4, h5, h6, h7, h8, h9, h10⟩ := h
  have e5 := fr 5 (by decide)
  have e12 := fr 12 (by decide)
  have e7 := fr 7 (by decide)
  have e14 := fr 14 (by decide)
  have e8 := fr 8 (by decide)
  have e15 := fr 15 (by decide)
  exact ⟨cc_cg rfl rfl rfl e5 e12 h1, co_cg rfl e7 h2, co_cg rfl e14 h3, h4, h5, by rw [e5, e7]; exact h6, by rw [e12, e14]; exact h7, by rw [e5, e7, e8]; exact h8, by rw [e12, e14, e15]; exact h9, hT⟩
/-- the sides of a rectangle of the grid are planned borders -/
def Sid (F : AF) (G : AG) (x1 y1 x2 y2 : Int) : Prop := 0 ≤ x1 ∧ x1 ≤ x2 ∧ x2 < F 4 2 ∧ 0 ≤ y1 ∧ y1 ≤ y2 ∧ y2 < F 11 2 ∧ isD (G 7) (F 6 1) x1 ∧ isD (G 7) (F 6 1) (x2 + 1) ∧ isD (G 14) (F 13 1) y1 ∧ isD (G 14) (F 13 1) (y2 + 1)
abbrev inR (x1 y1 x2 y2 x y : Int) : Prop := x1 ≤ x ∧ x ≤ x2 ∧ y1 ≤ y ∧ y ≤ y2
theorem inF_cells {F : AF} {G : AG} {T : Int → Int → Int} (h : TS F G T) {x1 y1 x2 y2 x y : Int} (hs : Sid F G x1 y1 x2 y2) (x0 : 0 ≤ x) (xw : x < F 4 2) (y0 : 0 ≤ y) (yw : y < F 11 2) : inF F G x1 y1 x2 y2 (blk (G 7) (F 6 1) x) (blk (G 14) (F 13 1) y) ↔ inR x1 y1 x2 y2 x y := by
  obtain ⟨t1, t2, t3, t4, t5, -⟩ := h
  obtain ⟨a1, a2, a3, a4, a5, a6, a7, a8, a9, a10⟩ := hs
  have s6 : Sq (G 7) (F 6 1) (F 4 2) := t4 ▸ sq_co t2
  have s13 : Sq (G 14) (F 13 1) (F 11 2) := t5 ▸ sq_co t3
  have c1 : cb F G 6 x1 = blk (G 7) (F 6 1) x1 := bl_cb (by omega)
  have c2 : cb F G 6 x2 = blk (G 7) (F 6 1) x2 := bl_cb (by omega)
  have c3 : cb F G 13 y1 = blk (G 14) (F 13 1) y1 := bl_cb (by omega)
  have c4 : cb F G 13 y2 = blk (G 14) (F 13 1) y2 := bl_cb (by omega)
  simp only [inF, inR]
  rw [c1, c2, c3, c4, ← bl_lo s6 a7 (by omega) (by omega) x0 xw, ← bl_hi s6 a8 (by omega) (by omega) x0 xw, ← bl_lo s13 a9 (by omega) (by omega) y0 yw, ← bl_hi s13 a10 (by omega) (by omega) y0 yw]
theorem vT_upd {F : AF} {G G' : AG} {T : Int → Int → Int} {P : Int → Int → Prop} {v : Int → Int → Int} (h : TS F G T) (u : Upd G G' 19 0 P v) {x y : Int} (x0 : 0 ≤ x) (xw : x < F 4 2) (y0 : 0 ≤ y) (yw : y < F 11 2) : (P (blk (G 7) (F 6 1) x) (blk (G 14) (F 13 1) y) → vT F G' x y = v (blk (G 7) (F 6 1) x) (blk (G 14) (F 13 1) y)) ∧ (¬ P (blk (G 7) (F 6 1) x) (blk (G 14) (F 13 1) y) → vT F G' x y = T x y) := by
  obtain ⟨t1, t2, t3, t4, t5, t6, t7, t8, t9, t10⟩ := h
  have s6 : Sq (G 7) (F 6 1) (F 4 2) := t4 ▸ sq_co t2
  have s13 : Sq (G 14) (F 13 1) (F 11 2) := t5 ▸ sq_co t3
  have a := bl_spec s6 x0 xw
  have b := bl_spec s13 y0 yw
  have n6 := t2.2.1
  have n13 := t3.2.1
  have e : vT F G' x y = G' 19 (0 + 48 * blk (G 14) (F 13 1) y + blk (G 7) (F 6 1) x) := by
    simp only [vT, cv]
    rw [u.1 7 (by decide), u.1 14 (by decide)]
    congr 1
    omega
  have q := u.2.1 (blk (G 7) (F 6 1) x) (blk (G 14) (F 13 1) y) a.1 (by omega) b.1 (by omega)
  rw [e]
  refine ⟨q.1, fun z => ?_⟩
  rw [q.2 z, ← t10 x y x0 xw y0 yw]
  simp only [vT, cv]
  congr 1
  omega
/-- fields of the trial within a bound, if its cells are -/
theorem ts_fld {F : AF} {G : AG} {T : Int → Int → Int} (h : TS F G T) {A : Int} (hb : ∀ x y : Int, 0 ≤ x → x < F 4 2 → 0 ≤ y → y < F 11 2 → 0 ≤ T x y ∧ T x y ≤ A) : ∀ i j : Int, 0 ≤ i → i < F 6 1 → 0 ≤ j → j < F 13 1 → 0 ≤ G 19 (48 * j + i) ∧ G 19 (48 * j + i) ≤ A := by
  intro i j i0 i1 j0 j1
  obtain ⟨t1, t2, t3, t4, t5, t6, t7, t8, t9, t10⟩ := h
  have s6 : Sq (G 7) (F 6 1) (F 4 2) := t4 ▸ sq_co t2
  have s13 : Sq (G 14) (F 13 1) (F 11 2) := t5 ▸ sq_co t3
  have a := isB_in s6 ⟨i, i0, i1, rfl⟩
  have b := isB_in s13 ⟨j, j0, j1, rfl⟩
  have e := cv_at s6 s13 (u := fun i j => G 19 (48 * j + i)) i0 i1 j0 j1
  have e2 : G 19 (48 * j + i) = T (G 7 i) (G 14 j) := by
    rw [← t10 _ _ a.1 a.2 b.1 b.2]
    exact e
  rw [e2]
  exact hb _ _ a.1 a.2 b.1 b.2
theorem ok_raiseC {d : Nat} {S : AS} {F : AF} {G : AG} {T : Int → Int → Int} (hd : 1 ≤ d) (hsh : ShC S) {re : Nat} (hk : AtRect S re) (h : TS F G T) {v : Int} (hv : -1000000000 ≤ v) (hv2 : v ≤ 1000000000) (hs : Sid F G (F re 0) (F re 1) (F re 2) (F re 3)) (hb : ∀ x y : Int, 0 ≤ x → x < F 4 2 → 0 ≤ y → y < F 11 2 → 0 ≤ T x y ∧ T x y ≤ 1000000000000) {Q : AQ} (hq : ∀ G', (∀ c : Nat, c ≠ 19 → G' c = G c) → TS F G' (fun x y => if inR (F re 0) (F re 1) (F re 2) (F re 3) x y then T x y + v else T x y) → Q none S F G') : Ok d MX2_raise [vR 2, vR re, vJ v] S F G Q := by
  refine ok_raise hd hsh hk h.2.1 h.2.2.1 hv hv2 hs.1 hs.2.1 hs.2.2.2.1 hs.2.2.2.2.1 (ts_fld h hb) (fun G' u => hq G' u.1 (ts_upd h u.1 (fun x y x0 x1 y0 y1 => ?_)))
  have q := vT_upd h u x0 x1 y0 y1
  rw [inF_cells h hs x0 x1 y0 y1] at q
  by_cases w : inR (F re 0) (F re 1) (F re 2) (F re 3) x y
  · rw [if_pos w, q.1 w, ← h.2.2.2.2.2.2.2.2.2 x y x0 x1 y0 y1]
    rfl
  · rw [if_neg w, q.2 w]
theorem ok_fillC {d : Nat} {S : AS} {F : AF} {G : AG} {T : Int → Int → Int} (hd : 1 ≤ d) (hsh : ShC S) (h : TS F G T) {v x1 y1 x2 y2 : Int} (r1 : 0 ≤ x1) (r3 : 0 ≤ y1) (hs : x1 ≤ x2 → y1 ≤ y2 → Sid F G x1 y1 x2 y2) {Q : AQ} (hq : ∀ G', (∀ c : Nat, c ≠ 19 → G' c = G c) → TS F G' (fun x y => if inR x1 y1 x2 y2 x y then v else T x y) → Q none S F G') : Ok d MX2_fill [vR 2, vI x1, vI y1, vI x2, vI y2, vJ v] S F G Q := by
  refine ok_fill hd hsh h.2.1 h.2.2.1 r1 r3 (fun G' u => hq G' u.1 (ts_upd h u.1 (fun x y x0 xw y0 yw => ?_)))
  have q := vT_upd h u x0 xw y0 yw
  by_cases w0 : x1 ≤ x2 ∧ y1 ≤ y2
  · rw [inF_cells h (hs w0.1 w0.2) x0 xw y0 yw] at q
    by_cases w : inR x1 y1 x2 y2 x y
    · rw [if_pos w, q.1 ⟨w0.1, w0.2, w⟩]
    · rw [if_neg w, q.2 (fun z => w z.2.2)]
  · rw [if_neg (fun z => w0 ⟨by have := z.1; have := z.2.1; omega, by have := z.2.2.1; have := z.2.2.2; omega⟩), q.2 (fun z => w0 ⟨z.1, z.2.1⟩)]
/-- a source of a MOVE along an axis -/
theorem src_blk {e e' : Int → Int} {n n' w lo hi by' x : Int} (s : Sq e n w) (s' : Sq e' n' w) (hlo : 0 ≤ lo) (hhi : hi < w) (hsh : ∀ c : Int, isB e n c → lo < c → c ≤ hi → isB e' n' (c + by')) (hl : isD e' n' (lo + by')) (x0 : 0 ≤ x) (xw : x < w) (h1 : lo + by' ≤ x) (h2 : x ≤ hi + by') (hl0 : 0 ≤ lo + by') : lo ≤ e' (blk e' n' x) - by' ∧ e' (blk e' n' x) - by' ≤ hi ∧ blk e n (e' (blk e' n' x) - by') = blk e n (x - by') := by
  obtain ⟨b0, b1, b2, b3⟩ := bl_spec s' x0 xw
  have c1 : lo + by' ≤ e' (blk e' n' x) := by
    obtain ⟨k, k0, k1, ke⟩ := hl
    rcases Int.lt_or_le (e' (blk e' n' x)) (lo + by') with q | q
    · have := sq_lt s' b0 (by omega) k0 k1 (by omega)
      have := rise_le s'.2.2.2 (i := blk e' n' x + 1) (j := k) (by omega) (by omega) k1
      omega
    · exact q
  refine ⟨by omega, by omega, ?_⟩
  obtain ⟨a0, a1, a2, a3⟩ := bl_spec s (x := e' (blk e' n' x) - by') (by omega) (by omega)
  refine (blk_uniq s.2.2.2 a0 a1 (by omega) ?_).symm
  rcases Int.lt_or_le (x - by') (e (blk e n (e' (blk e' n' x) - by') + 1)) with q | q
  · exact q
  · exfalso
    have hn : blk e n (e' (blk e' n' x) - by') + 1 < n := by
      rcases Int.lt_or_le (blk e n (e' (blk e' n' x) - by') + 1) n with z | z
      · exact z
      · have : blk e n (e' (blk e' n' x) - by') + 1 = n := by omega
        rw [this, s.2.2.1] at q
        omega
    obtain ⟨k, k0, k1, ke⟩ := hsh _ ⟨_, by omega, hn, rfl⟩ (by omega) (by omega)
    have := sq_lt s' b0 (by omega) k0 (by omega) (show e' (blk e' n' x) < e' k by omega)
    have := rise_le s'.2.2.2 (i := blk e' n' x + 1) (j := k) (by omega) (by omega) (by omega)
    omega
theorem ok_bringC {d : Nat} {S : AS} {F : AF} {G : AG} {T : Int → Int → Int} (hd : 1 ≤ d) (hsh : ShC S) {re : Nat} (hk : AtRect S re) (h : TS F G T) {g x1 y1 x2 y2 dx dy : Int} (hg : 0 ≤ g) (hg2 : g ≤ 2) (e0 : F re 0 = x1 + dx) (e1 : F re 1 = y1 + dy) (e2 : F re 2 = x2 + dx) (e3 : F re 3 = y2 + dy) (r1 : 0 ≤ x1) (r3 : 0 ≤ y1) (r2 : x2 < F 4 2) (r4 : y2 < F 11 2) (hs : Sid F G (F re 0) (F re 1) (F re 2) (F re 3))
    (k7 : ∀ c : Int, isB (G 5) (F 4 1) c → x1 < c → c ≤ x2 → isB (G 7) (F 6 1) (c + dx)) (k14 : ∀ c : Int, isB (G 12) (F 11 1) c → y1 < c → c ≤ y2 → isB (G 14) (F 13 1) (c + dy))
    (s9 : ∀ i : Int, 0 ≤ i → i < F 6 1 → G 9 i = if x1 ≤ G 7 i - dx ∧ G 7 i - dx ≤ x2 then cb F G 4 (G 7 i - dx) else -1) (s16 : ∀ i : Int, 0 ≤ i → i < F 13 1 → G 16 i = if y1 ≤ G 14 i - dy ∧ G 14 i - dy ≤ y2 then cb F G 11 (G 14 i - dy) else -1)
    (hb : ∀ x y : Int, 0 ≤ x → x < F 4 2 → 0 ≤ y → y < F 11 2 → 0 ≤ T x y ∧ T x y ≤ 1000000000000) (hb2 : ∀ x y : Int, 0 ≤ x → x < F 4 2 → 0 ≤ y → y < F 11 2 → 0 ≤ vC F G 18 g x y ∧ vC F G 18 g x y ≤ 1000000000000) {Q : AQ}
    (hq : ∀ G', (∀ c : Nat, c ≠ 19 → G' c = G c) → TS F G' (fun x y => if inR (x1 + dx) (y1 + dy) (x2 + dx) (y2 + dy) x y then T x y + vC F G 18 g (x - dx) (y - dy) else T x y) → Q none S F G') : Ok d MX2_bring [vR 2, vI g, vR re] S F G Q := by
  have hs' := hs
  rw [e0, e1, e2, e3] at hs'
  obtain ⟨t1, t2, t3, t4, t5, t6, t7, t8, t9, t10⟩ := id h
  obtain ⟨a1, a2, a3, a4, a5, a6, a7, a8, a9, a10⟩ := id hs'
  have s6 : Sq (G 7) (F 6 1) (F 4 2) := t4 ▸ sq_co t2
  have s13 : Sq (G 14) (F 13 1) (F 11 2) := t5 ▸ sq_co t3
  have s4 : Sq (G 5) (F 4 1) (F 4 2) := sq_co t1.1
  have s11 : Sq (G 12) (F 11 1) (F 11 2) := sq_co t1.2.1
  -- sources of cells
  have sx : ∀ x : Int, x1 + dx ≤ x → x ≤ x2 + dx → G 9 (blk (G 7) (F 6 1) x) = blk (G 5) (F 4 1) (x - dx) := by
    intro x q1 q2
    have b := bl_spec s6 (x := x) (by omega) (by omega)
    obtain ⟨w1, w2, w3⟩ := src_blk s4 s6 r1 r2 k7 a7 (x := x) (by omega) (by omega) q1 q2 a1
    rw [s9 _ b.1 b.2.1, if_pos ⟨w1, w2⟩, ← w3]
    exact bl_cb (by omega)
  have sy : ∀ y : Int, y1 + dy ≤ y → y ≤ y2 + dy → G 16 (blk (G 14) (F 13 1) y) = blk (G 12) (F 11 1) (y - dy) := by
    intro y q1 q2
    have b := bl_spec s13 (x := y) (by omega) (by omega)
    obtain ⟨w1, w2, w3⟩ := src_blk s11 s13 r3 r4 k14 a9 (x := y) (by omega) (by omega) q1 q2 a4
    rw [s16 _ b.1 b.2.1, if_pos ⟨w1, w2⟩, ← w3]
    exact bl_cb (by omega)
  have n4 := t1.1.2.1
  have n11 := t1.2.1.2.1
  have cell : ∀ x y : Int, inR (x1 + dx) (y1 + dy) (x2 + dx) (y2 + dy) x y → G 18 (2304 * g + 48 * G 16 (blk (G 14) (F 13 1) y) + G 9 (blk (G 7) (F 6 1) x)) = vC F G 18 g (x - dx) (y - dy) := by
    intro x y q
    rw [sx x q.1 q.2.1, sy y q.2.2.1 q.2.2.2]
    rfl
  refine ok_bring hd hsh hk t2 t3 hg hg2 hs.1 hs.2.1 hs.2.2.2.1 hs.2.2.2.2.1 (ts_fld h hb) (fun i j q => ?_) (fun G' u => hq G' u.1 (ts_upd h u.1 (fun x y x0 xw y0 yw => ?_)))
  · have q' := q
    have c1 : cb F G 6 (F re 0) = blk (G 7) (F 6 1) (F re 0) := bl_cb (by omega)
    have c2 : cb F G 6 (F re 2) = blk (G 7) (F 6 1) (F re 2) := bl_cb (by omega)
    have c3 : cb F G 13 (F re 1) = blk (G 14) (F 13 1) (F re 1) := bl_cb (by omega)
    have c4 : cb F G 13 (F re 3) = blk (G 14) (F 13 1) (F re 3) := bl_cb (by omega)
    simp only [inF] at q'
    rw [c1, c2, c3, c4] at q'
    have u1 := bl_spec s6 (x := F re 0) (by omega) (by omega)
    have u2 := bl_spec s6 (x := F re 2) (by omega) (by omega)
    have u3 := bl_spec s13 (x := F re 1) (by omega) (by omega)
    have u4 := bl_spec s13 (x := F re 3) (by omega) (by omega)
    have i0 : 0 ≤ i := by omega
    have i1 : i < F 6 1 := by omega
    have j0 : 0 ≤ j := by omega
    have j1 : j < F 13 1 := by omega
    have li := isB_in s6 ⟨i, i0, i1, rfl⟩
    have lj := isB_in s13 ⟨j, j0, j1, rfl⟩
    have := inF_cells h hs li.1 li.2 lj.1 lj.2
    rw [bl_at s6 i0 i1, bl_at s13 j0 j1, e0, e1, e2, e3] at this
    have r := this.mp (by rw [← e0, ← e1, ← e2, ← e3]; exact q)
    have x9 := sx _ r.1 r.2.1
    have x16 := sy _ r.2.2.1 r.2.2.2
    have x18 := cell _ _ r
    rw [bl_at s6 i0 i1] at x9 x18
    rw [bl_at s13 j0 j1] at x16 x18
    obtain ⟨z1, z2, z3, z4⟩ := r
    have p1 := bl_spec s4 (x := G 7 i - dx) (by omega) (by omega)
    have p2 := bl_spec s11 (x := G 14 j - dy) (by omega) (by omega)
    have bb := hb2 (G 7 i - dx) (G 14 j - dy) (by omega) (by omega) (by omega) (by omega)
    rw [x18]
    exact ⟨by omega, by omega, by omega, by omega, bb.1, bb.2⟩
  · have q := vT_upd h u x0 xw y0 yw
    rw [inF_cells h hs x0 xw y0 yw, e0, e1, e2, e3] at q
    by_cases w : inR (x1 + dx) (y1 + dy) (x2 + dx) (y2 + dy) x y
    · rw [if_pos w, q.1 w, cell x y w, ← t10 x y x0 xw y0 yw]
      rfl
    · rw [if_neg w, q.2 w]
