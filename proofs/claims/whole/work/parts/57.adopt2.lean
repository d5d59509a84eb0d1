/-! ADOPTING, by cells -/
theorem blk_cg {e e' : Int → Int} {n n' w x : Int} (s : Sq e n w) (s' : Sq e' n' w) (hn : n = n') (h : ∀ i : Int, 0 ≤ i → i ≤ n → e i = e' i) (x0 : 0 ≤ x) (x1 : x < w) : blk e n x = blk e' n' x := by
  subst hn
  have a := bl_spec s x0 x1
  refine (blk_uniq s'.2.2.2 a.1 a.2.1 ?_ ?_).symm
  · rw [← h _ a.1 (by omega)]; exact a.2.2.1
  · rw [← h _ (by omega) (by omega)]; exact a.2.2.2
theorem sq_le {e e' : Int → Int} {n n' w : Int} (s : Sq e n w) (s' : Sq e' n' w) (b : Sub e e' n n') : ∀ k : Nat, (k : Int) < n → (k : Int) < n' ∧ e' k ≤ e k := by
  intro k
  induction k with
  | zero =>
    intro _
    have a1 := s.2.1
    have a2 := s'.2.1
    have a3 := s'.1
    exact ⟨by omega, by show e' 0 ≤ e 0; omega⟩
  | succ k ih =>
    intro hk
    have hk' : (k : Int) + 1 < n := by omega
    obtain ⟨p1, p2⟩ := ih (by omega)
    have h1 := s.2.2.2 k (by omega) (by omega)
    obtain ⟨j, j0, j1, je⟩ := b (e ((k : Int) + 1)) ⟨(k : Int) + 1, by omega, by omega, rfl⟩
    have h2 : (k : Int) < j := sq_lt s' (by omega) (by omega) j0 (by omega) (by rw [je]; omega)
    have h3 := rise_le s'.2.2.2 (i := (k : Int) + 1) (j := j) (by omega) (by omega) (by omega)
    have ec : ((k + 1 : Nat) : Int) = (k : Int) + 1 := by omega
    rw [ec]
    exact ⟨by omega, by omega⟩
theorem sq_lei {e e' : Int → Int} {n n' w : Int} (s : Sq e n w) (s' : Sq e' n' w) (b : Sub e e' n n') {i : Int} (i0 : 0 ≤ i) (i1 : i < n) : i < n' ∧ e' i ≤ e i := by
  have h := sq_le s s' b i.toNat (by omega)
  have ei : (i.toNat : Int) = i := Int.toNat_of_nonneg i0
  rw [ei] at h
  exact h
theorem sq_same {e e' : Int → Int} {n n' w : Int} (s : Sq e n w) (s' : Sq e' n' w) (b : Sub e e' n n') (hn : n' ≤ n) : n = n' ∧ ∀ i : Int, 0 ≤ i → i ≤ n → e i = e' i := by
  have n1 := s.1
  have nn : n = n' := by
    have := (sq_lei s s' b (i := n - 1) (by omega) (by omega)).1
    omega
  subst nn
  refine ⟨rfl, ?_⟩
  have main : ∀ k : Nat, (k : Int) ≤ n → e (n - k) = e' (n - k) := by
    intro k
    induction k with
    | zero =>
      intro _
      have a1 := s.2.2.1
      have a2 := s'.2.2.1
      have a3 : n - ((0 : Nat) : Int) = n := by omega
      rw [a3, a1, a2]
    | succ k ih =>
      intro hk
      have a := ih (by omega)
      have a3 : n - (k : Int) = (n - ((k + 1 : Nat) : Int)) + 1 := by omega
      generalize n - ((k + 1 : Nat) : Int) = i at *
      rw [a3] at a
      have i0 : 0 ≤ i := by omega
      have i1 : i < n := by omega
      have h1 := s.2.2.2 i i0 i1
      obtain ⟨j, j0, j1, je⟩ := b (e i) ⟨i, i0, i1, rfl⟩
      have h2 : j < i + 1 := sq_lt s' j0 (by omega) (by omega) (by omega) (by rw [je, ← a]; omega)
      have h3 := rise_le s'.2.2.2 (i := j) (j := i) j0 (by omega) (by omega)
      have h4 := (sq_lei s s' b i0 i1).2
      omega
  intro i i0 i1
  have := main (n - i).toNat (by omega)
  have ei : n - ((n - i).toNat : Int) = i := by omega
  rw [ei] at this
  exact this
/-- what is open: its planes -/
def Opn (S : AS) (F : AF) : Prop := 0 ≤ F 2 8 ∧ F 2 8 ≤ 8 ∧ ∀ k : Nat, (k : Int) < F 2 8 → sR S 21 k = 78 + 2 * k ∧ AtSaved S (78 + 2 * k)
def PSv (i : Int) (p : Nat) : Prop := p = 18 ∨ ∃ k : Nat, (k : Int) < i ∧ p = 79 + 2 * k
theorem psv_lt {i : Int} {p : Nat} (h : p < 78) (h2 : p ≠ 18) : ¬ PSv i p := by
  rintro (h3 | ⟨k, h3, h4⟩) <;> omega
theorem psv_gt {i : Int} {k : Nat} (h : ¬ (k : Int) < i) : ¬ PSv i (79 + 2 * k) := by
  rintro (h3 | ⟨k', h3, h4⟩) <;> omega
theorem psv_in {i : Int} {k : Nat} (h : (k : Int) < i) : PSv i (79 + 2 * k) := Or.inr ⟨k, h, rfl⟩
theorem psv_ev {i : Int} {k : Nat} : ¬ PSv i (78 + 2 * k) := by
  rintro (h3 | ⟨k', h3, h4⟩) <;> omega
theorem psv_s {i : Int} {p : Nat} (i0 : 0 ≤ i) : PSv (i + 1) p ↔ (PSv i p ∨ p = 79 + 2 * i.toNat) := by
  constructor
  · rintro (h | ⟨k, h1, h2⟩)
    · exact Or.inl (Or.inl h)
    · by_cases w : (k : Int) < i
      · exact Or.inl (Or.inr ⟨k, w, h2⟩)
      · exact Or.inr (by omega)
  · rintro ((h | ⟨k, h1, h2⟩) | h)
    · exact Or.inl h
    · exact Or.inr ⟨k, by omega, h2⟩
    · exact Or.inr ⟨i.toNat, by omega, h⟩
/-- planes that were refined, all others as they were -/
def RefA (F : AF) (G G' : AG) (P : Nat → Prop) : Prop := (∀ c : Nat, ¬ P c → G' c = G c) ∧ ∀ p : Nat, P p → ∀ g i j : Int, 0 ≤ g → g ≤ 2 → 0 ≤ i → i < F 6 1 → 0 ≤ j → j < F 13 1 → G' p (2304 * g + 48 * j + i) = G p (2304 * g + 48 * G 15 j + G 8 i)
theorem refa_0 {F : AF} {G G1 : AG} (h : Refd F G G1 18) : RefA F G G1 (PSv 0) := by
  refine ⟨fun c hc => h.1 c (fun e => hc (Or.inl e)), ?_⟩
  rintro p (rfl | ⟨k, h1, h2⟩)
  · exact h.2
  · exact absurd h1 (by omega)
theorem refa_s {F : AF} {G G1 G2 : AG} {i : Int} (i0 : 0 ≤ i) (h : RefA F G G1 (PSv i)) (h2 : Refd F G1 G2 (79 + 2 * i.toNat)) : RefA F G G2 (PSv (i + 1)) := by
  have e8 : G1 8 = G 8 := h.1 8 (psv_lt (by decide) (by decide))
  have e15 : G1 15 = G 15 := h.1 15 (psv_lt (by decide) (by decide))
  have ep : G1 (79 + 2 * i.toNat) = G (79 + 2 * i.toNat) := h.1 _ (psv_gt (by omega))
  refine ⟨fun c hc => ?_, fun p hp g a b g0 g1 a0 a1 b0 b1 => ?_⟩
  · have q1 : ¬ PSv i c := fun z => hc ((psv_s i0).mpr (Or.inl z))
    have q2 : c ≠ 79 + 2 * i.toNat := fun z => hc ((psv_s i0).mpr (Or.inr z))
    rw [h2.1 c q2, h.1 c q1]
  · by_cases w : p = 79 + 2 * i.toNat
    · subst w
      rw [h2.2 g a b g0 g1 a0 a1 b0 b1, e8, e15, ep]
    · rcases (psv_s i0).mp hp with z | z
      · rw [h2.1 p w]
        exact h.2 p z g a b g0 g1 a0 a1 b0 b1
      · exact absurd z w
/-- what an act leaves -/
def Adop (F F' : AF) (G G' : AG) (g : Int) (T : Int → Int → Int) : Prop :=
  (∀ c : Nat, c < 78 → c ≠ 3 → c ≠ 4 → c ≠ 10 → c ≠ 11 → F' c = F c) ∧
  (∀ c : Nat, c < 78 → c ≠ 5 → c ≠ 12 → c ≠ 18 → G' c = G c) ∧
  F' 3 4 = F 3 4 + sI (fun i => nw (G 5) (F 4 1) (G 5 (F 4 1 - 1)) (G 7 i)) (F 6 1) ∧
  F' 10 4 = F 10 4 + sI (fun i => nw (G 12) (F 11 1) (G 12 (F 11 1 - 1)) (G 14 i)) (F 13 1) ∧
  F' 4 1 = F 6 1 ∧ F' 4 2 = F 4 2 ∧ F' 11 1 = F 13 1 ∧ F' 11 2 = F 11 2 ∧
  (∀ j : Int, 0 ≤ j → j ≤ F 6 1 → G' 5 j = G 7 j) ∧ (∀ j : Int, 0 ≤ j → j ≤ F 13 1 → G' 12 j = G 14 j) ∧
  (∀ g' x y : Int, 0 ≤ g' → g' ≤ 2 → 0 ≤ x → x < F 4 2 → 0 ≤ y → y < F 11 2 → vC F' G' 18 g' x y = if g' = g then T x y else vC F G 18 g' x y) ∧
  (∀ (k : Nat) (g' x y : Int), (k : Int) < F 2 8 → 0 ≤ g' → g' ≤ 2 → 0 ≤ x → x < F 4 2 → 0 ≤ y → y < F 11 2 → vC F' G' (79 + 2 * k) g' x y = vC F G (79 + 2 * k) g' x y) ∧
  ∀ k : Nat, (k : Int) < F 2 8 → F' (78 + 2 * k) 1 = F (78 + 2 * k) 1 + (if (k : Int) = F 2 8 - 1 then 1 else 0)
theorem adopt_62 {d : Nat} {S : AS} {F : AF} {G G1 : AG} {T : Int → Int → Int} (hd : 3 ≤ d) (hsh : ShC S) (h : TS F G T) (ho : Opn S F) (hR : RefA F G G1 (PSv (F 2 8))) {g : Int} (hg : 0 ≤ g) (hg2 : g ≤ 2) (l3 : 0 ≤ F 3 4) (l3' : F 3 4 ≤ 1000) (l10 : 0 ≤ F 10 4) (l10' : F 10 4 ≤ 1000) (ha : ∀ k : Nat, (k : Int) < F 2 8 → 0 ≤ F (78 + 2 * k) 1 ∧ F (78 + 2 * k) 1 ≤ 1000000000) {Q : AQ} (hq : ∀ F' G', Adop F F' G G' g T → Q none S F' G') : V_X2_adopt_62 d S F G1 Q g := by
  obtain ⟨t1, t2, t3, t4, t5, t6, t7, t8, t9, t10⟩ := h
  have s4 : Sq (G 5) (F 4 1) (F 4 2) := sq_co t1.1
  have s11 : Sq (G 12) (F 11 1) (F 11 2) := sq_co t1.2.1
  have s6 : Sq (G 7) (F 6 1) (F 4 2) := t4 ▸ sq_co t2
  have s13 : Sq (G 14) (F 13 1) (F 11 2) := t5 ▸ sq_co t3
  have k5 : G1 5 = G 5 := hR.1 5 (psv_lt (by decide) (by decide))
  have k7 : G1 7 = G 7 := hR.1 7 (psv_lt (by decide) (by decide))
  have k8 : G1 8 = G 8 := hR.1 8 (psv_lt (by decide) (by decide))
  have k12 : G1 12 = G 12 := hR.1 12 (psv_lt (by decide) (by decide))
  have k14 : G1 14 = G 14 := hR.1 14 (psv_lt (by decide) (by decide))
  have k15 : G1 15 = G 15 := hR.1 15 (psv_lt (by decide) (by decide))
  have k19 : G1 19 = G 19 := hR.1 19 (psv_lt (by decide) (by decide))
  unfold V_X2_adopt_62
  refine ⟨by omega, ok_adoptA (a := 3) (by omega) (at_3 hsh) (co_cg rfl k5 t1.1) (co_cg rfl k7 t2) t4 ?_ l3 l3' (fun F4 G5 A => ⟨rfl, rfl, ?_⟩)⟩
  · intro i i0 i1
    show G1 8 i = cb F G1 4 (G1 7 i)
    have := (co_lt t2 i0 i1).2
    rw [k8, k7, cb_cg (G := G) rfl k5, t8 i i0 i1]
    exact (bl_cb (by rw [← t4]; exact this)).symm
  obtain ⟨A1, A2, A3, A4, A5, A6, A7⟩ := A
  have f6 : F4 6 = F 6 := A1 6 (by decide) (by decide)
  have f13 : F4 13 = F 13 := A1 13 (by decide) (by decide)
  have f11 : F4 11 = F 11 := A1 11 (by decide) (by decide)
  have f10 : F4 10 = F 10 := A1 10 (by decide) (by decide)
  have g12 : G5 12 = G 12 := (A6 12 (by decide)).trans k12
  have g14 : G5 14 = G 14 := (A6 14 (by decide)).trans k14
  have g15 : G5 15 = G 15 := (A6 15 (by decide)).trans k15
  refine ok_adoptA (a := 10) (by omega) (at_10 hsh) (co_cg f11 g12 t1.2.1) (co_cg f13 g14 t3) (by show F4 13 2 = F4 11 2; rw [f13, f11]; exact t5) ?_ (by rw [f10]; exact l10) (by rw [f10]; exact l10') (fun F8 G9 B => ⟨rfl, rfl, by omega, by omega, by omega, by omega, fun G14 e14 => ?_⟩)
  · intro i i0 i1
    show G5 15 i = cb F4 G5 11 (G5 14 i)
    have i1' : i < F 13 1 := by rw [← f13]; exact i1
    have := (co_lt t3 i0 i1').2
    rw [g15, g14, cb_cg (F := F) (G := G) f11 g12, t9 i i0 i1']
    exact (bl_cb (by rw [← t5]; exact this)).symm
  obtain ⟨B1, B2, B3, B4, B5, B6, B7⟩ := B
  have m2 : F8 2 = F 2 := (B1 2 (by decide) (by decide)).trans (A1 2 (by decide) (by decide))
  obtain ⟨o0, o8, osv⟩ := ho
  rw [m2]
  -- what the state holds, whatever is done to the acts
  have key : ∀ F' : AF, (∀ c : Nat, c < 78 → F' c = F8 c) → (∀ k : Nat, (k : Int) < F 2 8 → F' (78 + 2 * k) 1 = F (78 + 2 * k) 1 + (if (k : Int) = F 2 8 - 1 then 1 else 0)) → Q none S F' G14 := by
    intro F' u1 u2
    have c5 : ∀ j : Int, 0 ≤ j → j ≤ F 6 1 → G14 5 j = G 7 j := by
      intro j j0 j1
      rw [e14, gcp_c (by decide), B6 5 (by decide)]
      exact (A7 j j0 j1).trans (by show G1 7 j = G 7 j; rw [k7])
    have c12 : ∀ j : Int, 0 ≤ j → j ≤ F 13 1 → G14 12 j = G 14 j := by
      intro j j0 j1
      rw [e14, gcp_c (by decide)]
      exact (B7 j j0 (by show j ≤ F4 13 1; rw [f13]; exact j1)).trans (by show G5 14 j = G 14 j; rw [g14])
    have n4 : F' 4 1 = F 6 1 := by
      rw [u1 4 (by decide), B1 4 (by decide) (by decide)]
      exact A4
    have w4 : F' 4 2 = F 4 2 := by
      rw [u1 4 (by decide), B1 4 (by decide) (by decide)]
      exact A5.trans t4
    have n11 : F' 11 1 = F 13 1 := by
      rw [u1 11 (by decide)]
      exact B4.trans (by show F4 13 1 = F 13 1; rw [f13])
    have w11 : F' 11 2 = F 11 2 := by
      rw [u1 11 (by decide)]
      exact B5.trans (by show F4 13 2 = F 11 2; rw [f13]; exact t5)
    have q5 : Sq (G14 5) (F 6 1) (F 4 2) := by
      have h1 := s6.1
      refine ⟨h1, ?_, ?_, fun i a b => ?_⟩
      · rw [c5 0 (by omega) (by omega)]; exact s6.2.1
      · rw [c5 _ (by omega) (by omega)]; exact s6.2.2.1
      · rw [c5 i (by omega) (by omega), c5 (i + 1) (by omega) (by omega)]; exact s6.2.2.2 i a b
    have q12 : Sq (G14 12) (F 13 1) (F 11 2) := by
      have h1 := s13.1
      refine ⟨h1, ?_, ?_, fun i a b => ?_⟩
      · rw [c12 0 (by omega) (by omega)]; exact s13.2.1
      · rw [c12 _ (by omega) (by omega)]; exact s13.2.2.1
      · rw [c12 i (by omega) (by omega), c12 (i + 1) (by omega) (by omega)]; exact s13.2.2.2 i a b
    have bx : ∀ x : Int, 0 ≤ x → x < F 4 2 → blk (G14 5) (F' 4 1) x = blk (G 7) (F 6 1) x := fun x x0 x1 => by
      rw [n4]; exact blk_cg q5 s6 rfl c5 x0 x1
    have by' : ∀ y : Int, 0 ≤ y → y < F 11 2 → blk (G14 12) (F' 11 1) y = blk (G 14) (F 13 1) y := fun y y0 y1 => by
      rw [n11]; exact blk_cg q12 s13 rfl c12 y0 y1
    have pl : ∀ p : Nat, PSv (F 2 8) p → ∀ g' x y : Int, (p = 18 → g' ≠ g) → 0 ≤ g' → g' ≤ 2 → 0 ≤ x → x < F 4 2 → 0 ≤ y → y < F 11 2 → vC F' G14 p g' x y = vC F G p g' x y := by
      intro p hp g' x y hpg a0 a1 x0 x1 y0 y1
      have b1 := bl_spec s6 x0 x1
      have b2 := bl_spec s13 y0 y1
      have hi := t2.2.1
      have hi2 := t3.2.1
      have pn : p ≠ 5 ∧ p ≠ 12 := by
        rcases hp with z | ⟨k, z1, z2⟩ <;> omega
      have r1 := bl_sub s4 s6 t6 x0 x1
      have r2 := bl_sub s11 s13 t7 y0 y1
      simp only [vC, cv]
      rw [bx x x0 x1, by' y y0 y1]
      generalize blk (G 7) (F 6 1) x = X at *
      generalize blk (G 14) (F 13 1) y = Y at *
      have st : G14 p (2304 * g' + 48 * Y + X) = G1 p (2304 * g' + 48 * Y + X) := by
        rw [e14]
        simp only [gcp]
        rw [if_neg (fun z => hpg z.1 (by omega)), B6 p pn.2, A6 p pn.1]
      rw [st, hR.2 p hp g' X Y a0 a1 b1.1 b1.2.1 b2.1 b2.2.1, t8 X b1.1 b1.2.1, t9 Y b2.1 b2.2.1, r1, r2]
    refine hq F' G14 ⟨fun c h1 h2 h3 h4 h5 => ?_, fun c h1 h2 h3 h4 => ?_, ?_, ?_, n4, w4, n11, w11, c5, c12, fun g' x y a0 a1 x0 x1 y0 y1 => ?_, fun k g' x y hk a0 a1 x0 x1 y0 y1 => ?_, u2⟩
    · rw [u1 c h1, B1 c h4 h5, A1 c h2 h3]
    · have e0 : G14 c = G9 c := by
        rw [e14]
        funext j
        exact gcp_c h4
      rw [e0, B6 c h3, A6 c h2, hR.1 c (psv_lt h1 h4)]
    · rw [u1 3 (by decide), B1 3 (by decide) (by decide)]
      exact A3.trans (by show F 3 4 + sI (fun i => nw (G1 5) (F 4 1) (G1 5 (F 4 1 - 1)) (G1 7 i)) (F 6 1) = _; rw [k5, k7])
    · rw [u1 10 (by decide)]
      exact B3.trans (by show F4 10 4 + sI (fun i => nw (G5 12) (F4 11 1) (G5 12 (F4 11 1 - 1)) (G5 14 i)) (F4 13 1) = _; rw [f10, f11, f13, g12, g14])
    · by_cases w : g' = g
      · rw [if_pos w, ← t10 x y x0 x1 y0 y1]
        have b1 := bl_spec s6 x0 x1
        have b2 := bl_spec s13 y0 y1
        have hi := t2.2.1
        have hi2 := t3.2.1
        simp only [vC, vT, cv]
        rw [bx x x0 x1, by' y y0 y1]
        generalize blk (G 7) (F 6 1) x = X at *
        generalize blk (G 14) (F 13 1) y = Y at *
        rw [e14]
        simp only [gcp]
        rw [if_pos ⟨trivial, by omega, by omega⟩, B6 19 (by decide), A6 19 (by decide), k19, w]
        congr 1
        omega
      · rw [if_neg w]
        exact pl 18 (Or.inl rfl) g' x y (fun _ => w) a0 a1 x0 x1 y0 y1
    · exact pl _ (psv_in hk) g' x y (fun z => absurd z (by omega)) a0 a1 x0 x1 y0 y1
  have f8 : ∀ k : Nat, F8 (78 + 2 * k) = F (78 + 2 * k) := fun k => by
    rw [B1 _ (by omega) (by omega), A1 _ (by omega) (by omega)]
  refine ⟨by omega, _, pu_savedAt hsh _, fun z => ?_, fun z => ?_⟩
  · rw [m2] at z
    by_cases w : 1 ≤ F 2 8
    · rw [if_pos ⟨by omega, by omega, by omega⟩, (osv (F 2 8 - 1).toNat (by omega)).1] at z
      omega
    · refine key F8 (fun _ _ => rfl) (fun k hk => absurd hk (by omega))
  · rw [m2] at z ⊢
    have w : 1 ≤ F 2 8 := by
      by_cases w : 1 ≤ F 2 8
      · exact w
      · rw [if_neg (fun y => absurd y.1 (by omega))] at z
        exact absurd rfl z
    have sv := osv (F 2 8 - 1).toNat (by omega)
    rw [if_pos ⟨by omega, by omega, by omega⟩, sv.1]
    have av := ha (F 2 8 - 1).toNat (by omega)
    rw [f8]
    refine ⟨sv.2, by omega, fun F24 e24 => ?_⟩
    refine key F24 (fun c hc => by rw [e24]; exact fu_row (by omega)) (fun k hk => ?_)
    rw [e24]
    by_cases w2 : (k : Int) = F 2 8 - 1
    · have : (F 2 8 - 1).toNat = k := by omega
      rw [this, fu_s, if_pos w2]
    · rw [if_neg w2, fu_c (by omega), f8, Int.add_zero]
theorem ts_o8 {F : AF} {G : AG} {T : Int → Int → Int} (h : TS F G T) : (∀ i : Int, 0 ≤ i → i < F 6 1 → 0 ≤ G 8 i ∧ G 8 i ≤ i) ∧ ∀ j : Int, 0 ≤ j → j < F 13 1 → 0 ≤ G 15 j ∧ G 15 j ≤ j := by
  obtain ⟨t1, t2, t3, t4, t5, t6, t7, t8, t9, t10⟩ := h
  have s4 : Sq (G 5) (F 4 1) (F 4 2) := sq_co t1.1
  have s11 : Sq (G 12) (F 11 1) (F 11 2) := sq_co t1.2.1
  have s6 : Sq (G 7) (F 6 1) (F 4 2) := t4 ▸ sq_co t2
  have s13 : Sq (G 14) (F 13 1) (F 11 2) := t5 ▸ sq_co t3
  constructor
  · intro i i0 i1
    have c := co_lt t2 i0 i1
    have b := bl_spec s4 (x := G 7 i) c.1 (by rw [← t4]; exact c.2)
    rw [t8 i i0 i1]
    generalize blk (G 5) (F 4 1) (G 7 i) = z at *
    have a := sq_lei s4 s6 t6 b.1 b.2.1
    refine ⟨b.1, ?_⟩
    by_cases w : z ≤ i
    · exact w
    · have := rise_lt s6.2.2.2 (i := i) (j := z) i0 (by omega) (by omega)
      omega
  · intro i i0 i1
    have c := co_lt t3 i0 i1
    have b := bl_spec s11 (x := G 14 i) c.1 (by rw [← t5]; exact c.2)
    rw [t9 i i0 i1]
    generalize blk (G 12) (F 11 1) (G 14 i) = z at *
    have a := sq_lei s11 s13 t7 b.1 b.2.1
    refine ⟨b.1, ?_⟩
    by_cases w : z ≤ i
    · exact w
    · have := rise_lt s13.2.2.2 (i := i) (j := z) i0 (by omega) (by omega)
      omega
theorem refa_id {F : AF} {G : AG} {T : Int → Int → Int} (h : TS F G T) (n6 : ¬ F 4 1 < F 6 1) (n13 : ¬ F 11 1 < F 13 1) (P : Nat → Prop) : RefA F G G P := by
  obtain ⟨t1, t2, t3, t4, t5, t6, t7, t8, t9, t10⟩ := h
  have s4 : Sq (G 5) (F 4 1) (F 4 2) := sq_co t1.1
  have s11 : Sq (G 12) (F 11 1) (F 11 2) := sq_co t1.2.1
  have s6 : Sq (G 7) (F 6 1) (F 4 2) := t4 ▸ sq_co t2
  have s13 : Sq (G 14) (F 13 1) (F 11 2) := t5 ▸ sq_co t3
  have a := sq_same s4 s6 t6 (by omega)
  have b := sq_same s11 s13 t7 (by omega)
  refine ⟨fun _ _ => rfl, fun p _ g i j _ _ i0 i1 j0 j1 => ?_⟩
  rw [t8 i i0 i1, t9 j j0 j1, ← a.2 i i0 (by omega), ← b.2 j j0 (by omega), bl_at s4 i0 (by omega), bl_at s11 j0 (by omega)]
theorem ok_adopt {d : Nat} {S : AS} {F : AF} {G : AG} {T : Int → Int → Int} (hd : 3 ≤ d) (hsh : ShC S) (h : TS F G T) (ho : Opn S F) {g : Int} (hg : 0 ≤ g) (hg2 : g ≤ 2) (l3 : 0 ≤ F 3 4) (l3' : F 3 4 ≤ 1000) (l10 : 0 ≤ F 10 4) (l10' : F 10 4 ≤ 1000) (ha : ∀ k : Nat, (k : Int) < F 2 8 → 0 ≤ F (78 + 2 * k) 1 ∧ F (78 + 2 * k) 1 ≤ 1000000000) {Q : AQ} (hq : ∀ F' G', Adop F F' G G' g T → Q none S F' G') : Ok d MX2_adopt [vR 2, vI g] S F G Q := by
  have o := ts_o8 h
  have h6 := h.2.1
  have h13 := h.2.2.1
  have gr : V_X2_adopt_20 d S F G Q g := by
    unfold V_X2_adopt_20
    refine ⟨by omega, ok_refine hsh (at_18 hsh) (shc_n hsh 18 (by decide) (by decide)) (by decide) (by decide) h6.1 h6.2.1 h13.1 h13.2.1 o.1 o.2 (fun G1 r => ⟨rfl, rfl, ?_⟩)⟩
    refine up_ind (α := AG) (F 2 8 - 1) (fun i G1 => 0 ≤ i ∧ i ≤ F 2 8 ∧ RefA F G G1 (PSv i)) (fun i G1 => Go d MX2_adopt 30 [some (vR 2), some (vI g), some (vI i), none] [] S F G1 Q) ?_ ?_ 0 G1 ⟨by omega, ho.1, refa_0 r⟩
    · intro i G2 hI hi ih
      obtain ⟨i0, i1, hR⟩ := hI
      have o8 := ho.2.1
      have sv := ho.2.2 i.toNat (by omega)
      have e8 : G2 8 = G 8 := hR.1 8 (psv_lt (by decide) (by decide))
      have e15 : G2 15 = G 15 := hR.1 15 (psv_lt (by decide) (by decide))
      refine R_X2_adopt_30 hsh ?_
      unfold V_X2_adopt_30
      refine ⟨fun w => absurd w (by omega), fun _ => ⟨by omega, _, pu_savedAt hsh _, fun w => ?_, fun w => ?_⟩⟩
      · rw [if_pos ⟨i0, by omega, by omega⟩, sv.1] at w
        omega
      · rw [if_pos ⟨i0, by omega, by omega⟩, sv.1]
        refine ⟨sv.2, ok_refine hsh sv.2.2.2.1 sv.2.2.2.2 (by omega) (by omega) h6.1 h6.2.1 h13.1 h13.2.1 (by rw [e8]; exact o.1) (by rw [e15]; exact o.2) (fun G3 r3 => ⟨rfl, rfl, ?_⟩)⟩
        unfold V_X2_adopt_56
        exact ⟨by omega, ih G3 ⟨by omega, by omega, refa_s i0 hR (by have e : 78 + 2 * i.toNat + 1 = 79 + 2 * i.toNat := by omega
                                                                     rw [e] at r3; exact r3)⟩⟩
    · intro i G2 hI hi
      obtain ⟨i0, i1, hR⟩ := hI
      have ei : i = F 2 8 := by omega
      refine R_X2_adopt_30 hsh ?_
      unfold V_X2_adopt_30
      refine ⟨fun _ => adopt_62 hd hsh h ho (ei ▸ hR) hg hg2 l3 l3' l10 l10' ha hq, fun w => absurd w (by omega)⟩
  refine ok_go rfl (by decide) (Nat.le_of_ble_eq_true rfl) (R_X2_adopt_0 hsh ?_)
  unfold V_X2_adopt_0
  refine ⟨by omega, _, pu_grows (at_3 hsh), fun _ => gr, fun z => ⟨_, pu_grows (at_10 hsh), fun z2 => ?_, fun _ => gr⟩⟩
  exact adopt_62 hd hsh h ho (refa_id h (bI_0.mp z) (bI_0.mp z2) _) hg hg2 l3 l3' l10 l10' ha hq
