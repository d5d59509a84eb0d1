/-! THE K-TH UNIT, by bands and by cells -/
def Loc (r p : Int → Int) (n k j l : Int) : Prop := 0 ≤ j ∧ j < n ∧ l = k - sI (fun i => r i * p i) j ∧ 1 ≤ l ∧ l ≤ r j * p j
theorem loc_lt {r p : Int → Int} {n k j l j' l' : Int} (h : ∀ i : Int, 0 ≤ i → i < n → 0 ≤ r i * p i) (a : Loc r p n k j l) (b : Loc r p n k j' l') : ¬ j < j' := by
  intro w
  obtain ⟨a0, a1, a2, a3, a4⟩ := a
  obtain ⟨b0, b1, b2, b3, b4⟩ := b
  have s := sI_part (f := fun i => r i * p i) (n := j') (m := j + 1) (by omega) (by omega) (fun i i0 i1 => h i i0 (by omega))
  rw [sI_1 _ a0] at s
  have s' : sI (fun i => r i * p i) j + r j * p j ≤ sI (fun i => r i * p i) j' := s
  omega
theorem loc_uniq {r p : Int → Int} {n k j l j' l' : Int} (h : ∀ i : Int, 0 ≤ i → i < n → 0 ≤ r i * p i) (a : Loc r p n k j l) (b : Loc r p n k j' l') : j = j' ∧ l = l' := by
  have h1 := loc_lt h a b
  have h2 := loc_lt h b a
  have e : j = j' := by omega
  subst e
  exact ⟨rfl, by rw [a.2.2.1, b.2.2.1]⟩
theorem loc_no {r p : Int → Int} {n k j l : Int} (h : ∀ i : Int, 0 ≤ i → i < n → 0 ≤ r i * p i) (a : Loc r p n k j l) : k ≤ sI (fun i => r i * p i) n := by
  obtain ⟨a0, a1, a2, a3, a4⟩ := a
  have s := sI_part (f := fun i => r i * p i) (n := n) (m := j + 1) (by omega) (by omega) h
  rw [sI_1 _ a0] at s
  have s' : sI (fun i => r i * p i) j + r j * p j ≤ sI (fun i => r i * p i) n := s
  omega
theorem dv {R l p : Int} (hR : 0 ≤ R) (l1 : 1 ≤ l) (l2 : l ≤ R * p) : 0 < R ∧ 0 ≤ (l - 1) / R ∧ (l - 1) / R < p ∧ 1 ≤ l - (l - 1) / R * R ∧ l - (l - 1) / R * R ≤ R ∧ (l - 1) % R = l - 1 - (l - 1) / R * R ∧ 0 ≤ (l - 1) / R * R ∧ (l - 1) / R * R ≤ l - 1 ∧ (l - 1) / R ≤ l - 1 := by
  have h0 : 0 < R := by
    by_cases w : R = 0
    · rw [w, Int.zero_mul] at l2
      omega
    · omega
  have e := Int.mul_ediv_add_emod (l - 1) R
  have m0 := Int.emod_nonneg (l - 1) (by omega : R ≠ 0)
  have m1 := Int.emod_lt_of_pos (l - 1) h0
  have d0 : 0 ≤ (l - 1) / R := Int.ediv_nonneg (by omega) hR
  have d1 : (l - 1) / R < p := Int.ediv_lt_of_lt_mul h0 (by rw [Int.mul_comm]; omega)
  have d2 : (l - 1) / R ≤ l - 1 := Int.ediv_le_self _ (by omega)
  rw [Int.mul_comm] at e
  have q : 0 ≤ (l - 1) / R * R := Int.mul_nonneg d0 hR
  generalize (l - 1) / R * R = z at *
  refine ⟨h0, d0, d1, by omega, by omega, by omega, q, by omega, d2⟩
theorem dS_to {e : Int → Int} {n w : Int} (s : Sq e n w) (u : Int → Int) {lo hi j t : Int} (lo0 : 0 ≤ lo) (hw : hi < w) (j0 : 0 ≤ j) (j1 : j < n) (t0 : 0 ≤ t) (t1 : t < ov (e j) (e (j + 1)) lo hi) : lo ≤ max (e j) lo + t ∧ max (e j) lo + t ≤ hi ∧ blk e n (max (e j) lo + t) = j ∧ dS (fun y => u (blk e n y)) lo (max (e j) lo + t - 1) = sI (fun i => u i * ov (e i) (e (i + 1)) lo hi) j + u j * t := by
  have oj : max (e j) lo + t ≤ min (e (j + 1) - 1) hi := by
    unfold ov at t1
    by_cases c : min (e (j + 1) - 1) hi < max (e j) lo
    · rw [if_pos c] at t1; omega
    · rw [if_neg c] at t1; omega
  have e0 : 0 ≤ e j := by
    have := rise_le s.2.2.2 (i := 0) (j := j) (by omega) j0 (by omega)
    rw [s.2.1] at this
    exact this
  refine ⟨by omega, by omega, blk_uniq s.2.2.2 j0 j1 (by omega) (by omega), ?_⟩
  rw [← sI_dS s u lo0 _ (by omega), sI_end (m := j + 1) (by omega) (by omega) (fun i i0 i1 => ?_), sI_1 _ j0]
  · congr 1
    · refine sI_congr (fun i i0 i1 => ?_)
      have r1 := rise_le s.2.2.2 (i := i + 1) (j := j) (by omega) (by omega) (by omega)
      have r2 := s.2.2.2 i i0 (by omega)
      congr 1
      unfold ov
      have m1 : min (e (i + 1) - 1) (max (e j) lo + t - 1) = e (i + 1) - 1 := by omega
      have m2 : min (e (i + 1) - 1) hi = e (i + 1) - 1 := by omega
      rw [m1, m2]
    · show u j * ov (e j) (e (j + 1)) lo (max (e j) lo + t - 1) = u j * t
      congr 1
      unfold ov
      by_cases c : t = 0
      · rw [if_pos (by omega), c]
      · rw [if_neg (by omega)]; omega
  · have r1 := rise_le s.2.2.2 (i := j + 1) (j := i) (by omega) (by omega) (by omega)
    show u i * ov (e i) (e (i + 1)) lo (max (e j) lo + t - 1) = 0
    unfold ov
    rw [if_pos (by omega), Int.mul_zero]
/-- what a line of a band has in all, from one place to another -/
def rwS (ei : Int → Int) (ni : Int) (u : Int → Int → Int) (il ih j : Int) : Int := sI (fun i => u j i * ov (ei i) (ei (i + 1)) il ih) ni
def FdW (eo ei : Int → Int) (no ni : Int) (u : Int → Int → Int) (lo hi il ih k j l i m : Int) : Prop := Loc (rwS ei ni u il ih) (fun j => ov (eo j) (eo (j + 1)) lo hi) no k j l ∧ Loc (u j) (fun i => ov (ei i) (ei (i + 1)) il ih) ni (l - (l - 1) / rwS ei ni u il ih j * rwS ei ni u il ih j) i m
def FdC (eo ei : Int → Int) (no ni : Int) (u : Int → Int → Int) (lo hi il ih k o x r : Int) : Prop := ∃ j l i m : Int, FdW eo ei no ni u lo hi il ih k j l i m ∧ o = max (eo j) lo + (l - 1) / rwS ei ni u il ih j ∧ x = max (ei i) il + (m - 1) / u j i ∧ r = (m - 1) % u j i + 1
def tot (eo ei : Int → Int) (no ni : Int) (u : Int → Int → Int) (lo hi il ih : Int) : Int := sI (fun j => rwS ei ni u il ih j * ov (eo j) (eo (j + 1)) lo hi) no
def Upos (no ni : Int) (u : Int → Int → Int) : Prop := ∀ j i : Int, 0 ≤ j → j < no → 0 ≤ i → i < ni → 0 ≤ u j i
theorem rwS_pos {no ni : Int} {u : Int → Int → Int} (h : Upos no ni u) (ei : Int → Int) (il ih : Int) {j : Int} (j0 : 0 ≤ j) (j1 : j < no) : 0 ≤ rwS ei ni u il ih j := sI_pos (fun i i0 i1 => Int.mul_nonneg (h j i j0 j1 i0 i1) (ov_pos _ _ _ _))
theorem fdw_uniq {eo ei : Int → Int} {no ni : Int} {u : Int → Int → Int} {lo hi il ih k j l i m j' l' i' m' : Int} (h : Upos no ni u) (a : FdW eo ei no ni u lo hi il ih k j l i m) (b : FdW eo ei no ni u lo hi il ih k j' l' i' m') : j = j' ∧ l = l' ∧ i = i' ∧ m = m' := by
  obtain ⟨e1, e2⟩ := loc_uniq (fun i i0 i1 => Int.mul_nonneg (rwS_pos h ei il ih i0 i1) (ov_pos _ _ _ _)) a.1 b.1
  subst e1 e2
  obtain ⟨e3, e4⟩ := loc_uniq (fun i i0 i1 => Int.mul_nonneg (h j i a.1.1 a.1.2.1 i0 i1) (ov_pos _ _ _ _)) a.2 b.2
  exact ⟨rfl, rfl, e3, e4⟩
theorem fd_uniq {eo ei : Int → Int} {no ni : Int} {u : Int → Int → Int} {lo hi il ih k o x r o' x' r' : Int} (h : Upos no ni u) (a : FdC eo ei no ni u lo hi il ih k o x r) (b : FdC eo ei no ni u lo hi il ih k o' x' r') : o = o' ∧ x = x' ∧ r = r' := by
  obtain ⟨j, l, i, m, a1, a2, a3, a4⟩ := a
  obtain ⟨j', l', i', m', b1, b2, b3, b4⟩ := b
  obtain ⟨e1, e2, e3, e4⟩ := fdw_uniq h a1 b1
  subst e1 e2 e3 e4
  exact ⟨by rw [a2, b2], by rw [a3, b3], by rw [a4, b4]⟩
theorem fd_tot {eo ei : Int → Int} {no ni : Int} {u : Int → Int → Int} {lo hi il ih k o x r : Int} (h : Upos no ni u) (a : FdC eo ei no ni u lo hi il ih k o x r) : k ≤ tot eo ei no ni u lo hi il ih := by
  obtain ⟨j, l, i, m, a1, -⟩ := a
  exact loc_no (fun i i0 i1 => Int.mul_nonneg (rwS_pos h ei il ih i0 i1) (ov_pos _ _ _ _)) a1.1
theorem rwS_dS {ei : Int → Int} {ni w : Int} (s : Sq ei ni w) (u : Int → Int → Int) {il ih : Int} (i0 : 0 ≤ il) (i1 : ih < w) (j : Int) : rwS ei ni u il ih j = dS (fun x => u j (blk ei ni x)) il ih := sI_dS s (u j) i0 ih i1
theorem tot_dS {eo ei : Int → Int} {no ni h w : Int} (s : Sq eo no h) (si : Sq ei ni w) (u : Int → Int → Int) {lo hi il ih : Int} (a0 : 0 ≤ lo) (a1 : hi < h) (b0 : 0 ≤ il) (b1 : ih < w) : tot eo ei no ni u lo hi il ih = dS (fun y => dS (fun x => u (blk eo no y) (blk ei ni x)) il ih) lo hi := by
  unfold tot
  rw [sI_dS s (fun j => rwS ei ni u il ih j) a0 hi a1]
  exact dS_congr (fun y _ _ => rwS_dS si u b0 b1 _)
theorem fd_cells {eo ei : Int → Int} {no ni h w : Int} (s : Sq eo no h) (si : Sq ei ni w) {u : Int → Int → Int} (hu : Upos no ni u) {lo hi il ih k o x r : Int} (a0 : 0 ≤ lo) (a1 : hi < h) (b0 : 0 ≤ il) (b1 : ih < w) (f : FdC eo ei no ni u lo hi il ih k o x r) : lo ≤ o ∧ o ≤ hi ∧ il ≤ x ∧ x ≤ ih ∧ 1 ≤ r ∧ r ≤ u (blk eo no o) (blk ei ni x) ∧ dS (fun y => dS (fun x => u (blk eo no y) (blk ei ni x)) il ih) lo (o - 1) + dS (fun x => u (blk eo no o) (blk ei ni x)) il (x - 1) = k - r := by
  obtain ⟨j, l, i, m, ⟨⟨f1, f2, f3, f4, f5⟩, ⟨g1, g2, g3, g4, g5⟩⟩, eo', ex, er⟩ := f
  have R0 := rwS_pos hu ei il ih f1 f2
  have d1 := dv R0 f4 f5
  have d2 := dv (hu j i f1 f2 g1 g2) g4 g5
  obtain ⟨c1, c2, c3, c4⟩ := dS_to s (fun j => rwS ei ni u il ih j) a0 a1 f1 f2 d1.2.1 d1.2.2.1
  obtain ⟨t1, t2, t3, t4⟩ := dS_to si (u j) b0 b1 g1 g2 d2.2.1 d2.2.2.1
  rw [← eo'] at c1 c2 c3 c4
  rw [← ex] at t1 t2 t3 t4
  have e1 : dS (fun y => dS (fun x => u (blk eo no y) (blk ei ni x)) il ih) lo (o - 1) = dS (fun y => rwS ei ni u il ih (blk eo no y)) lo (o - 1) := dS_congr (fun y _ _ => (rwS_dS si u b0 b1 _).symm)
  have d26 := d2.2.2.2.2.2.1
  have d24 := d2.2.2.2.1
  have d25 := d2.2.2.2.2.1
  have cm1 := Int.mul_comm (rwS ei ni u il ih j) ((l - 1) / rwS ei ni u il ih j)
  have cm2 := Int.mul_comm (u j i) ((m - 1) / u j i)
  rw [e1, c3, t3, c4, t4]
  refine ⟨c1, c2, t1, t2, by omega, by omega, ?_⟩
  have f3' : l = k - sI (fun i => rwS ei ni u il ih i * ov (eo i) (eo (i + 1)) lo hi) j := f3
  have g3' : m = l - (l - 1) / rwS ei ni u il ih j * rwS ei ni u il ih j - sI (fun i => u j i * ov (ei i) (ei (i + 1)) il ih) i := g3
  rw [cm1, cm2]
  omega
