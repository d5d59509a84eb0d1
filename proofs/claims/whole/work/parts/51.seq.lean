/-! LOOPS; ROWS OF BORDERS; CELLS -/
/-- a loop that counts up to hi -/
theorem up_ind {α : Type} (hi : Int) (Inv T : Int → α → Prop) (step : ∀ (i : Int) (a : α), Inv i a → i ≤ hi → (∀ b : α, Inv (i + 1) b → T (i + 1) b) → T i a) (fin : ∀ (i : Int) (a : α), Inv i a → ¬ i ≤ hi → T i a) : ∀ (i : Int) (a : α), Inv i a → T i a := by
  have go : ∀ (k : Nat) (i : Int) (a : α), (hi + 1 - i).toNat ≤ k → Inv i a → T i a := by
    intro k
    induction k with
    | zero => intro i a hk ha; exact fin i a ha (by omega)
    | succ k ih =>
      intro i a hk ha
      by_cases w : i ≤ hi
      · exact step i a ha w (fun b hb => ih (i + 1) b (by omega) hb)
      · exact fin i a ha w
  intro i a ha
  exact go _ i a (Nat.le_refl _) ha
/-- a loop that counts down to lo -/
theorem down_ind {α : Type} (lo : Int) (Inv T : Int → α → Prop) (step : ∀ (i : Int) (a : α), Inv i a → lo ≤ i → (∀ b : α, Inv (i - 1) b → T (i - 1) b) → T i a) (fin : ∀ (i : Int) (a : α), Inv i a → ¬ lo ≤ i → T i a) : ∀ (i : Int) (a : α), Inv i a → T i a := by
  have go : ∀ (k : Nat) (i : Int) (a : α), (i + 1 - lo).toNat ≤ k → Inv i a → T i a := by
    intro k
    induction k with
    | zero => intro i a hk ha; exact fin i a ha (by omega)
    | succ k ih =>
      intro i a hk ha
      by_cases w : lo ≤ i
      · exact step i a ha w (fun b hb => ih (i - 1) b (by omega) hb)
      · exact fin i a ha w
  intro i a ha
  exact go _ i a (Nat.le_refl _) ha
/-- elements of a plane were changed -/
def Upd (G G1 : AG) (p : Nat) (off : Int) (P : Int → Int → Prop) (v : Int → Int → Int) : Prop := (∀ c : Nat, c ≠ p → G1 c = G c) ∧ (∀ i j : Int, 0 ≤ i → i < 48 → 0 ≤ j → j < 48 → (P i j → G1 p (off + 48 * j + i) = v i j) ∧ (¬ P i j → G1 p (off + 48 * j + i) = G p (off + 48 * j + i))) ∧ ∀ k : Int, (k < off ∨ off + 2304 ≤ k) → G1 p k = G p k
theorem upd_0 {G : AG} {p : Nat} {off : Int} {P : Int → Int → Prop} {v : Int → Int → Int} (h : ∀ i j : Int, 0 ≤ i → i < 48 → 0 ≤ j → j < 48 → ¬ P i j) : Upd G G p off P v := ⟨fun _ _ => rfl, fun i j a b c d => ⟨fun q => absurd q (h i j a b c d), fun _ => rfl⟩, fun _ _ => rfl⟩
theorem upd_s {G G1 G2 : AG} {p : Nat} {off i j z : Int} {P P2 : Int → Int → Prop} {v : Int → Int → Int} (h : Upd G G1 p off P v) (i0 : 0 ≤ i) (i1 : i < 48) (j0 : 0 ≤ j) (j1 : j < 48) (e : G2 = gu G1 p z (v i j)) (ez : z = off + 48 * j + i) (hp : ∀ a b : Int, P2 a b ↔ (P a b ∨ (a = i ∧ b = j))) : Upd G G2 p off P2 v := by
  obtain ⟨h1, h2, h3⟩ := h
  subst e ez
  refine ⟨fun c hc => by rw [gu_row hc]; exact h1 c hc, fun a b a0 a1 b0 b1 => ?_, fun k hk => by rw [gu_i (by omega)]; exact h3 k hk⟩
  by_cases w : a = i ∧ b = j
  · rw [w.1, w.2, gu_s]
    exact ⟨fun _ => rfl, fun q => absurd ((hp i j).mpr (Or.inr ⟨rfl, rfl⟩)) q⟩
  · have : off + 48 * b + a ≠ off + 48 * j + i := by omega
    rw [gu_i this]
    obtain ⟨q1, q2⟩ := h2 a b a0 a1 b0 b1
    refine ⟨fun q => ?_, fun q => q2 (fun z => q ((hp a b).mpr (Or.inl z)))⟩
    rcases (hp a b).mp q with z | z
    · exact q1 z
    · exact absurd z w
theorem upd_c {G G1 : AG} {p : Nat} {off : Int} {P P2 : Int → Int → Prop} {v : Int → Int → Int} (h : Upd G G1 p off P v) (hp : ∀ i j : Int, 0 ≤ i → i < 48 → 0 ≤ j → j < 48 → (P i j ↔ P2 i j)) : Upd G G1 p off P2 v := by
  obtain ⟨h1, h2, h3⟩ := h
  refine ⟨h1, fun i j a b c d => ?_, h3⟩
  rw [← hp i j a b c d]
  exact h2 i j a b c d
/-! rows of borders -/
def Sq (e : Int → Int) (n w : Int) : Prop := 1 ≤ n ∧ e 0 = 0 ∧ e n = w ∧ Rise e n
def isB (e : Int → Int) (n q : Int) : Prop := ∃ i : Int, 0 ≤ i ∧ i < n ∧ e i = q
def isD (e : Int → Int) (n q : Int) : Prop := ∃ i : Int, 0 ≤ i ∧ i ≤ n ∧ e i = q
theorem sq_co {F : AF} {G : AG} {o : Nat} {m : Int} (h : CO F G o m) : Sq (G (o + 1)) (F o 1) (F o 2) := ⟨h.1, h.2.2.2.2.1, h.2.2.2.2.2.1, h.2.2.2.2.2.2⟩
theorem sq_mx {F : AF} {G : AG} (h : MX F G) {a : Int} (h0 : 0 ≤ a) (h1 : a ≤ 1) : Sq (me F G a) (G 55 a) (msz F a) := ⟨(h a h0 h1).1, me_0 h h0 h1, me_n, mx_rise h h0 h1⟩
theorem isB_in {e : Int → Int} {n w q : Int} (h : Sq e n w) (hb : isB e n q) : 0 ≤ q ∧ q < w := by
  obtain ⟨i, i0, i1, rfl⟩ := hb
  obtain ⟨s1, s2, s3, s4⟩ := h
  have a := rise_le s4 (i := 0) (j := i) (by omega) i0 (by omega)
  have b := rise_lt s4 (i := i) (j := n) i0 i1 (by omega)
  omega
theorem isD_of {e : Int → Int} {n q : Int} (hb : isB e n q) : isD e n q := by
  obtain ⟨i, i0, i1, e⟩ := hb
  exact ⟨i, i0, by omega, e⟩
theorem isD_w {e : Int → Int} {n w : Int} (h : Sq e n w) : isD e n w := ⟨n, by have := h.1; omega, by omega, h.2.2.1⟩
theorem isB_0 {e : Int → Int} {n w : Int} (h : Sq e n w) : isB e n 0 := ⟨0, by omega, by have := h.1; omega, h.2.1⟩
theorem bl_spec {e : Int → Int} {n w x : Int} (h : Sq e n w) (x0 : 0 ≤ x) (x1 : x < w) : 0 ≤ blk e n x ∧ blk e n x < n ∧ e (blk e n x) ≤ x ∧ x < e (blk e n x + 1) := by
  obtain ⟨s1, s2, s3, s4⟩ := h
  exact blk_spec (blk_ex s1 (by omega) (by omega))
theorem bl_at {e : Int → Int} {n w i : Int} (h : Sq e n w) (i0 : 0 ≤ i) (i1 : i < n) : blk e n (e i) = i := blk_uniq h.2.2.2 i0 i1 (Int.le_refl _) (h.2.2.2 i i0 i1)
theorem bl_mono {e : Int → Int} {n w x y : Int} (h : Sq e n w) (x0 : 0 ≤ x) (xy : x ≤ y) (y1 : y < w) : blk e n x ≤ blk e n y := by
  have a := bl_spec h x0 (by omega)
  have b := bl_spec h (x := y) (by omega) y1
  rcases Int.lt_or_le (blk e n y) (blk e n x) with q | q
  · have := rise_le h.2.2.2 (i := blk e n y + 1) (j := blk e n x) (by omega) (by omega) (by omega)
    omega
  · exact q
theorem bl_cb {F : AF} {G : AG} {o : Nat} {p : Int} (hp : p < F o 2) : cb F G o p = blk (G (o + 1)) (F o 1) p := by
  simp only [cb]
  rw [if_pos hp]
theorem sq_inj {e : Int → Int} {n w i j : Int} (h : Sq e n w) (i0 : 0 ≤ i) (i1 : i ≤ n) (j0 : 0 ≤ j) (j1 : j ≤ n) (he : e i = e j) : i = j := by
  rcases Int.lt_or_le i j with q | q
  · have := rise_lt h.2.2.2 i0 q j1
    omega
  · rcases Int.lt_or_le j i with q2 | q2
    · have := rise_lt h.2.2.2 j0 q2 i1
      omega
    · omega
theorem sq_lt {e : Int → Int} {n w i j : Int} (h : Sq e n w) (i0 : 0 ≤ i) (i1 : i ≤ n) (j0 : 0 ≤ j) (j1 : j ≤ n) (he : e i < e j) : i < j := by
  rcases Int.lt_or_le i j with q | q
  · exact q
  · have := rise_le h.2.2.2 j0 q i1
    omega
/-- the same borders: the same row -/
theorem sq_half {e e' : Int → Int} {n n' w : Int} (h : Sq e n w) (h' : Sq e' n' w) (hb : ∀ q, isB e n q ↔ isB e' n' q) : ∀ k : Nat, (k : Int) < n → (k : Int) < n' → ∀ i : Int, 0 ≤ i → i ≤ k → e i = e' i := by
  intro k
  induction k with
  | zero =>
    intro _ _ i i0 i1
    have : i = 0 := by omega
    rw [this, h.2.1, h'.2.1]
  | succ k ih =>
    intro hk hk' i i0 i1
    by_cases w1 : i ≤ k
    · exact ih (by omega) (by omega) i i0 w1
    · have ei : i = (k : Int) + 1 := by omega
      obtain ⟨j, j0, j1, je⟩ := (hb (e i)).mp ⟨i, i0, by omega, rfl⟩
      obtain ⟨l, l0, l1, le⟩ := (hb (e' i)).mpr ⟨i, i0, by omega, rfl⟩
      have ej : i ≤ j := by
        rcases Int.lt_or_le j i with q | q
        · have := ih (by omega) (by omega) j j0 (by omega)
          have := rise_lt h.2.2.2 (i := j) (j := i) j0 q (by omega)
          omega
        · exact q
      have el : i ≤ l := by
        rcases Int.lt_or_le l i with q | q
        · have := ih (by omega) (by omega) l l0 (by omega)
          have := rise_lt h'.2.2.2 (i := l) (j := i) l0 q (by omega)
          omega
        · exact q
      have a := rise_le h'.2.2.2 (i := i) (j := j) i0 ej (by omega)
      have b := rise_le h.2.2.2 (i := i) (j := l) i0 el (by omega)
      omega
theorem sq_len {e e' : Int → Int} {n n' w : Int} (h : Sq e n w) (h' : Sq e' n' w) (hb : ∀ q, isB e n q ↔ isB e' n' q) : n ≤ n' := by
  rcases Int.lt_or_le n' n with q | q
  · exfalso
    have n0 := h'.1
    obtain ⟨j, j0, j1, je⟩ := (hb (e n')).mp ⟨n', by omega, q, rfl⟩
    have := sq_half h h' hb (n' - 1).toNat (by omega) (by omega) j j0 (by omega)
    have := rise_lt h.2.2.2 (i := j) (j := n') j0 j1 (by omega)
    omega
  · exact q
theorem sq_uniq {e e' : Int → Int} {n n' w : Int} (h : Sq e n w) (h' : Sq e' n' w) (hb : ∀ q, isB e n q ↔ isB e' n' q) : n = n' ∧ ∀ i : Int, 0 ≤ i → i ≤ n → e i = e' i := by
  have a := sq_len h h' hb
  have b := sq_len h' h (fun q => (hb q).symm)
  have en : n = n' := by omega
  refine ⟨en, fun i i0 i1 => ?_⟩
  have n0 := h.1
  by_cases w1 : i = n
  · rw [w1, h.2.2.1, en, h'.2.2.1]
  · exact sq_half h h' hb (n - 1).toNat (by omega) (by omega) i i0 (by omega)
/-- more borders: a block lies in one block of before -/
theorem bl_sub {e e' : Int → Int} {n n' w x : Int} (h : Sq e n w) (h' : Sq e' n' w) (hb : ∀ q, isB e n q → isB e' n' q) (x0 : 0 ≤ x) (x1 : x < w) : blk e n (e' (blk e' n' x)) = blk e n x := by
  obtain ⟨a0, a1, a2, a3⟩ := bl_spec h x0 x1
  obtain ⟨b0, b1, b2, b3⟩ := bl_spec h' x0 x1
  obtain ⟨k, k0, k1, ke⟩ := hb _ ⟨blk e n x, a0, a1, rfl⟩
  have : k ≤ blk e' n' x := by
    rcases Int.lt_or_le (blk e' n' x) k with q | q
    · have := rise_le h'.2.2.2 (i := blk e' n' x + 1) (j := k) (by omega) (by omega) (by omega)
      omega
    · exact q
  have := rise_le h'.2.2.2 (i := k) (j := blk e' n' x) k0 this (by omega)
  exact blk_uniq h.2.2.2 a0 a1 (by omega) (by omega)
/-- a side that is a border -/
theorem bl_lo {e : Int → Int} {n w x1 x : Int} (h : Sq e n w) (hb : isD e n x1) (a0 : 0 ≤ x1) (a1 : x1 < w) (x0 : 0 ≤ x) (xw : x < w) : x1 ≤ x ↔ blk e n x1 ≤ blk e n x := by
  constructor
  · intro q
    exact bl_mono h a0 q xw
  · intro q
    obtain ⟨k, k0, k1, ke⟩ := hb
    have kn : k < n := by
      rcases Int.lt_or_le k n with z | z
      · exact z
      · have : k = n := by omega
        rw [this, h.2.2.1] at ke
        omega
    have := bl_at h k0 kn
    rw [ke] at this
    have s := bl_spec h x0 xw
    have := rise_le h.2.2.2 (i := blk e n x1) (j := blk e n x) (by omega) q (by omega)
    have : e (blk e n x1) = x1 := by
      rw [show blk e n x1 = k by omega]
      exact ke
    omega
theorem bl_hi {e : Int → Int} {n w x2 x : Int} (h : Sq e n w) (hb : isD e n (x2 + 1)) (a0 : 0 ≤ x2) (a1 : x2 < w) (x0 : 0 ≤ x) (xw : x < w) : x ≤ x2 ↔ blk e n x ≤ blk e n x2 := by
  constructor
  · intro q
    exact bl_mono h x0 q a1
  · intro q
    obtain ⟨k, k0, k1, ke⟩ := hb
    have s := bl_spec h x0 xw
    have t := bl_spec h a0 a1
    have : blk e n x2 < k := sq_lt h t.1 (by omega) k0 k1 (by omega)
    have := rise_le h.2.2.2 (i := blk e n x + 1) (j := k) (by omega) (by omega) k1
    omega
/-- what a cell has -/
noncomputable def cv (e e1 : Int → Int) (n n1 : Int) (u : Int → Int → Int) (x y : Int) : Int := u (blk e n x) (blk e1 n1 y)
theorem cv_at {e e1 : Int → Int} {n n1 w h : Int} (s : Sq e n w) (s1 : Sq e1 n1 h) {u : Int → Int → Int} {i j : Int} (i0 : 0 ≤ i) (i1 : i < n) (j0 : 0 ≤ j) (j1 : j < n1) : u i j = cv e e1 n n1 u (e i) (e1 j) := by
  simp only [cv]
  rw [bl_at s i0 i1, bl_at s1 j0 j1]
/-- sums over cells of a line -/
def dS (f : Int → Int) (a b : Int) : Int := sI (fun k => f (a + k)) (b - a + 1)
theorem dS_0 (f : Int → Int) {a b : Int} (h : b < a) : dS f a b = 0 := sI_0 _ (by omega)
theorem dS_1 (f : Int → Int) {a b : Int} (h : a ≤ b + 1) : dS f a (b + 1) = dS f a b + f (b + 1) := by
  simp only [dS]
  rw [show b + 1 - a + 1 = b - a + 1 + 1 by omega, sI_1 _ (by omega)]
  congr 2
  omega
theorem dS_congr {f g : Int → Int} {a b : Int} (h : ∀ x : Int, a ≤ x → x ≤ b → f x = g x) : dS f a b = dS g a b := sI_congr (fun i i0 i1 => h _ (by omega) (by omega))
theorem dS_le {f g : Int → Int} {a b : Int} (h : ∀ x : Int, a ≤ x → x ≤ b → f x ≤ g x) : dS f a b ≤ dS g a b := sI_le (fun i i0 i1 => h _ (by omega) (by omega))
theorem dS_pos {f : Int → Int} {a b : Int} (h : ∀ x : Int, a ≤ x → x ≤ b → 0 ≤ f x) : 0 ≤ dS f a b := sI_pos (fun i i0 i1 => h _ (by omega) (by omega))
theorem dS_add (f g : Int → Int) (a b : Int) : dS (fun x => f x + g x) a b = dS f a b + dS g a b := sI_add _ _ _
theorem dS_mul (f : Int → Int) (c a b : Int) : dS (fun x => f x * c) a b = dS f a b * c := sI_mul _ _ _
theorem dS_z (a b : Int) : dS (fun _ => 0) a b = 0 := sI_z _
theorem dS_ind {P : Int → Prop} {a : Int} (h0 : ∀ b : Int, b < a → P b) (h1 : ∀ b : Int, a ≤ b + 1 → P b → P (b + 1)) (b : Int) : P b := by
  have go : ∀ (k : Nat) (b : Int), (b + 1 - a).toNat ≤ k → P b := by
    intro k
    induction k with
    | zero => intro b hb; exact h0 b (by omega)
    | succ k ih =>
      intro b hb
      by_cases w : b < a
      · exact h0 b w
      · have := h1 (b - 1) (by omega) (ih (b - 1) (by omega))
        rw [show b - 1 + 1 = b by omega] at this
        exact this
  exact go _ b (Nat.le_refl _)
theorem dS_split (f : Int → Int) {a m b : Int} (h1 : a ≤ m + 1) (h2 : m ≤ b) : dS f a b = dS f a m + dS f (m + 1) b := by
  have : m ≤ b → dS f a b = dS f a m + dS f (m + 1) b := by
    refine dS_ind (P := fun b => m ≤ b → dS f a b = dS f a m + dS f (m + 1) b) (a := m + 1) (fun b hb h => ?_) (fun b hb ih h => ?_) b
    · have : b = m := by omega
      rw [this, dS_0 f (a := m + 1) (by omega), Int.add_zero]
    · rw [dS_1 f (by omega), dS_1 f (a := m + 1) (by omega), ih (by omega)]
      omega
  exact this h2
theorem dS_shift (f : Int → Int) (a b c : Int) : dS (fun x => f (x + c)) a b = dS f (a + c) (b + c) := by
  simp only [dS]
  rw [show b + c - (a + c) + 1 = b - a + 1 by omega]
  refine sI_congr (fun i _ _ => ?_)
  congr 1
  omega
theorem sI_one {f : Int → Int} {n k : Int} (k0 : 0 ≤ k) (k1 : k < n) (h : ∀ i : Int, 0 ≤ i → i < n → i ≠ k → f i = 0) : sI f n = f k := by
  rw [sI_end (m := k + 1) (by omega) (by omega) (fun i a b => h i (by omega) b (by omega)), sI_1 _ k0, sI_beg (fun i a b => h i a (by omega) (by omega)), Int.zero_add]
theorem ov_1 {lo hi a b : Int} (h : a ≤ b + 1) (hl : lo ≤ hi) : ov lo hi a (b + 1) = ov lo hi a b + (if lo ≤ b + 1 ∧ b + 1 < hi then 1 else 0) := by
  simp only [ov]
  split <;> split <;> split <;> omega
/-- a sum over blocks is the sum over cells -/
theorem sI_dS {e : Int → Int} {n w : Int} (h : Sq e n w) (u : Int → Int) {a : Int} (a0 : 0 ≤ a) (b : Int) : b < w → sI (fun i => u i * ov (e i) (e (i + 1)) a b) n = dS (fun x => u (blk e n x)) a b := by
  refine dS_ind (P := fun b => b < w → sI (fun i => u i * ov (e i) (e (i + 1)) a b) n = dS (fun x => u (blk e n x)) a b) (a := a) (fun b hb _ => ?_) (fun b hb ih hw => ?_) b
  · rw [dS_0 _ hb]
    refine sI_beg (fun i _ _ => ?_)
    simp only [ov]
    rw [if_pos (by omega), Int.mul_zero]
  · rw [dS_1 _ hb, ← ih (by omega)]
    have s := bl_spec h (x := b + 1) (by omega) hw
    have e1 : sI (fun i => u i * (if e i ≤ b + 1 ∧ b + 1 < e (i + 1) then 1 else 0)) n = u (blk e n (b + 1)) := by
      rw [sI_one s.1 s.2.1]
      · rw [if_pos ⟨s.2.2.1, s.2.2.2⟩, Int.mul_one]
      · intro i i0 i1 ine
        rw [if_neg, Int.mul_zero]
        intro q
        exact ine (blk_uniq h.2.2.2 i0 i1 q.1 q.2).symm
    rw [← e1, ← sI_add]
    refine sI_congr (fun i i0 i1 => ?_)
    rw [ov_1 hb (Int.le_of_lt (h.2.2.2 i i0 i1)), Int.mul_add]
/-- the sum over the cells of a rectangle -/
def aS (f : Int → Int → Int) (x1 y1 x2 y2 : Int) : Int := dS (fun y => dS (fun x => f x y) x1 x2) y1 y2
theorem pS_aS {e e1 : Int → Int} {n n1 w h : Int} (s : Sq e n w) (s1 : Sq e1 n1 h) (u : Int → Int → Int) {x1 y1 x2 y2 : Int} (a0 : 0 ≤ x1) (a1 : x2 < w) (b0 : 0 ≤ y1) (b1 : y2 < h) : pS e e1 n n1 u x1 y1 x2 y2 = aS (cv e e1 n n1 u) x1 y1 x2 y2 := by
  have e2 : pS e e1 n n1 u x1 y1 x2 y2 = sI (fun j => pR e n u x1 x2 j * ov (e1 j) (e1 (j + 1)) y1 y2) n1 := rfl
  rw [e2, sI_dS s1 (pR e n u x1 x2) b0 y2 b1]
  refine dS_congr (fun y _ _ => ?_)
  exact sI_dS s (fun i => u i (blk e1 n1 y)) a0 x2 a1
theorem aS_congr {f g : Int → Int → Int} {x1 y1 x2 y2 : Int} (h : ∀ x y : Int, x1 ≤ x → x ≤ x2 → y1 ≤ y → y ≤ y2 → f x y = g x y) : aS f x1 y1 x2 y2 = aS g x1 y1 x2 y2 := dS_congr (fun y y0 y1 => dS_congr (fun x x0 x1 => h x y x0 x1 y0 y1))
theorem aS_add (f g : Int → Int → Int) (x1 y1 x2 y2 : Int) : aS (fun x y => f x y + g x y) x1 y1 x2 y2 = aS f x1 y1 x2 y2 + aS g x1 y1 x2 y2 := by
  simp only [aS]
  rw [← dS_add]
  exact dS_congr (fun y _ _ => dS_add _ _ _ _)
theorem aS_pos {f : Int → Int → Int} {x1 y1 x2 y2 : Int} (h : ∀ x y : Int, x1 ≤ x → x ≤ x2 → y1 ≤ y → y ≤ y2 → 0 ≤ f x y) : 0 ≤ aS f x1 y1 x2 y2 := dS_pos (fun y y0 y1 => dS_pos (fun x x0 x1 => h x y x0 x1 y0 y1))
theorem aS_le {f g : Int → Int → Int} {x1 y1 x2 y2 : Int} (h : ∀ x y : Int, x1 ≤ x → x ≤ x2 → y1 ≤ y → y ≤ y2 → f x y ≤ g x y) : aS f x1 y1 x2 y2 ≤ aS g x1 y1 x2 y2 := dS_le (fun y y0 y1 => dS_le (fun x x0 x1 => h x y x0 x1 y0 y1))
theorem aS_z (x1 y1 x2 y2 : Int) : aS (fun _ _ => 0) x1 y1 x2 y2 = 0 := by
  simp only [aS, dS_z]
theorem aS_shift (f : Int → Int → Int) (x1 y1 x2 y2 dx dy : Int) : aS (fun x y => f (x + dx) (y + dy)) x1 y1 x2 y2 = aS f (x1 + dx) (y1 + dy) (x2 + dx) (y2 + dy) := by
  simp only [aS]
  rw [← dS_shift]
  exact dS_congr (fun y _ _ => dS_shift (fun x => f x (y + dy)) _ _ _)
theorem dS_const (c : Int) {a b : Int} (h : a ≤ b + 1) : dS (fun _ => c) a b = (b - a + 1) * c := by
  refine (dS_ind (P := fun b => a ≤ b + 1 → dS (fun _ => c) a b = (b - a + 1) * c) (a := a) (fun b hb h => ?_) (fun b hb ih _ => ?_) b) h
  · rw [dS_0 _ hb, show b - a + 1 = 0 by omega, Int.zero_mul]
  · have e : ((b - a + 1) + 1) * c = (b - a + 1) * c + c := by
      rw [Int.add_mul (b - a + 1) 1 c, Int.one_mul]
    rw [dS_1 _ hb, ih hb, show b + 1 - a + 1 = (b - a + 1) + 1 by omega, e]
theorem aS_const (c : Int) {x1 y1 x2 y2 : Int} (h : x1 ≤ x2 + 1) (h2 : y1 ≤ y2 + 1) : aS (fun _ _ => c) x1 y1 x2 y2 = (x2 - x1 + 1) * (y2 - y1 + 1) * c := by
  simp only [aS]
  rw [dS_congr (g := fun _ => (x2 - x1 + 1) * c) (fun y _ _ => dS_const c h), dS_const _ h2, Int.mul_left_comm, ← Int.mul_assoc]
/-- a sum of what counts only from a to b -/
theorem dS_in (f : Int → Int) {a b x y : Int} : dS (fun k => if a ≤ k ∧ k ≤ b then f k else 0) x y = dS f (max a x) (min b y) := by
  refine dS_ind (P := fun y => dS (fun k => if a ≤ k ∧ k ≤ b then f k else 0) x y = dS f (max a x) (min b y)) (a := x) (fun y hy => ?_) (fun y hy ih => ?_) y
  · rw [dS_0 _ hy, dS_0 _ (by omega)]
  · rw [dS_1 _ hy, ih]
    by_cases w : a ≤ y + 1 ∧ y + 1 ≤ b
    · rw [if_pos w, show min b (y + 1) = min b y + 1 by omega, dS_1 _ (by omega)]
      congr 2
      omega
    · rw [if_neg w, Int.add_zero]
      by_cases w2 : a ≤ y + 1
      · congr 1
        omega
      · rw [dS_0 _ (by omega), dS_0 _ (by omega)]
theorem aS_in (f : Int → Int → Int) {a1 b1 a2 b2 x1 y1 x2 y2 : Int} : aS (fun x y => if a1 ≤ x ∧ x ≤ a2 ∧ b1 ≤ y ∧ y ≤ b2 then f x y else 0) x1 y1 x2 y2 = aS f (max a1 x1) (max b1 y1) (min a2 x2) (min b2 y2) := by
  simp only [aS]
  rw [← dS_in (fun y => dS (fun x => f x y) (max a1 x1) (min a2 x2)) (a := b1) (b := b2) (x := y1) (y := y2)]
  refine dS_congr (fun y y0 y1 => ?_)
  by_cases w : b1 ≤ y ∧ y ≤ b2
  · rw [if_pos w, ← dS_in (fun x => f x y)]
    refine dS_congr (fun x x0 x1 => ?_)
    by_cases v : a1 ≤ x ∧ x ≤ a2
    · rw [if_pos ⟨v.1, v.2, w.1, w.2⟩, if_pos v]
    · rw [if_neg (fun q => v ⟨q.1, q.2.1⟩), if_neg v]
  · rw [if_neg w]
    rw [dS_congr (g := fun _ => 0), dS_z]
    intro x _ _
    rw [if_neg (fun q => w ⟨q.2.2.1, q.2.2.2⟩)]
