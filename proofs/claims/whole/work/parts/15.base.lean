/-! TOOLS -/
theorem pu_ok {d : Nat} {M : AM} {av : List AV} {S : AS} {F : AF} {G : AG} {r : Option AV} {Q : AQ} (h : Pu d M av S F G r) (hq : Q r S F G) : Ok d M av S F G Q :=
  ok_mono h (fun r' S' F' G' e => by
    obtain ⟨e1, e2, e3, e4⟩ := e
    rw [e1, e2, e3, e4]
    exact hq)
theorem pu_eq {d : Nat} {M : AM} {av : List AV} {S : AS} {F : AF} {G : AG} {r r' : Option AV} (h : Pu d M av S F G r) (e : r = r') : Pu d M av S F G r' := e ▸ h
/-- sums -/
def sNn (f : Int → Int) (n : Nat) : Int := match n with
  | 0 => 0
  | k + 1 => sNn f k + f k
def sI (f : Int → Int) (n : Int) : Int := sNn f n.toNat
theorem sI_0 (f : Int → Int) {n : Int} (h : n ≤ 0) : sI f n = 0 := by
  have : n.toNat = 0 := by omega
  simp only [sI, this, sNn]
theorem sI_1 (f : Int → Int) {n : Int} (h : 0 ≤ n) : sI f (n + 1) = sI f n + f n := by
  have e : (n + 1).toNat = n.toNat + 1 := by omega
  have e2 : ((n.toNat : Nat) : Int) = n := by omega
  simp only [sI, e, sNn, e2]
theorem sNn_congr {f g : Int → Int} : ∀ n : Nat, (∀ i : Int, 0 ≤ i → i < n → f i = g i) → sNn f n = sNn g n := by
  intro n
  induction n with
  | zero => intro _; rfl
  | succ k ih =>
    intro h
    simp only [sNn]
    rw [ih (fun i h0 h1 => h i h0 (by omega)), h k (by omega) (by omega)]
theorem sI_congr {f g : Int → Int} {n : Int} (h : ∀ i : Int, 0 ≤ i → i < n → f i = g i) : sI f n = sI g n :=
  sNn_congr _ (fun i h0 h1 => h i h0 (by omega))
theorem sNn_le {f g : Int → Int} : ∀ n : Nat, (∀ i : Int, 0 ≤ i → i < n → f i ≤ g i) → sNn f n ≤ sNn g n := by
  intro n
  induction n with
  | zero => intro _; exact Int.le_refl _
  | succ k ih =>
    intro h
    simp only [sNn]
    have := ih (fun i h0 h1 => h i h0 (by omega))
    have := h k (by omega) (by omega)
    omega
theorem sI_le {f g : Int → Int} {n : Int} (h : ∀ i : Int, 0 ≤ i → i < n → f i ≤ g i) : sI f n ≤ sI g n :=
  sNn_le _ (fun i h0 h1 => h i h0 (by omega))
theorem sNn_z : ∀ n : Nat, sNn (fun _ => 0) n = 0 := by
  intro n
  induction n with
  | zero => rfl
  | succ k ih => simp only [sNn, ih]; rfl
theorem sI_z (n : Int) : sI (fun _ => 0) n = 0 := sNn_z _
theorem sI_pos {f : Int → Int} {n : Int} (h : ∀ i : Int, 0 ≤ i → i < n → 0 ≤ f i) : 0 ≤ sI f n := by
  have := sI_le (f := fun _ => 0) (g := f) (n := n) h
  rw [sI_z] at this
  exact this
/-- a part of a sum of what isn't below 0 -/
theorem sI_part {f : Int → Int} {n m : Int} (h0 : 0 ≤ m) (hm : m ≤ n) (h : ∀ i : Int, 0 ≤ i → i < n → 0 ≤ f i) : sI f m ≤ sI f n := by
  obtain ⟨k, hk⟩ : ∃ k : Nat, n = m + k := ⟨(n - m).toNat, by omega⟩
  subst hk
  clear hm
  induction k with
  | zero => simp
  | succ k ih =>
    have e : m + ((k + 1 : Nat) : Int) = m + k + 1 := by omega
    rw [e, sI_1 f (by omega)]
    have := ih (fun i a b => h i a (by omega))
    have := h (m + k) (by omega) (by omega)
    omega
theorem sI_at {f : Int → Int} {n j : Int} (h0 : 0 ≤ j) (hj : j < n) (h : ∀ i : Int, 0 ≤ i → i < n → 0 ≤ f i) : f j ≤ sI f n := by
  have h1 := sI_part (f := f) (n := n) (m := j + 1) (by omega) (by omega) h
  rw [sI_1 f h0] at h1
  have := sI_pos (f := f) (n := j) (fun i a b => h i a (by omega))
  omega
theorem sNn_mul (f : Int → Int) (c : Int) : ∀ n : Nat, sNn (fun i => f i * c) n = sNn f n * c := by
  intro n
  induction n with
  | zero => simp [sNn]
  | succ k ih => simp only [sNn, ih, Int.add_mul]
theorem sI_mul (f : Int → Int) (c n : Int) : sI (fun i => f i * c) n = sI f n * c := sNn_mul f c _
theorem sNn_add (f g : Int → Int) : ∀ n : Nat, sNn (fun i => f i + g i) n = sNn f n + sNn g n := by
  intro n
  induction n with
  | zero => rfl
  | succ k ih => simp only [sNn, ih]; omega
theorem sI_add (f g : Int → Int) (n : Int) : sI (fun i => f i + g i) n = sI f n + sI g n := sNn_add f g _
/-- how much of the lines from lo on ahead of hi lies from a to b -/
def ov (lo hi a b : Int) : Int := if min (hi - 1) b < max lo a then 0 else min (hi - 1) b - max lo a + 1
theorem ov_pos (lo hi a b : Int) : 0 ≤ ov lo hi a b := by
  simp only [ov]
  split <;> omega
theorem ov_le {lo hi a b : Int} (h : lo ≤ hi) : ov lo hi a b ≤ hi - lo := by
  simp only [ov]
  split <;> omega
def bI (p : Prop) [Decidable p] : Int := if p then 1 else 0
theorem bI_t {p : Prop} [Decidable p] (h : p) : bI p = 1 := if_pos h
theorem bI_f {p : Prop} [Decidable p] (h : ¬ p) : bI p = 0 := if_neg h
theorem bI_1 {p : Prop} [Decidable p] : bI p = 1 ↔ p := by
  simp only [bI]
  split <;> simp_all
theorem bI_0 {p : Prop} [Decidable p] : bI p = 0 ↔ ¬ p := by
  simp only [bI]
  split <;> simp_all
theorem bI_r {p : Prop} [Decidable p] : bI p = 0 ∨ bI p = 1 := by
  simp only [bI]
  split
  · exact Or.inr rfl
  · exact Or.inl rfl
