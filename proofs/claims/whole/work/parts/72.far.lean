/-! DISTANCES -/
theorem tri_e (n : Int) : n * (n + 1) = 2 * (n * (n + 1) / 2) := by
  rcases (by omega : n = 2 * (n / 2) ∨ n = 2 * (n / 2) + 1) with h | h
  · generalize n / 2 = m at h
    subst h
    rw [Int.mul_assoc]
    omega
  · generalize n / 2 = m at h
    subst h
    have : 2 * m + 1 + 1 = 2 * (m + 1) := by omega
    rw [this, Int.mul_comm, Int.mul_assoc]
    omega
theorem far_id (a c : Int) : (a - c + 1) * (a + c) = a * (a + 1) - (c - 1) * c := by
  have := Int.mul_comm a c
  simp only [Int.add_mul, Int.sub_mul, Int.mul_add, Int.one_mul, Int.mul_one]
  omega
theorem tri_b {n : Int} (h0 : -1 ≤ n) (h1 : n ≤ 20000) : 0 ≤ n * (n + 1) ∧ n * (n + 1) ≤ 400020000 := by
  by_cases w : n = -1
  · subst w
    decide
  · exact mul_bd (A := 20000) (B := 20001) (by omega) (by omega) (by omega) (by omega)
theorem pu_sumUpTo {d : Nat} {S : AS} {F : AF} {G : AG} (hsh : ShC S) {n : Int} (h0 : -1 ≤ n) (h1 : n ≤ 20000) : Pu d MX7_sumUpTo [vJ n] S F G (some (vJ (n * (n + 1) / 2))) := by
  have b := tri_b h0 h1
  refine ok_go rfl (by decide) (Nat.le_of_ble_eq_true rfl) (R_X7_sumUpTo_0 hsh ?_)
  unfold V_X7_sumUpTo_0
  rw [tdiv_pos b.1]
  exact ⟨by omega, by omega, by omega, rfl, rfl, rfl, rfl⟩
/-- the second sum of a row of distances, written with its ends -/
theorem tri_c (c : Int) : (c - 1) * c = (c - 1) * (c - 1 + 1) := by
  have : c - 1 + 1 = c := by omega
  rw [this]
theorem far_bd {lo hi p : Int} (h0 : 0 ≤ lo) (h1 : lo ≤ hi) (h2 : hi ≤ 10000) (p0 : 0 ≤ p) (p1 : p ≤ 10000) : 0 ≤ farS lo hi p ∧ farS lo hi p ≤ 500000000 := by
  unfold farS
  by_cases c1 : hi < p
  · rw [if_pos c1]
    have a := tri_b (n := p - lo) (by omega) (by omega)
    have b := tri_b (n := p - hi - 1) (by omega) (by omega)
    have i := far_id (p - lo) (p - hi)
    have m := Int.mul_nonneg (by omega : 0 ≤ p - lo - (p - hi) + 1) (by omega : 0 ≤ p - lo + (p - hi))
    have e : p - hi - 1 + 1 = p - hi := by omega
    rw [e] at b
    omega
  · rw [if_neg c1]
    by_cases c2 : p < lo
    · rw [if_pos c2]
      have a := tri_b (n := hi - p) (by omega) (by omega)
      have b := tri_b (n := lo - p - 1) (by omega) (by omega)
      have i := far_id (hi - p) (lo - p)
      have m := Int.mul_nonneg (by omega : 0 ≤ hi - p - (lo - p) + 1) (by omega : 0 ≤ hi - p + (lo - p))
      have e : lo - p - 1 + 1 = lo - p := by omega
      rw [e] at b
      omega
    · rw [if_neg c2]
      have a := tri_b (n := p - lo) (by omega) (by omega)
      have b := tri_b (n := hi - p) (by omega) (by omega)
      omega
theorem pu_distances {d : Nat} {S : AS} {F : AF} {G : AG} (hd : 1 ≤ d) (hsh : ShC S) {lo hi p : Int} (h0 : 0 ≤ lo) (h1 : lo ≤ hi) (h2 : hi ≤ 10000) (p0 : 0 ≤ p) (p1 : p ≤ 10000) : Pu d MX7_distances [vI lo, vI hi, vI p] S F G (some (vJ (farS lo hi p))) := by
  have a1 := tri_b (n := p - lo)
  have a2 := tri_b (n := hi - p)
  have a3 := tri_b (n := p - hi - 1)
  have a4 := tri_b (n := lo - p - 1)
  have e3 : p - hi - 1 + 1 = p - hi := by omega
  have e4 : lo - p - 1 + 1 = lo - p := by omega
  refine ok_go rfl (by decide) (Nat.le_of_ble_eq_true rfl) (R_X7_distances_0 hsh ?_)
  unfold V_X7_distances_0
  refine ⟨fun y => ⟨fun y2 => ?_, fun y2 => ?_⟩, fun y => ?_⟩
  · have b1 := a1 (by omega) (by omega)
    have b2 := a2 (by omega) (by omega)
    refine ⟨by omega, hd, _, pu_sumUpTo hsh (by omega) (by omega), by omega, _, pu_sumUpTo hsh (by omega) (by omega), by omega, ?_, rfl, rfl, rfl⟩
    unfold farS
    rw [if_neg (by omega), if_neg (by omega)]
  · have b1 := a1 (by omega) (by omega)
    have b3 := a3 (by omega) (by omega)
    refine ⟨by omega, hd, _, pu_sumUpTo hsh (by omega) (by omega), by omega, by omega, _, pu_sumUpTo hsh (by omega) (by omega), by omega, ?_, rfl, rfl, rfl⟩
    unfold farS
    rw [e3]
    by_cases w : hi < p
    · rw [if_pos w]
    · rw [if_neg w, if_neg (by omega)]
      have : p - hi = 0 := by omega
      have h3 : hi - p = 0 := by omega
      rw [this, h3]
      simp
  · have b2 := a2 (by omega) (by omega)
    have b4 := a4 (by omega) (by omega)
    refine ⟨by omega, hd, _, pu_sumUpTo hsh (by omega) (by omega), by omega, by omega, _, pu_sumUpTo hsh (by omega) (by omega), by omega, ?_, rfl, rfl, rfl⟩
    unfold farS
    rw [e4]
    by_cases w : p < lo
    · rw [if_neg (by omega), if_pos w]
    · rw [if_neg (by omega), if_neg w]
      have h3 : lo - p = 0 := by omega
      have h4 : p - lo = 0 := by omega
      rw [h3, h4]
      simp
theorem pu_farAll1 {d : Nat} {S : AS} {F : AF} {G : AG} (hsm : ShM S) {lo hi p : Int} (h0 : -10000 ≤ lo) (h1 : lo ≤ hi) (h2 : hi ≤ 10000) (p0 : -10000 ≤ p) (p1 : p ≤ 10000) (hp : p ≤ hi) : Pu d MX10_farAll [vI lo, vI hi, vI p] S F G (some (vJ (farS lo hi p))) := by
  refine ok_go rfl (by decide) (Nat.le_of_ble_eq_true rfl) (R_X10_farAll_0 hsm ?_)
  unfold V_X10_farAll_0
  refine ⟨fun _ => ⟨fun y => ?_, fun y => ?_⟩, fun y => absurd hp y⟩
  · have b1 := tri_b (n := p - lo) (by omega) (by omega)
    have b2 := tri_b (n := hi - p) (by omega) (by omega)
    have t1 := tri_e (p - lo)
    have t2 := tri_e (hi - p)
    refine ⟨by omega, fun x2 e2 => ⟨by omega, fun x4 e4 => ?_⟩⟩
    rw [e2, e4, tdiv_pos (by omega)]
    refine ⟨by omega, by omega, by omega, by omega, by omega, by omega, ?_, rfl, rfl, rfl⟩
    unfold farS
    rw [if_neg (by omega), if_neg (by omega)]
    congr 2
    omega
  · have b2 := tri_b (n := hi - p) (by omega) (by omega)
    have b4 := tri_b (n := lo - p - 1) (by omega) (by omega)
    have t2 := tri_e (hi - p)
    have t4 := tri_e (lo - p - 1)
    have e4 : lo - p - 1 + 1 = lo - p := by omega
    rw [e4] at b4 t4
    have i := far_id (hi - p) (lo - p)
    have eq1 : hi - lo + 1 = hi - p - (lo - p) + 1 := by omega
    have eq2 : lo - p + hi - p = hi - p + (lo - p) := by omega
    have m := Int.mul_nonneg (by omega : 0 ≤ hi - p - (lo - p) + 1) (by omega : 0 ≤ hi - p + (lo - p))
    rw [eq1, eq2, tdiv_pos m]
    refine ⟨by omega, by omega, by omega, by omega, by omega, by omega, by omega, ?_, rfl, rfl, rfl⟩
    unfold farS
    rw [if_neg (by omega), if_pos (by omega)]
    congr 2
    omega
theorem far_neg {lo hi p : Int} (h1 : lo ≤ hi) (hp : hi < p) : farS (-hi) (-lo) (-p) = farS lo hi p := by
  unfold farS
  rw [if_neg (by omega), if_pos (by omega), if_pos hp]
  have e1 : -lo - -p = p - lo := by omega
  have e2 : -hi - -p = p - hi := by omega
  rw [e1, e2]
theorem pu_farAll {d : Nat} {S : AS} {F : AF} {G : AG} (hd : 1 ≤ d) (hsm : ShM S) {lo hi p : Int} (h0 : 0 ≤ lo) (h1 : lo ≤ hi) (h2 : hi ≤ 10000) (p0 : 0 ≤ p) (p1 : p ≤ 10000) : Pu d MX10_farAll [vI lo, vI hi, vI p] S F G (some (vJ (farS lo hi p))) := by
  by_cases hp : p ≤ hi
  · exact pu_farAll1 hsm (by omega) h1 h2 (by omega) p1 hp
  · have q := pu_farAll1 (d := d - 1) (S := S) (F := F) (G := G) hsm (lo := -hi) (hi := -lo) (p := -p) (by omega) (by omega) (by omega) (by omega) (by omega) (by omega)
    rw [far_neg h1 (by omega)] at q
    refine ok_go rfl (by decide) (Nat.le_of_ble_eq_true rfl) (R_X10_farAll_0 hsm ?_)
    unfold V_X10_farAll_0
    exact ⟨fun y => absurd y hp, fun _ => ⟨by omega, by omega, by omega, hd, _, q, rfl, rfl, rfl, rfl⟩⟩
