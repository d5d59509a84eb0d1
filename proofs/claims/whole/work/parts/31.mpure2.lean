/-! GREATEST COMMON DIVISOR, as the reference finds it -/
theorem tmod_nat (a b : Nat) : Int.tmod (a : Int) (b : Int) = ((a % b : Nat) : Int) := by
  rw [Int.tmod_eq_emod_of_nonneg (by omega)]
  rfl
theorem tdiv_nat (a b : Nat) : Int.tdiv (a : Int) (b : Int) = ((a / b : Nat) : Int) := by
  rw [Int.tdiv_eq_ediv_of_nonneg (by omega)]
  rfl
theorem common_step {d : Nat} {S : AS} {F : AF} {G : AG} (hsm : ShM S) {a b : Nat} (ha : a < 9223372036854775808) (hb : b < 9223372036854775808) (hd : b ≠ 0 → 1 ≤ d) (h : b ≠ 0 → Pu (d - 1) MX10_common [vJ (b : Int), vJ ((a % b : Nat) : Int)] S F G (some (vJ (Nat.gcd b (a % b) : Nat)))) : Pu d MX10_common [vJ (a : Int), vJ (b : Int)] S F G (some (vJ (Nat.gcd a b : Nat))) := by
  refine ok_go rfl (by decide) (Nat.le_of_ble_eq_true rfl) (R_X10_common_0 hsm ?_)
  unfold V_X10_common_0
  refine ⟨fun q => ?_, fun q => ?_⟩
  · have hb0 : b ≠ 0 := by omega
    have h1 : a / b ≤ a := Nat.div_le_self a b
    have h2 : a % b < b := Nat.mod_lt a (by omega)
    have r1 : r64 ((a / b : Nat) : Int) := by
      generalize a / b = w at h1 ⊢
      omega
    have r2 : r64 ((a % b : Nat) : Int) := by
      generalize a % b = w at h2 ⊢
      omega
    rw [tmod_nat, tdiv_nat]
    refine ⟨q, r1, r2, hd hb0, _, h hb0, ?_⟩
    have e : Nat.gcd b (a % b) = Nat.gcd a b := by rw [Nat.gcd_comm a b, Nat.gcd_rec b a, Nat.gcd_comm]
    rw [e]
    exact ⟨rfl, rfl, rfl, rfl⟩
  · have hb0 : b = 0 := by omega
    subst hb0
    exact ⟨by rw [Nat.gcd_zero_right], rfl, rfl, rfl⟩
theorem pu_common {S : AS} {F : AF} {G : AG} (hsm : ShM S) : ∀ (k d a b : Nat), b < 2 ^ k → a < 9223372036854775808 → b < 9223372036854775808 → 2 * k ≤ d → Pu d MX10_common [vJ (a : Int), vJ (b : Int)] S F G (some (vJ (Nat.gcd a b : Nat))) := by
  intro k
  induction k with
  | zero =>
    intro d a b h1 ha hb hd
    have : b = 0 := by simpa using h1
    exact common_step hsm ha hb (fun q => absurd this q) (fun q => absurd this q)
  | succ k ih =>
    intro d a b h1 ha hb hd
    refine common_step hsm ha hb (fun _ => by omega) (fun hb0 => ?_)
    have h2 : a % b < b := Nat.mod_lt a (by omega)
    refine common_step hsm hb (by omega) (fun _ => by omega) (fun hr => ?_)
    have h3 : b % (a % b) < a % b := Nat.mod_lt b (by omega)
    have h4 : b % (a % b) < 2 ^ k := by
      have h5 : a % b + b % (a % b) ≤ b := by
        have := Nat.div_add_mod b (a % b)
        have h6 : 1 ≤ b / (a % b) := Nat.div_pos (by omega) (by omega)
        have h7 : a % b * 1 ≤ a % b * (b / (a % b)) := Nat.mul_le_mul_left _ h6
        omega
      have h8 : 2 ^ (k + 1) = 2 * 2 ^ k := by rw [Nat.pow_succ, Nat.mul_comm]
      omega
    exact ih (d - 1 - 1) (a % b) (b % (a % b)) h4 (by omega) (by omega) (by omega)
/-! DISTANCES -/
def farS (lo hi p : Int) : Int := if hi < p then ((p - lo) * (p - lo + 1)) / 2 - ((p - hi - 1) * (p - hi)) / 2 else if p < lo then ((hi - p) * (hi - p + 1)) / 2 - ((lo - p - 1) * (lo - p)) / 2 else ((p - lo) * (p - lo + 1)) / 2 + ((hi - p) * (hi - p + 1)) / 2
