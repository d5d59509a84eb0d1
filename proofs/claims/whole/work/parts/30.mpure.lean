/-! THE REFERENCE: what its methods that change nothing answer -/
def msz (F : AF) (a : Int) : Int := if a = 0 then F 53 1 else F 53 2
def me (F : AF) (G : AG) (a i : Int) : Int := if i = G 55 a then msz F a else G 54 (48 * a + i)
def mu (G : AG) (g i j : Int) : Int := if g = -1 then G 57 (48 * j + i) + G 57 (2304 + 48 * j + i) + G 57 (4608 + 48 * j + i) else G 57 (2304 * g + 48 * j + i)
/-- the borders of both axes -/
def MX (F : AF) (G : AG) : Prop := ∀ a : Int, 0 ≤ a → a ≤ 1 → 1 ≤ G 55 a ∧ G 55 a ≤ 48 ∧ 1 ≤ msz F a ∧ msz F a ≤ 10000 ∧ G 54 (48 * a) = 0 ∧ ∀ i : Int, 0 ≤ i → i < G 55 a → me F G a i < me F G a (i + 1)
theorem me_0 {F : AF} {G : AG} (h : MX F G) {a : Int} (h0 : 0 ≤ a) (h1 : a ≤ 1) : me F G a 0 = 0 := by
  obtain ⟨q1, q2, q3, q4, q5, q6⟩ := h a h0 h1
  simp only [me]
  rw [if_neg (by omega), Int.add_zero]
  exact q5
theorem me_n {F : AF} {G : AG} {a : Int} : me F G a (G 55 a) = msz F a := by
  simp only [me, if_true]
theorem me_lt {F : AF} {G : AG} (h : MX F G) {a : Int} (h0 : 0 ≤ a) (h1 : a ≤ 1) {i j : Int} (hi : 0 ≤ i) (hij : i < j) (hj : j ≤ G 55 a) : me F G a i < me F G a j := by
  obtain ⟨q1, q2, q3, q4, q5, q6⟩ := h a h0 h1
  obtain ⟨k, hk⟩ : ∃ k : Nat, j = i + 1 + k := ⟨(j - i - 1).toNat, by omega⟩
  subst hk
  clear hij
  induction k with
  | zero =>
    have := q6 i hi (by omega)
    rw [show i + 1 + ((0 : Nat) : Int) = i + 1 by omega]
    exact this
  | succ k ih =>
    have e : i + 1 + ((k + 1 : Nat) : Int) = i + 1 + k + 1 := by omega
    have := ih (by omega)
    have h9 := q6 (i + 1 + k) (by omega) (by omega)
    rw [e]
    omega
theorem me_in {F : AF} {G : AG} (h : MX F G) {a : Int} (h0 : 0 ≤ a) (h1 : a ≤ 1) {i : Int} (hi : 0 ≤ i) (hn : i ≤ G 55 a) : 0 ≤ me F G a i ∧ me F G a i ≤ 10000 ∧ me F G a i ≤ msz F a := by
  obtain ⟨q1, q2, q3, q4, q5, q6⟩ := h a h0 h1
  have e0 := me_0 h h0 h1
  have en : me F G a (G 55 a) = msz F a := me_n
  constructor
  · by_cases e : i = 0
    · rw [e, e0]; omega
    · have := me_lt h h0 h1 (i := 0) (j := i) (by omega) (by omega) hn
      omega
  · by_cases e : i = G 55 a
    · rw [e, en]; omega
    · have := me_lt h h0 h1 (i := i) (j := G 55 a) hi (by omega) (by omega)
      omega
theorem pu_isIn {d : Nat} {S : AS} {F : AF} {G : AG} (hsm : ShM S) (v a b : Int) : Pu d MX10_isIn [vJ v, vJ a, vJ b] S F G (some (vI (bI (a ≤ v ∧ v ≤ b)))) := by
  refine ok_go rfl (by decide) (Nat.le_of_ble_eq_true rfl) (R_X10_isIn_0 hsm ?_)
  unfold V_X10_isIn_0
  refine ⟨fun h => ?_, fun h => ⟨fun h2 => ?_, fun h2 => ?_⟩⟩
  · exact ⟨by rw [bI_f (by omega)], rfl, rfl, rfl⟩
  · exact ⟨by rw [bI_f (by omega)], rfl, rfl, rfl⟩
  · exact ⟨by rw [bI_t (by omega)], rfl, rfl, rfl⟩
theorem pu_sizeOf {d : Nat} {S : AS} {F : AF} {G : AG} (hsm : ShM S) (a : Int) : Pu d MX10_sizeOf [vR 53, vI a] S F G (some (vI (msz F a))) := by
  refine ok_go rfl (by decide) (Nat.le_of_ble_eq_true rfl) (R_X10_sizeOf_0 hsm ?_)
  unfold V_X10_sizeOf_0
  refine ⟨fun h => ?_, fun h => ?_⟩
  · exact ⟨by simp only [msz, if_neg h], rfl, rfl, rfl⟩
  · exact ⟨by simp only [msz, if_pos h], rfl, rfl, rfl⟩
theorem pu_edgeAt {d : Nat} {S : AS} {F : AF} {G : AG} (hd : 1 ≤ d) (hsm : ShM S) (hx : MX F G) {a i : Int} (h0 : 0 ≤ a) (h1 : a ≤ 1) (hi : 0 ≤ i) (hn : i ≤ G 55 a) : Pu d MX10_edgeAt [vR 53, vI a, vI i] S F G (some (vI (me F G a i))) := by
  obtain ⟨q1, q2, q3, q4, q5, q6⟩ := hx a h0 h1
  refine ok_go rfl (by decide) (Nat.le_of_ble_eq_true rfl) (R_X10_edgeAt_0 hsm ?_)
  unfold V_X10_edgeAt_0
  refine ⟨h0, by omega, fun h => ⟨by omega, by omega, by omega, by omega, ?_⟩, fun h => ⟨hd, _, pu_sizeOf hsm a, ?_⟩⟩
  · exact ⟨by simp only [me, if_neg h], rfl, rfl, rfl⟩
  · exact ⟨by simp only [me, if_pos h], rfl, rfl, rfl⟩
theorem pu_acrossOf {d : Nat} {S : AS} {F : AF} {G : AG} (hd : 2 ≤ d) (hsm : ShM S) (hx : MX F G) {i : Int} (hi : 0 ≤ i) (hn : i < G 55 0) : Pu d MX10_acrossOf [vR 53, vI i] S F G (some (vI (me F G 0 (i + 1) - me F G 0 i))) := by
  have g1 := me_in hx (a := 0) (by omega) (by omega) (i := i) hi (by omega)
  have g2 := me_in hx (a := 0) (by omega) (by omega) (i := i + 1) (by omega) (by omega)
  have g3 := (hx 0 (by omega) (by omega)).2.1
  refine ok_go rfl (by decide) (Nat.le_of_ble_eq_true rfl) (R_X10_acrossOf_0 hsm ?_)
  unfold V_X10_acrossOf_0
  exact ⟨by omega, by omega, _, pu_edgeAt (by omega) hsm hx (by omega) (by omega) (by omega) (by omega), _, pu_edgeAt (by omega) hsm hx (by omega) (by omega) (by omega) (by omega), by omega, rfl, rfl, rfl, rfl⟩
theorem pu_downOf {d : Nat} {S : AS} {F : AF} {G : AG} (hd : 2 ≤ d) (hsm : ShM S) (hx : MX F G) {i : Int} (hi : 0 ≤ i) (hn : i < G 55 1) : Pu d MX10_downOf [vR 53, vI i] S F G (some (vI (me F G 1 (i + 1) - me F G 1 i))) := by
  have g1 := me_in hx (a := 1) (by omega) (by omega) (i := i) hi (by omega)
  have g2 := me_in hx (a := 1) (by omega) (by omega) (i := i + 1) (by omega) (by omega)
  have g3 := (hx 1 (by omega) (by omega)).2.1
  refine ok_go rfl (by decide) (Nat.le_of_ble_eq_true rfl) (R_X10_downOf_0 hsm ?_)
  unfold V_X10_downOf_0
  exact ⟨by omega, by omega, _, pu_edgeAt (by omega) hsm hx (by omega) (by omega) (by omega) (by omega), _, pu_edgeAt (by omega) hsm hx (by omega) (by omega) (by omega) (by omega), by omega, rfl, rfl, rfl, rfl⟩
theorem pu_slot {d : Nat} {S : AS} {F : AF} {G : AG} (hsm : ShM S) {g i j : Int} (hg : 0 ≤ g) (hg2 : g ≤ 2) (hi : 0 ≤ i) (hi2 : i ≤ 48) (hj : 0 ≤ j) (hj2 : j ≤ 48) : Pu d MX10_slot [vI g, vI i, vI j] S F G (some (vI (2304 * g + 48 * j + i))) := by
  refine ok_go rfl (by decide) (Nat.le_of_ble_eq_true rfl) (R_X10_slot_0 hsm ?_)
  unfold V_X10_slot_0
  exact ⟨by omega, by omega, by omega, by omega, rfl, rfl, rfl, rfl⟩
/-- what blocks hold: no good below 0, together within a bound -/
def MB (G : AG) (i j : Int) : Prop := 0 ≤ G 57 (48 * j + i) ∧ 0 ≤ G 57 (2304 + 48 * j + i) ∧ 0 ≤ G 57 (4608 + 48 * j + i) ∧ G 57 (48 * j + i) + G 57 (2304 + 48 * j + i) + G 57 (4608 + 48 * j + i) ≤ 1000000000000
theorem mu_in {G : AG} {g i j : Int} (hb : MB G i j) (hg : -1 ≤ g) (hg2 : g ≤ 2) : 0 ≤ mu G g i j ∧ mu G g i j ≤ 1000000000000 := by
  obtain ⟨b1, b2, b3, b4⟩ := hb
  have : g = -1 ∨ g = 0 ∨ g = 1 ∨ g = 2 := by omega
  simp only [mu]
  rcases this with rfl | rfl | rfl | rfl
  · rw [if_pos rfl]; omega
  · rw [if_neg (by omega), show 2304 * 0 + 48 * j + i = 48 * j + i by omega]; omega
  · rw [if_neg (by omega), show 2304 * 1 + 48 * j + i = 2304 + 48 * j + i by omega]; omega
  · rw [if_neg (by omega), show 2304 * 2 + 48 * j + i = 4608 + 48 * j + i by omega]; omega
theorem pu_in {d : Nat} {S : AS} {F : AF} {G : AG} (hd : 1 ≤ d) (hsm : ShM S) {g i j : Int} (hb : MB G i j) (hg : -1 ≤ g) (hg2 : g ≤ 2) (hi : 0 ≤ i) (hi2 : i < 48) (hj : 0 ≤ j) (hj2 : j < 48) : Pu d MX10_in [vR 53, vI g, vI i, vI j] S F G (some (vJ (mu G g i j))) := by
  obtain ⟨b1, b2, b3, b4⟩ := hb
  refine ok_go rfl (by decide) (Nat.le_of_ble_eq_true rfl) (R_X10_in_0 hsm ?_)
  unfold V_X10_in_0
  refine ⟨fun h => ⟨hd, _, pu_slot hsm (by omega) (by omega) hi (by omega) hj (by omega), by omega, by omega, ?_⟩, fun h => ⟨hd, _, pu_slot hsm (by omega) (by omega) hi (by omega) hj (by omega), by omega, by omega, _, pu_slot hsm (by omega) (by omega) hi (by omega) hj (by omega), by omega, by omega, ?_, _, pu_slot hsm (by omega) (by omega) hi (by omega) hj (by omega), by omega, by omega, ?_, ?_⟩⟩
  · exact ⟨by simp only [mu, if_neg h], rfl, rfl, rfl⟩
  all_goals rw [show 2304 * 0 + 48 * j + i = 48 * j + i by omega, show 2304 * 1 + 48 * j + i = 2304 + 48 * j + i by omega]
  · omega
  · rw [show 2304 * 2 + 48 * j + i = 4608 + 48 * j + i by omega]; omega
  · rw [show 2304 * 2 + 48 * j + i = 4608 + 48 * j + i by omega]
    exact ⟨by simp only [mu, if_pos h], rfl, rfl, rfl⟩
theorem pu_part {d : Nat} {S : AS} {F : AF} {G : AG} (hd : 2 ≤ d) (hsm : ShM S) (hx : MX F G) {a i x y : Int} (h0 : 0 ≤ a) (h1 : a ≤ 1) (hi : 0 ≤ i) (hn : i < G 55 a) (hx0 : -100000 ≤ x) (hx1 : x ≤ 100000) (hy0 : -100000 ≤ y) (hy1 : y ≤ 100000) : Pu d MX10_part [vR 53, vI a, vI i, vI x, vI y] S F G (some (vI (ov (me F G a i) (me F G a (i + 1)) x y))) := by
  have g1 := me_in hx h0 h1 (i := i) hi (by omega)
  have g2 := me_in hx h0 h1 (i := i + 1) (by omega) (by omega)
  have g3 := (hx a h0 h1).2.1
  have p1 := pu_edgeAt (d := d - 1) (by omega) hsm hx h0 h1 hi (Int.le_of_lt hn)
  have p2 := pu_edgeAt (d := d - 1) (i := i + 1) (by omega) hsm hx h0 h1 (by omega) (by omega)
  have k52 : ∀ lo hi9 : Int, -100000 ≤ lo → lo ≤ 100000 → -100000 ≤ hi9 → hi9 ≤ 100000 → lo = max (me F G a i) x → hi9 = min (me F G a (i + 1) - 1) y → V_X10_part_52 d S F G (fun r' S' F' G' => r' = some (vI (ov (me F G a i) (me F G a (i + 1)) x y)) ∧ S' = S ∧ F' = F ∧ G' = G) a i x y lo hi9 := by
    intro lo hi9 l1 l2 l3 l4 e1 e2
    unfold V_X10_part_52
    refine ⟨fun h => ⟨by omega, by omega, ?_, rfl, rfl, rfl⟩, fun h => ⟨?_, rfl, rfl, rfl⟩⟩
    · simp only [ov]
      rw [if_neg (by omega), e1, e2]
    · simp only [ov]
      rw [if_pos (by omega)]
  have k20 : ∀ lo : Int, -100000 ≤ lo → lo ≤ 100000 → lo = max (me F G a i) x → V_X10_part_20 d S F G (fun r' S' F' G' => r' = some (vI (ov (me F G a i) (me F G a (i + 1)) x y)) ∧ S' = S ∧ F' = F ∧ G' = G) a i x y lo := by
    intro lo l1 l2 e1
    unfold V_X10_part_20
    refine ⟨by omega, by omega, _, p2, by omega, fun h => ?_, fun h => ⟨_, p2, by omega, ?_⟩⟩
    · exact k52 lo y l1 l2 hy0 hy1 e1 (by omega)
    · exact k52 lo _ l1 l2 (by omega) (by omega) e1 (by omega)
  refine ok_go rfl (by decide) (Nat.le_of_ble_eq_true rfl) (R_X10_part_0 hsm ?_)
  unfold V_X10_part_0
  refine ⟨by omega, _, p1, fun h => ?_, fun h => ⟨_, p1, ?_⟩⟩
  · exact k20 x hx0 hx1 (by omega)
  · exact k20 _ (by omega) (by omega) (by omega)
theorem mul_bd {a b A B : Int} (h0 : 0 ≤ a) (h1 : a ≤ A) (h2 : 0 ≤ b) (h3 : b ≤ B) : 0 ≤ a * b ∧ a * b ≤ A * B :=
  ⟨Int.mul_nonneg h0 h2, Int.mul_le_mul h1 h3 h2 (Int.le_trans h0 h1)⟩
def MBA (G : AG) : Prop := ∀ i j : Int, 0 ≤ i → i < G 55 0 → 0 ≤ j → j < G 55 1 → MB G i j
def fX (F : AF) (G : AG) (g j x y : Int) : Int → Int := fun i => mu G g i j * ov (me F G 0 i) (me F G 0 (i + 1)) x y
def fY (F : AF) (G : AG) (g i x y : Int) : Int → Int := fun j => mu G g i j * ov (me F G 1 j) (me F G 1 (j + 1)) x y
def rowM (F : AF) (G : AG) (g j x y : Int) : Int := sI (fX F G g j x y) (G 55 0)
def colM (F : AF) (G : AG) (g i x y : Int) : Int := sI (fY F G g i x y) (G 55 1)
theorem fX_bd {F : AF} {G : AG} (hx : MX F G) (hb : MBA G) {g i j x y : Int} (hg : -1 ≤ g) (hg2 : g ≤ 2) (hi : 0 ≤ i) (hi2 : i < G 55 0) (hj : 0 ≤ j) (hj2 : j < G 55 1) : 0 ≤ fX F G g j x y i ∧ fX F G g j x y i ≤ 10000000000000000 := by
  have m := mu_in (hb i j hi hi2 hj hj2) hg hg2
  have g1 := me_in hx (a := 0) (by omega) (by omega) (i := i) hi (by omega)
  have g2 := me_in hx (a := 0) (by omega) (by omega) (i := i + 1) (by omega) (by omega)
  have g3 := (hx 0 (by omega) (by omega)).2.2.2.2.2 i hi hi2
  have o1 := ov_pos (me F G 0 i) (me F G 0 (i + 1)) x y
  have o2 := ov_le (lo := me F G 0 i) (hi := me F G 0 (i + 1)) (a := x) (b := y) (by omega)
  exact mul_bd (A := 1000000000000) (B := 10000) m.1 m.2 o1 (by omega)
theorem fY_bd {F : AF} {G : AG} (hx : MX F G) (hb : MBA G) {g i j x y : Int} (hg : -1 ≤ g) (hg2 : g ≤ 2) (hi : 0 ≤ i) (hi2 : i < G 55 0) (hj : 0 ≤ j) (hj2 : j < G 55 1) : 0 ≤ fY F G g i x y j ∧ fY F G g i x y j ≤ 10000000000000000 := by
  have m := mu_in (hb i j hi hi2 hj hj2) hg hg2
  have g1 := me_in hx (a := 1) (by omega) (by omega) (i := j) hj (by omega)
  have g2 := me_in hx (a := 1) (by omega) (by omega) (i := j + 1) (by omega) (by omega)
  have g3 := (hx 1 (by omega) (by omega)).2.2.2.2.2 j hj hj2
  have o1 := ov_pos (me F G 1 j) (me F G 1 (j + 1)) x y
  have o2 := ov_le (lo := me F G 1 j) (hi := me F G 1 (j + 1)) (a := x) (b := y) (by omega)
  exact mul_bd (A := 1000000000000) (B := 10000) m.1 m.2 o1 (by omega)
theorem pu_acrossSum {d : Nat} {S : AS} {F : AF} {G : AG} (hd : 3 ≤ d) (hsm : ShM S) (hx : MX F G) (hb : MBA G) {g j x y : Int} (hg : -1 ≤ g) (hg2 : g ≤ 2) (hj : 0 ≤ j) (hj2 : j < G 55 1) (hx0 : -100000 ≤ x) (hx1 : x ≤ 100000) (hy0 : -100000 ≤ y) (hy1 : y ≤ 100000) : Pu d MX10_acrossSum [vR 53, vI g, vI j, vI x, vI y] S F G (some (vJ (rowM F G g j x y))) := by
  have n0 := hx 0 (by omega) (by omega)
  have n1 := hx 1 (by omega) (by omega)
  have loop : ∀ (k : Nat) (i acc : Int), 0 ≤ i → i ≤ G 55 0 → (G 55 0 - i).toNat ≤ k → acc = sI (fX F G g j x y) i → 0 ≤ acc → acc ≤ i * 10000000000000000 → Go d MX10_acrossSum 6 [some (vR 53), some (vI g), some (vI j), some (vI x), some (vI y), some (vJ acc), none, some (vI i)] [] S F G (fun r' S' F' G' => r' = some (vJ (rowM F G g j x y)) ∧ S' = S ∧ F' = F ∧ G' = G) := by
    intro k
    induction k with
    | zero =>
      intro i acc h0 h1 h2 e a0 a1
      refine R_X10_acrossSum_6 hsm ?_
      unfold V_X10_acrossSum_6
      refine ⟨fun h => ⟨?_, rfl, rfl, rfl⟩, fun h => absurd h (by omega)⟩
      have : i = G 55 0 := by omega
      rw [e, this]
      rfl
    | succ k ih =>
      intro i acc h0 h1 h2 e a0 a1
      refine R_X10_acrossSum_6 hsm ?_
      unfold V_X10_acrossSum_6
      refine ⟨fun h => ⟨?_, rfl, rfl, rfl⟩, fun h => ?_⟩
      · have : i = G 55 0 := by omega
        rw [e, this]
        rfl
      · have hi2 : i < G 55 0 := by omega
        have fb := fX_bd hx hb (x := x) (y := y) hg hg2 h0 hi2 hj hj2
        have fe : fX F G g j x y i = mu G g i j * ov (me F G 0 i) (me F G 0 (i + 1)) x y := rfl
        rw [fe] at fb
        refine ⟨by omega, _, pu_in (by omega) hsm (hb i j h0 hi2 hj hj2) hg hg2 h0 (by omega) hj (by omega), _, pu_part (by omega) hsm hx (by omega) (by omega) h0 hi2 hx0 hx1 hy0 hy1, by omega, by omega, ?_⟩
        intro x16 e16
        refine ⟨by omega, ih (i + 1) x16 (by omega) (by omega) (by omega) ?_ (by omega) (by omega)⟩
        rw [sI_1 _ h0, e16, e, fe]
  refine ok_go rfl (by decide) (Nat.le_of_ble_eq_true rfl) (R_X10_acrossSum_0 hsm ?_)
  unfold V_X10_acrossSum_0
  exact loop _ 0 0 (by omega) (by omega) (Nat.le_refl _) (by rw [sI_0 _ (by omega)]) (by omega) (by omega)
theorem pu_downSum {d : Nat} {S : AS} {F : AF} {G : AG} (hd : 3 ≤ d) (hsm : ShM S) (hx : MX F G) (hb : MBA G) {g i x y : Int} (hg : -1 ≤ g) (hg2 : g ≤ 2) (hi : 0 ≤ i) (hi2 : i < G 55 0) (hx0 : -100000 ≤ x) (hx1 : x ≤ 100000) (hy0 : -100000 ≤ y) (hy1 : y ≤ 100000) : Pu d MX10_downSum [vR 53, vI g, vI i, vI x, vI y] S F G (some (vJ (colM F G g i x y))) := by
  have n0 := hx 0 (by omega) (by omega)
  have n1 := hx 1 (by omega) (by omega)
  have loop : ∀ (k : Nat) (j acc : Int), 0 ≤ j → j ≤ G 55 1 → (G 55 1 - j).toNat ≤ k → acc = sI (fY F G g i x y) j → 0 ≤ acc → acc ≤ j * 10000000000000000 → Go d MX10_downSum 6 [some (vR 53), some (vI g), some (vI i), some (vI x), some (vI y), some (vJ acc), none, some (vI j)] [] S F G (fun r' S' F' G' => r' = some (vJ (colM F G g i x y)) ∧ S' = S ∧ F' = F ∧ G' = G) := by
    intro k
    induction k with
    | zero =>
      intro j acc h0 h1 h2 e a0 a1
      refine R_X10_downSum_6 hsm ?_
      unfold V_X10_downSum_6
      refine ⟨fun h => ⟨?_, rfl, rfl, rfl⟩, fun h => absurd h (by omega)⟩
      have : j = G 55 1 := by omega
      rw [e, this]
      rfl
    | succ k ih =>
      intro j acc h0 h1 h2 e a0 a1
      refine R_X10_downSum_6 hsm ?_
      unfold V_X10_downSum_6
      refine ⟨fun h => ⟨?_, rfl, rfl, rfl⟩, fun h => ?_⟩
      · have : j = G 55 1 := by omega
        rw [e, this]
        rfl
      · have hj2 : j < G 55 1 := by omega
        have fb := fY_bd hx hb (x := x) (y := y) hg hg2 hi hi2 h0 hj2
        have fe : fY F G g i x y j = mu G g i j * ov (me F G 1 j) (me F G 1 (j + 1)) x y := rfl
        rw [fe] at fb
        refine ⟨by omega, _, pu_in (by omega) hsm (hb i j hi hi2 h0 hj2) hg hg2 hi (by omega) h0 (by omega), _, pu_part (by omega) hsm hx (by omega) (by omega) h0 hj2 hx0 hx1 hy0 hy1, by omega, by omega, ?_⟩
        intro x16 e16
        refine ⟨by omega, ih (j + 1) x16 (by omega) (by omega) (by omega) ?_ (by omega) (by omega)⟩
        rw [sI_1 _ h0, e16, e, fe]
  refine ok_go rfl (by decide) (Nat.le_of_ble_eq_true rfl) (R_X10_downSum_0 hsm ?_)
  unfold V_X10_downSum_0
  exact loop _ 0 0 (by omega) (by omega) (Nat.le_refl _) (by rw [sI_0 _ (by omega)]) (by omega) (by omega)
def fR (F : AF) (G : AG) (g x1 y1 x2 y2 : Int) : Int → Int := fun j => rowM F G g j x1 x2 * ov (me F G 1 j) (me F G 1 (j + 1)) y1 y2
def sumM (F : AF) (G : AG) (g x1 y1 x2 y2 : Int) : Int := sI (fR F G g x1 y1 x2 y2) (G 55 1)
theorem rowM_pos {F : AF} {G : AG} (hx : MX F G) (hb : MBA G) {g j x y : Int} (hg : -1 ≤ g) (hg2 : g ≤ 2) (hj : 0 ≤ j) (hj2 : j < G 55 1) : 0 ≤ rowM F G g j x y :=
  sI_pos (fun i h0 h1 => (fX_bd hx hb hg hg2 h0 h1 hj hj2).1)
theorem colM_pos {F : AF} {G : AG} (hx : MX F G) (hb : MBA G) {g i x y : Int} (hg : -1 ≤ g) (hg2 : g ≤ 2) (hi : 0 ≤ i) (hi2 : i < G 55 0) : 0 ≤ colM F G g i x y :=
  sI_pos (fun j h0 h1 => (fY_bd hx hb hg hg2 hi hi2 h0 h1).1)
theorem fR_pos {F : AF} {G : AG} (hx : MX F G) (hb : MBA G) {g j x1 y1 x2 y2 : Int} (hg : -1 ≤ g) (hg2 : g ≤ 2) (hj : 0 ≤ j) (hj2 : j < G 55 1) : 0 ≤ fR F G g x1 y1 x2 y2 j :=
  Int.mul_nonneg (rowM_pos hx hb hg hg2 hj hj2) (ov_pos _ _ _ _)
theorem pu_sumOf {d : Nat} {S : AS} {F : AF} {G : AG} (hd : 4 ≤ d) (hsm : ShM S) (hx : MX F G) (hb : MBA G) {g x1 y1 x2 y2 : Int} (hg : -1 ≤ g) (hg2 : g ≤ 2) (hx0 : -100000 ≤ x1) (hx1 : x1 ≤ 100000) (hy0 : -100000 ≤ y1) (hy1 : y1 ≤ 100000) (hx2 : -100000 ≤ x2) (hx3 : x2 ≤ 100000) (hy2 : -100000 ≤ y2) (hy3 : y2 ≤ 100000) (hT : sumM F G g x1 y1 x2 y2 ≤ 9000000000000000000) : Pu d MX10_sumOf [vR 53, vI g, vI x1, vI y1, vI x2, vI y2] S F G (some (vJ (sumM F G g x1 y1 x2 y2))) := by
  have n0 := hx 0 (by omega) (by omega)
  have n1 := hx 1 (by omega) (by omega)
  have loop : ∀ (k : Nat) (j acc : Int), 0 ≤ j → j ≤ G 55 1 → (G 55 1 - j).toNat ≤ k → acc = sI (fR F G g x1 y1 x2 y2) j → Go d MX10_sumOf 6 [some (vR 53), some (vI g), some (vI x1), some (vI y1), some (vI x2), some (vI y2), some (vJ acc), none, some (vI j), none] [] S F G (fun r' S' F' G' => r' = some (vJ (sumM F G g x1 y1 x2 y2)) ∧ S' = S ∧ F' = F ∧ G' = G) := by
    intro k
    induction k with
    | zero =>
      intro j acc h0 h1 h2 e
      refine R_X10_sumOf_6 hsm ?_
      unfold V_X10_sumOf_6
      refine ⟨fun h => ⟨?_, rfl, rfl, rfl⟩, fun h => absurd h (by omega)⟩
      have : j = G 55 1 := by omega
      rw [e, this]
      rfl
    | succ k ih =>
      intro j acc h0 h1 h2 e
      refine R_X10_sumOf_6 hsm ?_
      unfold V_X10_sumOf_6
      refine ⟨fun h => ⟨?_, rfl, rfl, rfl⟩, fun h => ?_⟩
      · have : j = G 55 1 := by omega
        rw [e, this]
        rfl
      · have hj2 : j < G 55 1 := by omega
        have hpos : ∀ i : Int, 0 ≤ i → i < G 55 1 → 0 ≤ fR F G g x1 y1 x2 y2 i := fun i a b => fR_pos hx hb hg hg2 a b
        have t1 := sI_part (f := fR F G g x1 y1 x2 y2) (n := G 55 1) (m := j + 1) (by omega) (by omega) hpos
        rw [sI_1 _ h0, ← e] at t1
        have t2 : 0 ≤ acc := by rw [e]; exact sI_pos (fun i a b => hpos i a (by omega))
        have t3 := hpos j h0 hj2
        have fe : fR F G g x1 y1 x2 y2 j = rowM F G g j x1 x2 * ov (me F G 1 j) (me F G 1 (j + 1)) y1 y2 := rfl
        have hs : sI (fR F G g x1 y1 x2 y2) (G 55 1) = sumM F G g x1 y1 x2 y2 := rfl
        have o1 := ov_pos (me F G 1 j) (me F G 1 (j + 1)) y1 y2
        have next : ∀ (acc2 z : Int), acc2 = acc + fR F G g x1 y1 x2 y2 j → V_X10_sumOf_53 d S F G (fun r' S' F' G' => r' = some (vJ (sumM F G g x1 y1 x2 y2)) ∧ S' = S ∧ F' = F ∧ G' = G) g x1 y1 x2 y2 acc2 j z := by
          intro acc2 z e2
          unfold V_X10_sumOf_53
          refine ⟨by omega, ih (j + 1) acc2 (by omega) (by omega) (by omega) ?_⟩
          rw [sI_1 _ h0, e2, e]
        refine ⟨by omega, _, pu_part (by omega) hsm hx (by omega) (by omega) h0 hj2 hy0 hy1 hy2 hy3, fun h9 => ?_, fun h9 => ?_⟩
        · refine next acc _ ?_
          have : ov (me F G 1 j) (me F G 1 (j + 1)) y1 y2 = 0 := by omega
          rw [fe, this, Int.mul_zero, Int.add_zero]
        · refine ⟨_, pu_acrossSum (by omega) hsm hx hb hg hg2 h0 hj2 hx0 hx1 hx2 hx3, by omega, by omega, ?_⟩
          intro x16 e16
          exact next x16 _ e16
  refine ok_go rfl (by decide) (Nat.le_of_ble_eq_true rfl) (R_X10_sumOf_0 hsm ?_)
  unfold V_X10_sumOf_0
  exact loop _ 0 0 (by omega) (by omega) (Nat.le_refl _) (by rw [sI_0 _ (by omega)])
theorem pu_isRectangle {d : Nat} {S : AS} {F : AF} {G : AG} (hsm : ShM S) (x1 y1 x2 y2 : Int) : Pu d MX10_isRectangle [vR 53, vI x1, vI y1, vI x2, vI y2] S F G (some (vI (bI (0 ≤ x1 ∧ x1 ≤ x2 ∧ x2 < F 53 1 ∧ 0 ≤ y1 ∧ y1 ≤ y2 ∧ y2 < F 53 2)))) := by
  refine ok_go rfl (by decide) (Nat.le_of_ble_eq_true rfl) (R_X10_isRectangle_0 hsm ?_)
  unfold V_X10_isRectangle_0
  refine ⟨fun h => ?_, fun h => ⟨fun h2 => ?_, fun h2 => ⟨fun h3 => ?_, fun h3 => ⟨fun h4 => ?_, fun h4 => ⟨fun h5 => ?_, fun h5 => ⟨fun h6 => ?_, fun h6 => ?_⟩⟩⟩⟩⟩⟩
  all_goals first | exact ⟨by rw [bI_f (by omega)], rfl, rfl, rfl⟩ | exact ⟨by rw [bI_t (by omega)], rfl, rfl, rfl⟩
theorem pu_isInside {d : Nat} {S : AS} {F : AF} {G : AG} (hsm : ShM S) (x y x1 y1 x2 y2 : Int) : Pu d MX10_isInside [vI x, vI y, vI x1, vI y1, vI x2, vI y2] S F G (some (vI (bI (x1 ≤ x ∧ x ≤ x2 ∧ y1 ≤ y ∧ y ≤ y2)))) := by
  refine ok_go rfl (by decide) (Nat.le_of_ble_eq_true rfl) (R_X10_isInside_0 hsm ?_)
  unfold V_X10_isInside_0
  refine ⟨fun h => ?_, fun h => ⟨fun h2 => ?_, fun h2 => ⟨fun h3 => ?_, fun h3 => ⟨fun h4 => ?_, fun h4 => ?_⟩⟩⟩⟩
  all_goals first | exact ⟨by rw [bI_f (by omega)], rfl, rfl, rfl⟩ | exact ⟨by rw [bI_t (by omega)], rfl, rfl, rfl⟩
theorem pu_isGood {d : Nat} {S : AS} {F : AF} {G : AG} (hd : 1 ≤ d) (hsm : ShM S) (g : Int) : Pu d MX10_isGood [vI g] S F G (some (vI (bI (0 ≤ g ∧ g ≤ 2)))) := by
  refine ok_go rfl (by decide) (Nat.le_of_ble_eq_true rfl) (R_X10_isGood_0 hsm ?_)
  unfold V_X10_isGood_0
  exact ⟨hd, _, pu_isIn hsm g 0 2, bI_r, rfl, rfl, rfl, rfl⟩
theorem pu_isGoodOrAll {d : Nat} {S : AS} {F : AF} {G : AG} (hd : 2 ≤ d) (hsm : ShM S) (g : Int) : Pu d MX10_isGoodOrAll [vI g] S F G (some (vI (bI (-1 ≤ g ∧ g ≤ 2)))) := by
  refine ok_go rfl (by decide) (Nat.le_of_ble_eq_true rfl) (R_X10_isGoodOrAll_0 hsm ?_)
  unfold V_X10_isGoodOrAll_0
  refine ⟨fun h => ⟨by rw [bI_t (by omega)], rfl, rfl, rfl⟩, fun h => ⟨by omega, _, pu_isGood (by omega) hsm g, fun h2 => ?_, fun h2 => ?_⟩⟩
  · rw [bI_0] at h2
    exact ⟨by rw [bI_f (by omega)], rfl, rfl, rfl⟩
  · rw [bI_0] at h2
    exact ⟨by rw [bI_t (by omega)], rfl, rfl, rfl⟩
theorem pu_isCell {d : Nat} {S : AS} {F : AF} {G : AG} (hd : 1 ≤ d) (hsm : ShM S) (hx : MX F G) (x y : Int) : Pu d MX10_isCell [vR 53, vI x, vI y] S F G (some (vI (bI (0 ≤ x ∧ x < F 53 1 ∧ 0 ≤ y ∧ y < F 53 2)))) := by
  have n0 := hx 0 (by omega) (by omega)
  have n1 := hx 1 (by omega) (by omega)
  simp only [msz, if_true] at n0
  simp only [msz] at n1
  rw [if_neg (by omega)] at n1
  refine ok_go rfl (by decide) (Nat.le_of_ble_eq_true rfl) (R_X10_isCell_0 hsm ?_)
  unfold V_X10_isCell_0
  refine ⟨by omega, hd, _, pu_isIn hsm _ _ _, fun h => ?_, fun h => ⟨by omega, _, pu_isIn hsm _ _ _, fun h2 => ?_, fun h2 => ?_⟩⟩
  · rw [bI_0] at h
    exact ⟨by rw [bI_f (by omega)], rfl, rfl, rfl⟩
  · rw [bI_0] at h h2
    exact ⟨by rw [bI_f (by omega)], rfl, rfl, rfl⟩
  · rw [bI_0] at h h2
    exact ⟨by rw [bI_t (by omega)], rfl, rfl, rfl⟩
theorem pu_isRoom {d : Nat} {S : AS} {F : AF} {G : AG} (hsm : ShM S) (hx : MX F G) {a : Int} (h0 : 0 ≤ a) (h1 : a ≤ 1) (hc : 0 ≤ F 53 20) (hc2 : F 53 20 ≤ 1000) : Pu d MX10_isRoom [vR 53, vI a] S F G (some (vI (bI (G 55 a + F 53 20 ≤ 48)))) := by
  have n0 := hx a h0 h1
  refine ok_go rfl (by decide) (Nat.le_of_ble_eq_true rfl) (R_X10_isRoom_0 hsm ?_)
  unfold V_X10_isRoom_0
  refine ⟨h0, by omega, by omega, fun h => ⟨by rw [bI_f (by omega)], rfl, rfl, rfl⟩, fun h => ⟨by rw [bI_t (by omega)], rfl, rfl, rfl⟩⟩
/-- a place is a border, or the end -/
def isE (F : AF) (G : AG) (a p : Int) : Prop := ∃ i : Int, 0 ≤ i ∧ i ≤ G 55 a ∧ me F G a i = p
theorem pu_isEdge {d : Nat} {S : AS} {F : AF} {G : AG} (hd : 1 ≤ d) (hsm : ShM S) (hx : MX F G) {a : Int} (h0 : 0 ≤ a) (h1 : a ≤ 1) (p : Int) : ∃ z : Int, (z = 0 ∨ z = 1) ∧ (z = 1 ↔ isE F G a p) ∧ Pu d MX10_isEdge [vR 53, vI a, vI p] S F G (some (vI z)) := by
  have n0 := hx a h0 h1
  have loop : ∀ (k : Nat) (z i : Int), (z = 0 ∨ z = 1) → (z = 1 ↔ isE F G a p) → 0 ≤ i → i ≤ G 55 a → (G 55 a - i).toNat ≤ k → (∀ j : Int, 0 ≤ j → j < i → me F G a j ≠ p) → Go d MX10_isEdge 2 [some (vR 53), some (vI a), some (vI p), some (vI i)] [] S F G (fun r' S' F' G' => r' = some (vI z) ∧ S' = S ∧ F' = F ∧ G' = G) := by
    intro k z
    induction k with
    | zero =>
      intro i hz hz2 hi hi2 hk hall
      refine R_X10_isEdge_2 hsm ?_
      unfold V_X10_isEdge_2
      refine ⟨h0, by omega, fun h => ⟨hd, _, pu_sizeOf hsm a, fun h9 => ?_, fun h9 => ?_⟩, fun h => absurd h (by omega)⟩
      · have : ¬ isE F G a p := by
          rintro ⟨j, j0, j1, je⟩
          by_cases e : j = G 55 a
          · rw [e, me_n] at je
            exact h9 je.symm
          · exact hall j j0 (by omega) je
        have : ¬ z = 1 := fun q => this (hz2.mp q)
        exact ⟨by rw [hz.resolve_right this], rfl, rfl, rfl⟩
      · have : isE F G a p := ⟨G 55 a, by omega, by omega, by rw [me_n]; exact h9.symm⟩
        exact ⟨by rw [hz2.mpr this], rfl, rfl, rfl⟩
    | succ k ih =>
      intro i hz hz2 hi hi2 hk hall
      refine R_X10_isEdge_2 hsm ?_
      unfold V_X10_isEdge_2
      refine ⟨h0, by omega, fun h => ⟨hd, _, pu_sizeOf hsm a, fun h9 => ?_, fun h9 => ?_⟩, fun h => ⟨by omega, by omega, by omega, by omega, fun h9 => ⟨by omega, ih (i + 1) hz hz2 (by omega) (by omega) (by omega) (fun j j0 j1 => ?_)⟩, fun h9 => ?_⟩⟩
      · have : ¬ isE F G a p := by
          rintro ⟨j, j0, j1, je⟩
          by_cases e : j = G 55 a
          · rw [e, me_n] at je
            exact h9 je.symm
          · exact hall j j0 (by omega) je
        have : ¬ z = 1 := fun q => this (hz2.mp q)
        exact ⟨by rw [hz.resolve_right this], rfl, rfl, rfl⟩
      · have : isE F G a p := ⟨G 55 a, by omega, by omega, by rw [me_n]; exact h9.symm⟩
        exact ⟨by rw [hz2.mpr this], rfl, rfl, rfl⟩
      · by_cases e : j = i
        · rw [e]
          simp only [me]
          rw [if_neg (by omega)]
          exact h9
        · exact hall j j0 (by omega)
      · have : isE F G a p := ⟨i, hi, hi2, by simp only [me]; rw [if_neg (by omega)]; exact h9⟩
        exact ⟨by rw [hz2.mpr this], rfl, rfl, rfl⟩
  obtain ⟨z, hz, hz2⟩ : ∃ z : Int, (z = 0 ∨ z = 1) ∧ (z = 1 ↔ isE F G a p) := by
    by_cases h : isE F G a p
    · exact ⟨1, Or.inr rfl, ⟨fun _ => h, fun _ => rfl⟩⟩
    · exact ⟨0, Or.inl rfl, ⟨fun q => absurd q (by omega), fun q => absurd q h⟩⟩
  refine ⟨z, hz, hz2, ok_go rfl (by decide) (Nat.le_of_ble_eq_true rfl) (R_X10_isEdge_0 hsm ?_)⟩
  unfold V_X10_isEdge_0
  exact loop _ z 0 hz hz2 (by omega) (by omega) (Nat.le_refl _) (fun j a b => absurd b (by omega))
/-- the band of a place -/
noncomputable def blk (e : Int → Int) (n p : Int) : Int := by
  classical
  exact if h : ∃ z : Int, 0 ≤ z ∧ z < n ∧ e z ≤ p ∧ p < e (z + 1) then h.choose else 0
theorem blk_spec {e : Int → Int} {n p : Int} (h : ∃ z : Int, 0 ≤ z ∧ z < n ∧ e z ≤ p ∧ p < e (z + 1)) : 0 ≤ blk e n p ∧ blk e n p < n ∧ e (blk e n p) ≤ p ∧ p < e (blk e n p + 1) := by
  have : blk e n p = h.choose := by
    simp only [blk]
    rw [dif_pos h]
  rw [this]
  exact h.choose_spec
/-- rising places -/
def Rise (e : Int → Int) (n : Int) : Prop := ∀ i : Int, 0 ≤ i → i < n → e i < e (i + 1)
theorem rise_lt {e : Int → Int} {n : Int} (h : Rise e n) {i j : Int} (hi : 0 ≤ i) (hij : i < j) (hj : j ≤ n) : e i < e j := by
  obtain ⟨k, hk⟩ : ∃ k : Nat, j = i + 1 + k := ⟨(j - i - 1).toNat, by omega⟩
  subst hk
  clear hij
  induction k with
  | zero =>
    have := h i hi (by omega)
    rw [show i + 1 + ((0 : Nat) : Int) = i + 1 by omega]
    exact this
  | succ k ih =>
    have e9 : i + 1 + ((k + 1 : Nat) : Int) = i + 1 + k + 1 := by omega
    have := ih (by omega)
    have h9 := h (i + 1 + k) (by omega) (by omega)
    rw [e9]
    omega
theorem rise_le {e : Int → Int} {n : Int} (h : Rise e n) {i j : Int} (hi : 0 ≤ i) (hij : i ≤ j) (hj : j ≤ n) : e i ≤ e j := by
  by_cases q : i = j
  · rw [q]; exact Int.le_refl _
  · exact Int.le_of_lt (rise_lt h hi (by omega) hj)
theorem blk_uniq {e : Int → Int} {n p : Int} (hr : Rise e n) {z : Int} (h0 : 0 ≤ z) (h1 : z < n) (h2 : e z ≤ p) (h3 : p < e (z + 1)) : blk e n p = z := by
  obtain ⟨q0, q1, q2, q3⟩ := blk_spec (e := e) (n := n) (p := p) ⟨z, h0, h1, h2, h3⟩
  by_cases a : blk e n p < z
  · have := rise_le hr (i := blk e n p + 1) (j := z) (by omega) (by omega) (by omega)
    omega
  · by_cases b : z < blk e n p
    · have := rise_le hr (i := z + 1) (j := blk e n p) (by omega) (by omega) (by omega)
      omega
    · omega
theorem blk_ex {e : Int → Int} {n p : Int} (hn : 1 ≤ n) (h0 : e 0 ≤ p) (h1 : p < e n) : ∃ z : Int, 0 ≤ z ∧ z < n ∧ e z ≤ p ∧ p < e (z + 1) := by
  obtain ⟨k, hk⟩ : ∃ k : Nat, n = k + 1 := ⟨(n - 1).toNat, by omega⟩
  subst hk
  clear hn
  induction k with
  | zero => exact ⟨0, by omega, by omega, h0, by simpa using h1⟩
  | succ k ih =>
    by_cases q : p < e (((k : Nat) : Int) + 1)
    · obtain ⟨z, z0, z1, z2, z3⟩ := ih q
      exact ⟨z, z0, by omega, z2, z3⟩
    · refine ⟨k + 1, by omega, by omega, by omega, ?_⟩
      have e9 : (((k + 1 : Nat) : Int) + 1) = (k : Int) + 1 + 1 := by omega
      rw [e9] at h1
      exact h1
theorem mx_rise {F : AF} {G : AG} (hx : MX F G) {a : Int} (h0 : 0 ≤ a) (h1 : a ≤ 1) : Rise (me F G a) (G 55 a) := (hx a h0 h1).2.2.2.2.2
/-- the block of a place of an axis -/
noncomputable def mb (F : AF) (G : AG) (a p : Int) : Int := blk (me F G a) (G 55 a) p
theorem mb_spec {F : AF} {G : AG} (hx : MX F G) {a p : Int} (h0 : 0 ≤ a) (h1 : a ≤ 1) (hp : 0 ≤ p) (hp2 : p < msz F a) : 0 ≤ mb F G a p ∧ mb F G a p < G 55 a ∧ me F G a (mb F G a p) ≤ p ∧ p < me F G a (mb F G a p + 1) := by
  refine blk_spec (blk_ex (hx a h0 h1).1 ?_ ?_)
  · rw [me_0 hx h0 h1]; exact hp
  · rw [me_n]; exact hp2
theorem pu_blockAt {d : Nat} {S : AS} {F : AF} {G : AG} (hd : 2 ≤ d) (hsm : ShM S) (hx : MX F G) {a p : Int} (h0 : 0 ≤ a) (h1 : a ≤ 1) (hp : 0 ≤ p) (hp2 : p < msz F a) : Pu d MX10_blockAt [vR 53, vI a, vI p] S F G (some (vI (mb F G a p))) := by
  have n0 := hx a h0 h1
  have loop : ∀ (k : Nat) (i : Int), 0 ≤ i → i < G 55 a → (G 55 a - i).toNat ≤ k → me F G a i ≤ p → Go d MX10_blockAt 2 [some (vR 53), some (vI a), some (vI p), some (vI i)] [] S F G (fun r' S' F' G' => r' = some (vI (mb F G a p)) ∧ S' = S ∧ F' = F ∧ G' = G) := by
    intro k
    induction k with
    | zero => intro i hi hi2 hk; exact absurd hk (by omega)
    | succ k ih =>
      intro i hi hi2 hk hle
      refine R_X10_blockAt_2 hsm ?_
      unfold V_X10_blockAt_2
      refine ⟨by omega, by omega, _, pu_edgeAt (by omega) hsm hx h0 h1 (by omega) (by omega), fun h => ?_, fun h => ?_⟩
      · exact ⟨by rw [show mb F G a p = i from blk_uniq (mx_rise hx h0 h1) hi hi2 hle h], rfl, rfl, rfl⟩
      · by_cases e : i + 1 = G 55 a
        · rw [e, me_n] at h
          exact absurd hp2 h
        · exact ih (i + 1) (by omega) (by omega) (by omega) (by omega)
  refine ok_go rfl (by decide) (Nat.le_of_ble_eq_true rfl) (R_X10_blockAt_0 hsm ?_)
  unfold V_X10_blockAt_0
  exact loop _ 0 (by omega) (by omega) (Nat.le_refl _) (by rw [me_0 hx h0 h1]; exact hp)
theorem pu_number {d : Nat} {S : AS} {F : AF} {G : AG} (hsm : ShM S) {x y : Int} (hw : 0 ≤ F 53 1) (hw2 : F 53 1 ≤ 10000) (hx0 : 0 ≤ x) (hx1 : x ≤ 100000) (hy0 : 0 ≤ y) (hy1 : y ≤ 100000) : Pu d MX10_number [vR 53, vI x, vI y] S F G (some (vJ (F 53 1 * y + x))) := by
  have b := mul_bd hw hw2 hy0 hy1
  refine ok_go rfl (by decide) (Nat.le_of_ble_eq_true rfl) (R_X10_number_0 hsm ?_)
  unfold V_X10_number_0
  exact ⟨by omega, by omega, rfl, rfl, rfl, rfl⟩
theorem pu_cell {d : Nat} {S : AS} {F : AF} {G : AG} (hd : 3 ≤ d) (hsm : ShM S) (hx : MX F G) (hb : MBA G) {g x y : Int} (hg : -1 ≤ g) (hg2 : g ≤ 2) (hx0 : 0 ≤ x) (hx1 : x < F 53 1) (hy0 : 0 ≤ y) (hy1 : y < F 53 2) : Pu d MX10_cell [vR 53, vI g, vI x, vI y] S F G (some (vJ (mu G g (mb F G 0 x) (mb F G 1 y)))) := by
  have e0 : msz F 0 = F 53 1 := rfl
  have e1 : msz F 1 = F 53 2 := rfl
  have s0 := mb_spec hx (a := 0) (p := x) (by omega) (by omega) hx0 (by omega)
  have s1 := mb_spec hx (a := 1) (p := y) (by omega) (by omega) hy0 (by omega)
  have n0 := hx 0 (by omega) (by omega)
  have n1 := hx 1 (by omega) (by omega)
  refine ok_go rfl (by decide) (Nat.le_of_ble_eq_true rfl) (R_X10_cell_0 hsm ?_)
  unfold V_X10_cell_0
  exact ⟨by omega, _, pu_blockAt (by omega) hsm hx (by omega) (by omega) hx0 (by omega), _, pu_blockAt (by omega) hsm hx (by omega) (by omega) hy0 (by omega), _, pu_in (by omega) hsm (hb _ _ s0.1 s0.2.1 s1.1 s1.2.1) hg hg2 s0.1 (by omega) s1.1 (by omega), rfl, rfl, rfl, rfl⟩
/-- cells of blocks that have so many or more -/
def cfJ (F : AF) (G : AG) (g x1 y1 x2 y2 t i : Int) : Int → Int := fun j => if mu G g i j < t then 0 else ov (me F G 0 i) (me F G 0 (i + 1)) x1 x2 * ov (me F G 1 j) (me F G 1 (j + 1)) y1 y2
def cfI (F : AF) (G : AG) (g x1 y1 x2 y2 t : Int) : Int → Int := fun i => sI (cfJ F G g x1 y1 x2 y2 t i) (G 55 1)
def cellsM (F : AF) (G : AG) (g x1 y1 x2 y2 t : Int) : Int := sI (cfI F G g x1 y1 x2 y2 t) (G 55 0)
theorem ov_bd {F : AF} {G : AG} (hx : MX F G) {a i x y : Int} (h0 : 0 ≤ a) (h1 : a ≤ 1) (hi : 0 ≤ i) (hi2 : i < G 55 a) : 0 ≤ ov (me F G a i) (me F G a (i + 1)) x y ∧ ov (me F G a i) (me F G a (i + 1)) x y ≤ 10000 := by
  have g1 := me_in hx h0 h1 (i := i) hi (by omega)
  have g2 := me_in hx h0 h1 (i := i + 1) (by omega) (by omega)
  have g3 := (hx a h0 h1).2.2.2.2.2 i hi hi2
  have o2 := ov_le (lo := me F G a i) (hi := me F G a (i + 1)) (a := x) (b := y) (by omega)
  exact ⟨ov_pos _ _ _ _, by omega⟩
theorem cfJ_bd {F : AF} {G : AG} (hx : MX F G) {g x1 y1 x2 y2 t i j : Int} (hi : 0 ≤ i) (hi2 : i < G 55 0) (hj : 0 ≤ j) (hj2 : j < G 55 1) : 0 ≤ cfJ F G g x1 y1 x2 y2 t i j ∧ cfJ F G g x1 y1 x2 y2 t i j ≤ 100000000 := by
  have o1 := ov_bd hx (a := 0) (x := x1) (y := x2) (by omega) (by omega) hi hi2
  have o2 := ov_bd hx (a := 1) (x := y1) (y := y2) (by omega) (by omega) hj hj2
  have b := mul_bd (A := 10000) (B := 10000) o1.1 o1.2 o2.1 o2.2
  simp only [cfJ]
  split <;> omega
theorem pu_cellsFrom {d : Nat} {S : AS} {F : AF} {G : AG} (hd : 3 ≤ d) (hsm : ShM S) (hx : MX F G) (hb : MBA G) {g x1 y1 x2 y2 t : Int} (hg : -1 ≤ g) (hg2 : g ≤ 2) (hx0 : -100000 ≤ x1) (hx1 : x1 ≤ 100000) (hy0 : -100000 ≤ y1) (hy1 : y1 ≤ 100000) (hx2 : -100000 ≤ x2) (hx3 : x2 ≤ 100000) (hy2 : -100000 ≤ y2) (hy3 : y2 ≤ 100000) : Pu d MX10_cellsFrom [vR 53, vI g, vI x1, vI y1, vI x2, vI y2, vJ t] S F G (some (vJ (cellsM F G g x1 y1 x2 y2 t))) := by
  have n0 := hx 0 (by omega) (by omega)
  have n1 := hx 1 (by omega) (by omega)
  have inner : ∀ (i accO : Int), 0 ≤ i → i < G 55 0 → 0 ≤ accO → accO ≤ i * 4800000000 →
      (∀ acc2 : Int, acc2 = accO + cfI F G g x1 y1 x2 y2 t i → 0 ≤ acc2 → acc2 ≤ (i + 1) * 4800000000 → Go d MX10_cellsFrom 6 [some (vR 53), some (vI g), some (vI x1), some (vI y1), some (vI x2), some (vI y2), some (vJ t), none, some (vJ acc2), none, some (vI (i + 1)), none] [] S F G (fun r' S' F' G' => r' = some (vJ (cellsM F G g x1 y1 x2 y2 t)) ∧ S' = S ∧ F' = F ∧ G' = G)) →
      ∀ (k : Nat) (j acc : Int), 0 ≤ j → j ≤ G 55 1 → (G 55 1 - j).toNat ≤ k → acc = accO + sI (cfJ F G g x1 y1 x2 y2 t i) j → 0 ≤ acc → acc ≤ i * 4800000000 + j * 100000000 →
      Go d MX10_cellsFrom 20 [some (vR 53), some (vI g), some (vI x1), some (vI y1), some (vI x2), some (vI y2), some (vJ t), none, some (vJ acc), none, some (vI i), some (vI j)] [] S F G (fun r' S' F' G' => r' = some (vJ (cellsM F G g x1 y1 x2 y2 t)) ∧ S' = S ∧ F' = F ∧ G' = G) := by
    intro i accO hi hi2 ha0 ha1 cont k
    induction k with
    | zero =>
      intro j acc h0 h1 h2 e a0 a1
      refine R_X10_cellsFrom_20 hsm ?_
      unfold V_X10_cellsFrom_20
      have ej : j = G 55 1 := by omega
      refine ⟨fun h => ⟨by omega, cont acc (by rw [e, ej]; rfl) a0 (by omega)⟩, fun h => absurd h (by omega)⟩
    | succ k ih =>
      intro j acc h0 h1 h2 e a0 a1
      refine R_X10_cellsFrom_20 hsm ?_
      unfold V_X10_cellsFrom_20
      refine ⟨fun h => ?_, fun h => ?_⟩
      · have ej : j = G 55 1 := by omega
        exact ⟨by omega, cont acc (by rw [e, ej]; rfl) a0 (by omega)⟩
      · have hj2 : j < G 55 1 := by omega
        have cb := cfJ_bd hx (g := g) (x1 := x1) (y1 := y1) (x2 := x2) (y2 := y2) (t := t) hi hi2 h0 hj2
        have o1 := ov_bd hx (a := 0) (x := x1) (y := x2) (by omega) (by omega) hi hi2
        have o2 := ov_bd hx (a := 1) (x := y1) (y := y2) (by omega) (by omega) h0 hj2
        have b := mul_bd (A := 10000) (B := 10000) o1.1 o1.2 o2.1 o2.2
        have next : ∀ v : Int, v = cfJ F G g x1 y1 x2 y2 t i j → V_X10_cellsFrom_75 d S F G (fun r' S' F' G' => r' = some (vJ (cellsM F G g x1 y1 x2 y2 t)) ∧ S' = S ∧ F' = F ∧ G' = G) g x1 y1 x2 y2 t acc i j v acc := by
          intro v ev
          unfold V_X10_cellsFrom_75
          refine ⟨by omega, fun x2' e2 => ⟨by omega, ih (j + 1) x2' (by omega) (by omega) (by omega) ?_ (by omega) (by omega)⟩⟩
          rw [sI_1 _ h0, e2, e, ev]
          omega
        refine ⟨by omega, _, pu_in (by omega) hsm (hb i j hi hi2 h0 hj2) hg hg2 hi (by omega) h0 (by omega), fun h9 => ?_, fun h9 => ⟨_, pu_part (by omega) hsm hx (by omega) (by omega) hi hi2 hx0 hx1 hx2 hx3, _, pu_part (by omega) hsm hx (by omega) (by omega) h0 hj2 hy0 hy1 hy2 hy3, by omega, ?_⟩⟩
        · exact next 0 (by simp only [cfJ]; rw [if_pos h9])
        · exact next _ (by simp only [cfJ]; rw [if_neg h9])
  have outer : ∀ (k : Nat) (i acc : Int), 0 ≤ i → i ≤ G 55 0 → (G 55 0 - i).toNat ≤ k → acc = sI (cfI F G g x1 y1 x2 y2 t) i → 0 ≤ acc → acc ≤ i * 4800000000 → Go d MX10_cellsFrom 6 [some (vR 53), some (vI g), some (vI x1), some (vI y1), some (vI x2), some (vI y2), some (vJ t), none, some (vJ acc), none, some (vI i), none] [] S F G (fun r' S' F' G' => r' = some (vJ (cellsM F G g x1 y1 x2 y2 t)) ∧ S' = S ∧ F' = F ∧ G' = G) := by
    intro k
    induction k with
    | zero =>
      intro i acc h0 h1 h2 e a0 a1
      refine R_X10_cellsFrom_6 hsm ?_
      unfold V_X10_cellsFrom_6
      have ei : i = G 55 0 := by omega
      exact ⟨fun h => ⟨by rw [e, ei]; rfl, rfl, rfl, rfl⟩, fun h => absurd h (by omega)⟩
    | succ k ih =>
      intro i acc h0 h1 h2 e a0 a1
      refine R_X10_cellsFrom_6 hsm ?_
      unfold V_X10_cellsFrom_6
      refine ⟨fun h => ?_, fun h => ?_⟩
      · have ei : i = G 55 0 := by omega
        exact ⟨by rw [e, ei]; rfl, rfl, rfl, rfl⟩
      · refine inner i acc h0 (by omega) a0 a1 (fun acc2 e2 b0 b1 => ih (i + 1) acc2 (by omega) (by omega) (by omega) ?_ b0 b1) _ 0 acc (by omega) (by omega) (Nat.le_refl _) ?_ a0 (by omega)
        · rw [sI_1 _ h0, e2, e]
        · rw [sI_0 _ (by omega), Int.add_zero]
  refine ok_go rfl (by decide) (Nat.le_of_ble_eq_true rfl) (R_X10_cellsFrom_0 hsm ?_)
  unfold V_X10_cellsFrom_0
  exact outer _ 0 0 (by omega) (by omega) (Nat.le_refl _) (by rw [sI_0 _ (by omega)]) (by omega) (by omega)
theorem pu_lineOf {d : Nat} {S : AS} {F : AF} {G : AG} (hd : 4 ≤ d) (hsm : ShM S) (hx : MX F G) (hb : MBA G) {g a i : Int} (hg : -1 ≤ g) (hg2 : g ≤ 2) (h0 : 0 ≤ a) (h1 : a ≤ 1) (hi : 0 ≤ i) (hi2 : i < G 55 a) : Pu d MX10_lineOf [vR 53, vI g, vI a, vI i] S F G (some (vJ (if a = 0 then colM F G g i 0 (F 53 2 - 1) else rowM F G g i 0 (F 53 1 - 1)))) := by
  have e0 : msz F 0 = F 53 1 := rfl
  have e1 : msz F 1 = F 53 2 := rfl
  have n0 := hx 0 (by omega) (by omega)
  have n1 := hx 1 (by omega) (by omega)
  refine ok_go rfl (by decide) (Nat.le_of_ble_eq_true rfl) (R_X10_lineOf_0 hsm ?_)
  unfold V_X10_lineOf_0
  refine ⟨fun h => ?_, fun h => ?_⟩
  · have : a = 1 := by omega
    subst this
    exact ⟨by omega, by omega, _, pu_acrossSum (by omega) hsm hx hb hg hg2 hi hi2 (by omega) (by omega) (by omega) (by omega), rfl, rfl, rfl, rfl⟩
  · subst h
    exact ⟨by omega, by omega, _, pu_downSum (by omega) hsm hx hb hg hg2 hi hi2 (by omega) (by omega) (by omega) (by omega), rfl, rfl, rfl, rfl⟩
theorem pu_peek {d : Nat} {S : AS} {F : AF} {G : AG} (hsm : ShM S) (h0 : 0 ≤ F 53 36) (h1 : F 53 35 ≤ 500) : Pu d MX10_peek [vR 53] S F G (some (vI (if F 53 36 < F 53 35 then bAnd (G 72 (F 53 36)) 255 else -1))) := by
  refine ok_go rfl (by decide) (Nat.le_of_ble_eq_true rfl) (R_X10_peek_0 hsm ?_)
  unfold V_X10_peek_0
  refine ⟨fun h => ⟨?_, rfl, rfl, rfl⟩, fun h => ⟨h0, by omega, ?_, rfl, rfl, rfl⟩⟩
  · rw [if_neg (by omega)]
  · rw [if_pos (by omega)]
