/-! THE SYSTEM: rectangles, what is there -/
theorem pu_width {d : Nat} {S : AS} {F : AF} {G : AG} {o : Nat} (hk : AtRect S o) (h1 : r32 (F o 2 - F o 0)) (h2 : r32 (F o 2 - F o 0 + 1)) : Pu d MX3_width [vR o] S F G (some (vI (F o 2 - F o 0 + 1))) := by
  refine ok_go rfl (by decide) (Nat.le_of_ble_eq_true rfl) (R_X3_width_0 hk ?_)
  unfold V_X3_width_0
  exact ⟨h1, h2, rfl, rfl, rfl, rfl⟩
theorem pu_height {d : Nat} {S : AS} {F : AF} {G : AG} {o : Nat} (hk : AtRect S o) (h1 : r32 (F o 3 - F o 1)) (h2 : r32 (F o 3 - F o 1 + 1)) : Pu d MX3_height [vR o] S F G (some (vI (F o 3 - F o 1 + 1))) := by
  refine ok_go rfl (by decide) (Nat.le_of_ble_eq_true rfl) (R_X3_height_0 hk ?_)
  unfold V_X3_height_0
  exact ⟨h1, h2, rfl, rfl, rfl, rfl⟩
/-- sides within reason -/
def RO (F : AF) (o : Nat) : Prop := -100000 ≤ F o 0 ∧ F o 0 ≤ 100000 ∧ -100000 ≤ F o 1 ∧ F o 1 ≤ 100000 ∧ -100000 ≤ F o 2 ∧ F o 2 ≤ 100000 ∧ -100000 ≤ F o 3 ∧ F o 3 ≤ 100000
theorem mul_ab {a b A B : Int} (h0 : -A ≤ a) (h1 : a ≤ A) (h2 : -B ≤ b) (h3 : b ≤ B) : -(A * B) ≤ a * b ∧ a * b ≤ A * B := by
  have hA : 0 ≤ A := by omega
  have hB : 0 ≤ B := by omega
  rcases Int.le_total 0 a with ha | ha <;> rcases Int.le_total 0 b with hb | hb
  · have := mul_bd ha h1 hb h3
    omega
  · have := mul_bd (a := a) (b := -b) (A := A) (B := B) ha h1 (by omega) (by omega)
    rw [Int.mul_neg] at this
    omega
  · have := mul_bd (a := -a) (b := b) (A := A) (B := B) (by omega) (by omega) hb h3
    rw [Int.neg_mul] at this
    omega
  · have := mul_bd (a := -a) (b := -b) (A := A) (B := B) (by omega) (by omega) (by omega) (by omega)
    rw [Int.neg_mul_neg] at this
    omega
theorem pu_cells {d : Nat} {S : AS} {F : AF} {G : AG} {o : Nat} (hd : 1 ≤ d) (hk : AtRect S o) (h : RO F o) : Pu d MX3_cells [vR o] S F G (some (vJ ((F o 2 - F o 0 + 1) * (F o 3 - F o 1 + 1)))) := by
  obtain ⟨r1, r2, r3, r4, r5, r6, r7, r8⟩ := h
  have b := mul_ab (a := F o 2 - F o 0 + 1) (b := F o 3 - F o 1 + 1) (A := 200001) (B := 200001) (by omega) (by omega) (by omega) (by omega)
  refine ok_go rfl (by decide) (Nat.le_of_ble_eq_true rfl) (R_X3_cells_0 hk ?_)
  unfold V_X3_cells_0
  exact ⟨hd, _, pu_width hk (by omega) (by omega), _, pu_height hk (by omega) (by omega), by omega, rfl, rfl, rfl, rfl⟩
def sideR (F : AF) (o : Nat) (w : Int) : Int := if w = 0 then F o 0 else if w = 1 then F o 1 else if w = 2 then F o 2 else F o 3
theorem pu_side {d : Nat} {S : AS} {F : AF} {G : AG} {o : Nat} (hk : AtRect S o) (w : Int) : Pu d MX3_side [vR o, vI w] S F G (some (vI (sideR F o w))) := by
  refine ok_go rfl (by decide) (Nat.le_of_ble_eq_true rfl) (R_X3_side_0 hk ?_)
  unfold V_X3_side_0
  refine ⟨fun q => ⟨?_, rfl, rfl, rfl⟩, fun q => ⟨?_, rfl, rfl, rfl⟩, fun q => ⟨?_, rfl, rfl, rfl⟩, fun q => ⟨?_, rfl, rfl, rfl⟩⟩
  · simp only [sideR, if_pos q]
  · simp only [sideR]; rw [if_neg (by omega), if_pos q]
  · simp only [sideR]; rw [if_neg (by omega), if_neg (by omega), if_pos q]
  · simp only [sideR]; rw [if_neg (by omega), if_neg (by omega), if_neg (by omega)]
def setR (F : AF) (o : Nat) (a b c e : Int) : AF := fu (fu (fu (fu F o 0 a) o 1 b) o 2 c) o 3 e
theorem setR_0 {F : AF} {o : Nat} {a b c e : Int} : setR F o a b c e o 0 = a := by simp [setR, fu]
theorem setR_1 {F : AF} {o : Nat} {a b c e : Int} : setR F o a b c e o 1 = b := by simp [setR, fu]
theorem setR_2 {F : AF} {o : Nat} {a b c e : Int} : setR F o a b c e o 2 = c := by simp [setR, fu]
theorem setR_3 {F : AF} {o : Nat} {a b c e : Int} : setR F o a b c e o 3 = e := by simp [setR, fu]
theorem setR_c {F : AF} {o q : Nat} {a b c e : Int} (h : q ≠ o) : setR F o a b c e q = F q := by
  funext k
  simp [setR, fu, h]
theorem ok_set {d : Nat} {S : AS} {F : AF} {G : AG} {o : Nat} (hk : AtRect S o) (a b c e : Int) {Q : AQ} (hq : Q none S (setR F o a b c e) G) : Ok d MX3_set [vR o, vI a, vI b, vI c, vI e] S F G Q := by
  refine ok_go rfl (by decide) (Nat.le_of_ble_eq_true rfl) (R_X3_set_0 hk ?_)
  unfold V_X3_set_0
  intro F1 e1 F2 e2 F3 e3 F4 e4
  rw [e4, e3, e2, e1]
  exact hq
/-- both axes, the whole, as the system has them -/
def CC (F : AF) (G : AG) : Prop := CO F G 4 48 ∧ CO F G 11 48 ∧ F 17 0 = 0 ∧ F 17 1 = 0 ∧ F 17 2 = F 4 2 - 1 ∧ F 17 3 = F 11 2 - 1
theorem pu_holds {d : Nat} {S : AS} {F : AF} {G : AG} {o : Nat} (hsh : ShC S) (hk : AtRect S o) (hc : CC F G) : Pu d MX2_holds [vR 2, vR o] S F G (some (vI (bI (0 ≤ F o 0 ∧ F o 0 ≤ F o 2 ∧ F o 2 < F 4 2 ∧ 0 ≤ F o 1 ∧ F o 1 ≤ F o 3 ∧ F o 3 < F 11 2)))) := by
  obtain ⟨-, -, w0, w1, w2, w3⟩ := hc
  refine ok_go rfl (by decide) (Nat.le_of_ble_eq_true rfl) (R_X2_holds_0 hsh hk ?_)
  unfold V_X2_holds_0
  refine ⟨fun h => ?_, fun h => ⟨fun h2 => ?_, fun h2 => ⟨fun h3 => ?_, fun h3 => ⟨fun h4 => ?_, fun h4 => ⟨fun h5 => ?_, fun h5 => ⟨fun h6 => ?_, fun h6 => ?_⟩⟩⟩⟩⟩⟩
  all_goals first | exact ⟨by rw [bI_f (by omega)], rfl, rfl, rfl⟩ | exact ⟨by rw [bI_t (by omega)], rfl, rfl, rfl⟩
theorem pu_cnumber {d : Nat} {S : AS} {F : AF} {G : AG} (hd : 1 ≤ d) (hsh : ShC S) (hc : CC F G) {x y : Int} (hx0 : 0 ≤ x) (hx1 : x ≤ 100000) (hy0 : 0 ≤ y) (hy1 : y ≤ 100000) : Pu d MX2_number [vR 2, vI x, vI y] S F G (some (vJ (F 4 2 * y + x))) := by
  obtain ⟨hx, hy, w0, w1, w2, w3⟩ := hc
  obtain ⟨c1, c2, c3, c4, c5, c6, c7⟩ := hx
  have b := mul_bd (a := F 4 2) (b := y) (A := 10000) (B := 100000) (by omega) (by omega) hy0 hy1
  have e : F 17 2 - F 17 0 + 1 = F 4 2 := by omega
  refine ok_go rfl (by decide) (Nat.le_of_ble_eq_true rfl) (R_X2_number_0 hsh ?_)
  unfold V_X2_number_0
  refine ⟨hd, _, pu_width (at_17 hsh) (by omega) (by omega), ?_⟩
  rw [e]
  exact ⟨by omega, by omega, rfl, rfl, rfl, rfl⟩
/-- units of one cell of a field of a plane p: of a good, or of all -/
def cu (G : AG) (p : Nat) (g i j : Int) : Int := if g = -1 then G p (48 * j + i) + G p (2304 + 48 * j + i) + G p (4608 + 48 * j + i) else G p (2304 * g + 48 * j + i)
def PB (G : AG) (p : Nat) (i j : Int) : Prop := 0 ≤ G p (48 * j + i) ∧ 0 ≤ G p (2304 + 48 * j + i) ∧ 0 ≤ G p (4608 + 48 * j + i) ∧ G p (48 * j + i) + G p (2304 + 48 * j + i) + G p (4608 + 48 * j + i) ≤ 1000000000000
def PBA (F : AF) (G : AG) (p : Nat) : Prop := ∀ i j : Int, 0 ≤ i → i < F 4 1 → 0 ≤ j → j < F 11 1 → PB G p i j
theorem cu_in {G : AG} {p : Nat} {g i j : Int} (hb : PB G p i j) (hg : -1 ≤ g) (hg2 : g ≤ 2) : 0 ≤ cu G p g i j ∧ cu G p g i j ≤ 1000000000000 := by
  obtain ⟨b1, b2, b3, b4⟩ := hb
  have : g = -1 ∨ g = 0 ∨ g = 1 ∨ g = 2 := by omega
  simp only [cu]
  rcases this with rfl | rfl | rfl | rfl
  · rw [if_pos rfl]; omega
  · rw [if_neg (by omega), show 2304 * 0 + 48 * j + i = 48 * j + i by omega]; omega
  · rw [if_neg (by omega), show 2304 * 1 + 48 * j + i = 2304 + 48 * j + i by omega]; omega
  · rw [if_neg (by omega), show 2304 * 2 + 48 * j + i = 4608 + 48 * j + i by omega]; omega
theorem pu_unitsAt {d : Nat} {S : AS} {F : AF} {G : AG} (hsh : ShC S) {g i j k : Int} (hb : PB G 18 i j) (hg : -1 ≤ g) (hg2 : g ≤ 2) (hi : 0 ≤ i) (hi2 : i < 48) (hj : 0 ≤ j) (hj2 : j < 48) (hk : k = 48 * j + i) : Pu d MX2_unitsAt [vR 2, vI g, vI k] S F G (some (vJ (cu G 18 g i j))) := by
  obtain ⟨b1, b2, b3, b4⟩ := hb
  have e1 : 2304 + k = 2304 + 48 * j + i := by omega
  have e2 : 4608 + k = 4608 + 48 * j + i := by omega
  refine ok_go rfl (by decide) (Nat.le_of_ble_eq_true rfl) (R_X2_unitsAt_0 hsh ?_)
  unfold V_X2_unitsAt_0
  refine ⟨fun h => ⟨by omega, by omega, by omega, by omega, ?_⟩, fun h => ?_⟩
  · refine ⟨?_, rfl, rfl, rfl⟩
    simp only [cu]
    rw [if_neg h, show g * 2304 + k = 2304 * g + 48 * j + i by omega]
  · rw [e1, e2, hk]
    refine ⟨by omega, by omega, by omega, by omega, by omega, by omega, by omega, by omega, by omega, by omega, ?_, rfl, rfl, rfl⟩
    simp only [cu]
    rw [if_pos h]
