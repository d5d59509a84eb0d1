section
/-! AN ACT OF A TEXT IS DONE -/
theorem nmW_0 {tp : Int → Int} {n lo hi p : Int} (h : nmW tp n lo hi p = 0) : lo ≤ vl tp n (sk tp n p) ∧ vl tp n (sk tp n p) ≤ hi := by
  unfold nmW at h
  split at h
  · exact absurd h (by decide)
  · split at h
    · exact absurd h (by decide)
    · omega
noncomputable def nuV (tp : Int → Int) (n p : Int) (i : Nat) : Int := vl tp n (sk tp n (plN tp n i (0, -1, te tp n (sk tp n p))).2.2)
noncomputable def amU (tp : Int → Int) (n p : Int) : Int := amV tp n (wd tp n (sk tp n p)) (plN tp n 5 (0, -1, te tp n (sk tp n p)))
theorem act_in {tp : Int → Int} {n m p : Int} (h : (acS tp n m p).1 = 0) : ¬ wd tp n (sk tp n p) = -1 ∧ (wd tp n (sk tp n p) < 2 → (∀ i : Nat, i < 5 → 0 ≤ nuV tp n p i ∧ nuV tp n p i ≤ 9999) ∧ (wd tp n (sk tp n p) = 0 → -1000000000 ≤ amU tp n p ∧ amU tp n p ≤ 1000000000) ∧ (wd tp n (sk tp n p) = 1 → 1 ≤ amU tp n p ∧ amU tp n p ≤ 3000000000000000000)) := by
  unfold acS at h
  by_cases w : wd tp n (sk tp n p) = -1
  · rw [if_pos w] at h
    exact absurd h (show ¬ ((1 : Int) = 0) by decide)
  · rw [if_neg w] at h
    refine ⟨w, fun w2 => ?_⟩
    rw [if_pos w2] at h
    split at h
    · exact absurd h (show ¬ ((3 : Int) = 0) by decide)
    · have h1 := smS_0 h
      have h2 := amS_0 h1
      refine ⟨fun i hi => ?_, fun e => ?_, fun e => ?_⟩
      · have h3 := plN_0 5 (i + 1) (by omega) h2
        have h4 := numS_0 (s := plN tp n i (0, -1, te tp n (sk tp n p))) h3
        have h5 := nmW_0 h4.2.1
        unfold nuV
        refine ⟨h5.1, ?_⟩
        have := h5.2
        split at this <;> omega
      · rw [e] at h1
        unfold amU
        rw [e]
        unfold amS at h1
        rw [if_pos rfl] at h1
        have h4 := numS_0 h1
        have h5 := nmW_0 h4.2.1
        unfold amV
        by_cases s : sgn tp n (plN tp n 5 (0, -1, te tp n (sk tp n p)))
        · rw [if_pos s] at h5
          dsimp only at h5
          rw [if_pos ⟨rfl, s⟩]
          omega
        · rw [if_neg s] at h5
          rw [if_neg (fun z => s z.2)]
          omega
      · rw [e] at h1
        unfold amU
        rw [e]
        unfold amS at h1
        rw [if_neg (by decide)] at h1
        have h4 := numS_0 h1
        have h5 := nmW_0 h4.2.1
        unfold amV
        rw [if_neg (fun z => absurd z.1 (by decide))]
        exact h5
def StS (tp : Int → Int) (n p : Int) (S S1 : AS) (F F1 : AF) (G G1 : AG) (z : Int) : Prop :=
  (wd tp n (sk tp n p) = 0 → S1 = S ∧ AddS F F1 G G1 (nuV tp n p 0) (nuV tp n p 1) (nuV tp n p 2) (nuV tp n p 3) (nuV tp n p 4) (amU tp n p) z) ∧
  (wd tp n (sk tp n p) = 1 → S1 = S ∧ PickS F F1 G G1 (nuV tp n p 0) (nuV tp n p 1) (nuV tp n p 2) (nuV tp n p 3) (nuV tp n p 4) (amU tp n p) z) ∧
  (wd tp n (sk tp n p) = 2 → BegS S S1 F F1 G G1 z) ∧ (wd tp n (sk tp n p) = 3 → S1 = S ∧ ComS F F1 G G1 z) ∧ (wd tp n (sk tp n p) = 4 → S1 = S ∧ CanS F F1 G G1 z)
theorem adR_r (F : AF) (G : AG) (re : Nat) (g v : Int) : -9 ≤ adR F G re g v ∧ adR F G re g v ≤ 0 := by
  classical
  simp only [adR]
  split
  · omega
  · split
    · omega
    · split
      · omega
      · split
        · omega
        · split <;> omega
theorem add_lo {S : AS} {F F1 : AF} {G G1 : AG} {b g x1 y1 x2 y2 v z : Int} (ci : CI S F G b) (a : AddS F F1 G G1 g x1 y1 x2 y2 v z) (hp : 0 ≤ aS (tAdd F G g x1 y1 x2 y2 v) 0 0 (F 4 2 - 1) (F 11 2 - 1) ∨ True) : -100 ≤ z ∨ ((0 ≤ g ∧ g ≤ 2) ∧ recS F x1 y1 x2 y2 ∧ (¬ v = 0 ∧ -1000000000 ≤ v ∧ v ≤ 1000000000) ∧ adS F G g x1 y1 x2 y2 v = 0 ∧ z = aS (tAdd F G g x1 y1 x2 y2 v) 0 0 (F 4 2 - 1) (F 11 2 - 1)) := by
  by_cases c1 : (0 ≤ g ∧ g ≤ 2) ∧ recS F x1 y1 x2 y2
  · by_cases c2 : ¬ v = 0 ∧ -1000000000 ≤ v ∧ v ≤ 1000000000
    · have h := (a.2 c1).2 c2
      by_cases c3 : adS F G g x1 y1 x2 y2 v = 0
      · by_cases c4 : RgB (NB F G 4 (PAx x1 x2)) (F 4 2) ∧ RgB (NB F G 11 (PAx y1 y2)) (F 11 2)
        · exact Or.inr ⟨c1.1, c1.2, c2, c3, ((h.2 c3).2 c4).1⟩
        · have := ((h.2 c3).1 c4).1
          exact Or.inl (by omega)
      · have e := (h.1 c3).1
        have r := adR_r (setR F 51 x1 y1 x2 y2) G 51 g v
        have : adS F G g x1 y1 x2 y2 v = adR (setR F 51 x1 y1 x2 y2) G 51 g v := rfl
        exact Or.inl (by omega)
    · have := ((a.2 c1).1 c2).1
      exact Or.inl (by omega)
  · have := (a.1 c1).1
    exact Or.inl (by omega)
theorem add_z {S : AS} {F F1 : AF} {G G1 : AG} {b g x1 y1 x2 y2 v z : Int} (ci : CI S F G b) (a : AddS F F1 G G1 g x1 y1 x2 y2 v z) : -100 ≤ z := by
  rcases add_lo ci a (Or.inr trivial) with h | ⟨g', r, -, a0, ez⟩
  · exact h
  · have ar := (adR_0 a0).1
    rw [setR_0, setR_1, setR_2, setR_3] at ar
    have w4 : setR F 51 x1 y1 x2 y2 4 = F 4 := setR_c (by decide)
    have w11 : setR F 51 x1 y1 x2 y2 11 = F 11 := setR_c (by decide)
    have vA : vu (setR F 51 x1 y1 x2 y2) G 18 g = vu F G 18 g := by
      funext x y
      unfold vu cv
      rw [w4, w11]
    rw [vA] at ar
    have : 0 ≤ aS (tAdd F G g x1 y1 x2 y2 v) 0 0 (F 4 2 - 1) (F 11 2 - 1) := aS_pos (fun x y x0 xw y0 yw => by
      have c := ci_vC ci g'.1 g'.2 x0 (by omega : x < F 4 2) y0 (by omega : y < F 11 2)
      unfold tAdd
      by_cases i : inR x1 y1 x2 y2 x y
      · rw [if_pos i]
        have := ar x y i
        rw [vu_g g'.1] at this
        exact this
      · rw [if_neg i]
        exact c.1)
    omega
theorem disc {f : Int → Int} {n a : Int} : ∀ k : Nat, f (a - 1) < n → n ≤ f (a + k - 1) → ∃ y : Int, a ≤ y ∧ y ≤ a + k - 1 ∧ f (y - 1) < n ∧ n ≤ f y := by
  intro k
  induction k with
  | zero =>
    intro h0 h1
    rw [Int.natCast_zero, Int.add_zero] at h1
    omega
  | succ k ih =>
    intro h0 h1
    have e : a + ((k + 1 : Nat) : Int) - 1 = a + k := by omega
    rw [e] at h1
    by_cases c : n ≤ f (a + k - 1)
    · obtain ⟨y, y0, y1, y2⟩ := ih h0 c
      exact ⟨y, y0, by omega, y2⟩
    · exact ⟨a + k, by omega, by omega, by omega, h1⟩
theorem fc_ex {f : Int → Int → Int} {x1 y1 x2 y2 n : Int} (h1 : x1 ≤ x2) (h2 : y1 ≤ y2) (n0 : 1 ≤ n) (hn : n ≤ aS f x1 y1 x2 y2) : ∃ x y r : Int, FC f x1 y1 x2 y2 n x y r := by
  have e2 : y1 + ((y2 - y1 + 1).toNat : Int) - 1 = y2 := by omega
  obtain ⟨y, a1, a2, a3, a4⟩ := disc (f := fun y => aS f x1 y1 x2 y) (n := n) (a := y1) (y2 - y1 + 1).toNat (by rw [aS_e (Or.inr (by omega))]; omega) (by rw [e2]; exact hn)
  have s : aS f x1 y1 x2 y = aS f x1 y1 x2 (y - 1) + dS (fun x => f x y) x1 x2 := by
    have := dS_1 (fun y => dS (fun x => f x y) x1 x2) (a := y1) (b := y - 1) (by omega)
    rw [Int.sub_add_cancel] at this
    exact this
  have e1 : x1 + ((x2 - x1 + 1).toNat : Int) - 1 = x2 := by omega
  obtain ⟨x, b1, b2, b3, b4⟩ := disc (f := fun x => aS f x1 y1 x2 (y - 1) + dS (fun x => f x y) x1 x) (n := n) (a := x1) (x2 - x1 + 1).toNat (by rw [dS_0 _ (by omega)]; omega) (by rw [e1]; omega)
  have t : dS (fun x => f x y) x1 x = dS (fun x => f x y) x1 (x - 1) + f x y := by
    have := dS_1 (fun x => f x y) (a := x1) (b := x - 1) (by omega)
    rw [Int.sub_add_cancel] at this
    exact this
  exact ⟨x, y, n - (aS f x1 y1 x2 (y - 1) + dS (fun x => f x y) x1 (x - 1)), b1, by omega, a1, by omega, by omega, by omega, by omega⟩
theorem pick_z {S : AS} {F F1 : AF} {G G1 : AG} {b g x1 y1 x2 y2 n z : Int} (ci : CI S F G b) (a : PickS F F1 G G1 g x1 y1 x2 y2 n z) : -100 ≤ z := by
  by_cases c1 : (0 ≤ g ∧ g ≤ 2) ∧ recS F x1 y1 x2 y2
  · by_cases c2 : 1 ≤ n ∧ n ≤ 3000000000000000000
    · have h := (a.2 c1).2 c2
      by_cases c3 : aS (vC F G 18 g) x1 y1 x2 y2 < n
      · have := (h.1 c3).1
        omega
      · obtain ⟨x, y, r, fc⟩ := fc_ex (f := vC F G 18 g) c1.2.2.1 c1.2.2.2.2.2.1 c2.1 (by omega)
        have h2 := h.2 x y r fc
        by_cases c4 : RgB (NB F G 4 (PPx x1 x2 x)) (F 4 2) ∧ RgB (NB F G 11 (PPx y1 y2 y)) (F 11 2)
        · have e := (h2.2 c4).1
          have c4' := ci.2.1.1.2.2.1
          have p : 0 ≤ F 4 2 * y := Int.mul_nonneg (by omega) (by have := fc.2.2.1; have := c1.2.2.2.2.1; omega)
          have := fc.1
          have := c1.2.1
          omega
        · have := (h2.1 c4).1
          omega
    · have := ((a.2 c1).1 c2).1
      omega
  · have := (a.1 c1).1
    omega
theorem row_nu {tp : Int → Int} {n : Int} {G : AG} {k p : Int} (h : RowS tp n G k p) : G 48 k = wd tp n (sk tp n p) ∧ (wd tp n (sk tp n p) < 2 → (∀ i : Nat, i < 5 → G 49 (5 * k + i) = nuV tp n p i) ∧ G 50 k = amU tp n p) := h
theorem cs_told {d : Nat} {S : AS} {F : AF} {G : AG} {b n p m : Int} {tp : Int → Int} {k K : Int} (hd : 8 ≤ d) (h : CI S F G b) (hb : b ≤ 1000000) (k0 : 0 ≤ k) (kK : k < K) (K30 : K ≤ 30) (e9 : F 46 9 = K) (row : RowS tp n G k p) (ac : (acS tp n m p).1 = 0) {Q : AQ} (hq : ∀ S1 F1 G1 z, StS tp n p S S1 F F1 G G1 z → -100 ≤ z → SLike S S1 → SFr F F1 G G1 → CI S1 F1 G1 (b + 1) → Q (some (vJ z)) S1 F1 G1) : Ok d MX9_doTold [vR 1, vI k] S F G Q := by
  have hsh := h.1.1
  obtain ⟨r1, r2⟩ := row_nu row
  obtain ⟨a1, a2⟩ := act_in ac
  have wr := wd_r tp n (sk tp n p)
  have pam := pu_amount (d := d - 1) (S := S) (F := F) (G := G) hsh k0 (by omega) (by omega)
  have pki := pu_kind (d := d - 1) (S := S) (F := F) (G := G) hsh k0 (by omega) (by omega)
  rw [r1] at pki
  have pnu : ∀ i : Nat, i < 5 → wd tp n (sk tp n p) < 2 → Pu (d - 1) MX5_number [vR 46, vI k, vI (i : Int)] S F G (some (vI (nuV tp n p i))) := by
    intro i hi w
    have := pu_numberS (d := d - 1) (S := S) (F := F) (G := G) hsh k0 (by omega) (by omega) (i := (i : Int)) (by omega) (by omega)
    rw [(r2 w).1 i hi] at this
    exact this
  refine ok_go rfl (by decide) (Nat.le_of_ble_eq_true rfl) (R_X9_doTold_0 hsh ?_)
  unfold V_X9_doTold_0
  refine ⟨by omega, _, pam, _, pki, fun e => ?_, fun e => ?_, fun e => ?_, fun e => ?_, fun e => ?_⟩
  · have w : wd tp n (sk tp n p) < 2 := by omega
    have ai := (a2 w).2.1 e
    rw [(r2 w).2]
    refine ⟨_, pnu 0 (by omega) w, _, pnu 1 (by omega) w, _, pnu 2 (by omega) w, _, pnu 3 (by omega) w, _, pnu 4 (by omega) w, by omega, cs_add (by omega) h hb _ _ _ _ _ _ (fun F1 G1 z a s c => ⟨rfl, _, rfl, hq S F1 G1 z ⟨fun _ => ⟨rfl, a⟩, fun n => by omega, fun n => by omega, fun n => by omega, fun n => by omega⟩ (add_z h a) ⟨rfl, rfl⟩ s c⟩)⟩
  · have w : wd tp n (sk tp n p) < 2 := by omega
    have ai := (a2 w).2.2 e
    rw [(r2 w).2]
    refine ⟨_, pnu 0 (by omega) w, _, pnu 1 (by omega) w, _, pnu 2 (by omega) w, _, pnu 3 (by omega) w, _, pnu 4 (by omega) w, cs_pick (by omega) h hb (by omega) _ _ _ _ _ (fun F1 G1 z a s c => ⟨rfl, _, rfl, hq S F1 G1 z ⟨fun n => by omega, fun _ => ⟨rfl, a⟩, fun n => by omega, fun n => by omega, fun n => by omega⟩ (pick_z h a) ⟨rfl, rfl⟩ s c⟩)⟩
  · refine cs_begin (by omega) h (fun S1 F1 G1 z a sl s c => ⟨_, rfl, c.1.1, hq S1 F1 G1 z ⟨fun n => by omega, fun n => by omega, fun _ => a, fun n => by omega, fun n => by omega⟩ ?_ sl s (ci_up c (by omega))⟩)
    have o0 := h.2.2.2.1.2.2.1
    by_cases q : F 2 8 < 8
    · have := (a.2 q).1
      omega
    · have := (a.1 (by omega)).1
      omega
  · refine cs_commit (by omega) h hb (fun F1 G1 z a s c => ⟨rfl, _, rfl, hq S F1 G1 z ⟨fun n => by omega, fun n => by omega, fun n => by omega, fun _ => ⟨rfl, a⟩, fun n => by omega⟩ ?_ ⟨rfl, rfl⟩ s (ci_up c (by omega))⟩)
    by_cases q : F 2 8 < 1
    · have := (a.1 q).1
      omega
    · have := (a.2 (by omega)).1
      omega
  · refine cs_cancel (by omega) h hb (fun F1 G1 z a s c => ⟨rfl, _, rfl, hq S F1 G1 z ⟨fun n => by omega, fun n => by omega, fun n => by omega, fun n => by omega, fun _ => ⟨rfl, a⟩⟩ ?_ ⟨rfl, rfl⟩ s (ci_up c (by omega))⟩)
    by_cases q : F 2 8 < 1
    · have := (a.1 q).1
      omega
    · have e2 := (a.2 (by omega)).1
      have := ci_acts h (k := (F 2 8 - 1).toNat) (by omega)
      omega
theorem iL_t {x : Int} (h : r32 x) : iL x = x := by
  unfold iL
  rw [Int64.toInt32_ofInt, zi_t h]
theorem cr_does {d : Nat} {S S1 S' : AS} {F F1 Fr : AF} {G G1 Gr : AG} {b n p m z : Int} {tp : Int → Int} {k : Int} (hd : 8 ≤ d) (hsm : ShM S') (ci : CI S F G b) (hb : b ≤ 1000000) (kk : KK F G Fr Gr) (k0 : 0 ≤ k) (k30 : k < 30) (row : RowM tp n Gr k p) (ac : (acS tp n m p).1 = 0) (st : StS tp n p S S1 F F1 G G1 z) {Q : AQ} (hq : ∀ F2 G2, KK F1 G1 F2 G2 → RFr Fr F2 Gr G2 → Q (some (vJ z)) S' F2 G2) : Ok d MX10_does [vR 53, vI k] S' Fr Gr Q := by
  obtain ⟨a1, a2⟩ := act_in ac
  have wr := wd_r tp n (sk tp n p)
  have r1 : Gr 73 (7 * k) = wd tp n (sk tp n p) := row.1
  have r2 : wd tp n (sk tp n p) < 2 → (∀ i : Nat, i < 5 → Gr 73 (7 * k + 1 + i) = nuV tp n p i) ∧ Gr 73 (7 * k + 6) = amU tp n p := row.2
  have kd : iL (Gr 73 (7 * k)) = wd tp n (sk tp n p) := by rw [r1, iL_t (by omega)]
  have nu : ∀ (i : Nat) (j : Int), i < 5 → j = 7 * k + 1 + i → wd tp n (sk tp n p) < 2 → iL (Gr 73 j) = nuV tp n p i := by
    intro i j hi ej w
    have := (a2 w).1 i hi
    rw [ej, (r2 w).1 i hi, iL_t (by omega)]
  refine ok_go rfl (by decide) (Nat.le_of_ble_eq_true rfl) (RW_X10_does_0 hsm ?_)
  unfold VW_X10_does_0
  refine ⟨by omega, fun x2 e2 => ?_⟩
  subst e2
  rw [kd]
  refine ⟨by omega, by omega, by omega, fun x6 e6 => ⟨by omega, by omega, by omega, fun x10 e10 => ⟨by omega, by omega, by omega, fun x14 e14 => ⟨by omega, by omega, by omega, fun x18 e18 => ⟨by omega, by omega, by omega, fun x22 e22 => ⟨by omega, by omega, fun e => ?_, fun e => ?_, fun e => ?_, fun e => ?_, fun e => ?_⟩⟩⟩⟩⟩⟩
  · have w : wd tp n (sk tp n p) < 2 := by omega
    have ai := (a2 w).2.1 e
    rw [nu 0 _ (by omega) (by omega) w] at e6
    rw [nu 1 _ (by omega) (by omega) w] at e10
    rw [nu 2 _ (by omega) (by omega) w] at e14
    rw [nu 3 _ (by omega) (by omega) w] at e18
    rw [nu 4 _ (by omega) (by omega) w] at e22
    subst e6 e10 e14 e18 e22
    rw [(r2 w).2, iL_t (by omega)]
    exact ⟨by omega, by omega, by omega, by omega, cr_add (by omega) hsm ci hb kk (st.1 e).2 (fun F2 G2 k2 rr => ⟨rfl, _, rfl, hq F2 G2 k2 rr⟩)⟩
  · have w : wd tp n (sk tp n p) < 2 := by omega
    rw [nu 0 _ (by omega) (by omega) w] at e6
    rw [nu 1 _ (by omega) (by omega) w] at e10
    rw [nu 2 _ (by omega) (by omega) w] at e14
    rw [nu 3 _ (by omega) (by omega) w] at e18
    rw [nu 4 _ (by omega) (by omega) w] at e22
    subst e6 e10 e14 e18 e22
    rw [(r2 w).2]
    exact ⟨by omega, by omega, by omega, by omega, cr_pick (by omega) hsm ci hb kk (st.2.1 e).2 (fun F2 G2 k2 rr => ⟨rfl, _, rfl, hq F2 G2 k2 rr⟩)⟩
  · exact ⟨by omega, cr_begin hsm ci kk (st.2.2.1 e) (fun F2 G2 k2 rr => ⟨rfl, _, rfl, hq F2 G2 k2 rr⟩)⟩
  · exact ⟨by omega, cr_commit hsm ci hb kk (st.2.2.2.1 e).2 (fun F2 G2 k2 rr => ⟨rfl, _, rfl, hq F2 G2 k2 rr⟩)⟩
  · exact ⟨by omega, cr_cancel hsm ci hb kk (st.2.2.2.2 (by omega)).2 (fun F2 G2 k2 rr => ⟨rfl, _, rfl, hq F2 G2 k2 rr⟩)⟩
end
