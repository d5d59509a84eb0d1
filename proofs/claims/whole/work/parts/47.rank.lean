/-! ALL CELLS; THE VALUE OF A RANK -/
theorem ov_split {a b c x y : Int} (h1 : a ≤ b) (h2 : b ≤ c) : ov a b x y + ov b c x y = ov a c x y := by
  simp only [ov]
  split <;> split <;> split <;> omega
theorem sI_ov {e : Int → Int} {n : Int} (hr : Rise e n) (x y : Int) : ∀ k : Nat, (k : Int) ≤ n → sI (fun i => ov (e i) (e (i + 1)) x y) k = ov (e 0) (e k) x y := by
  intro k
  induction k with
  | zero =>
    intro _
    rw [sI_0 _ (by omega)]
    simp only [ov]
    split <;> simp_all <;> omega
  | succ k ih =>
    intro hk
    have e1 : (((k + 1 : Nat) : Int)) = (k : Int) + 1 := by omega
    rw [e1, sI_1 _ (by omega), ih (by omega)]
    exact ov_split (rise_le hr (by omega) (by omega) (by omega)) (Int.le_of_lt (hr k (by omega) (by omega)))
theorem sI_ovn {e : Int → Int} {n x y : Int} (hr : Rise e n) (hn : 0 ≤ n) (h0 : e 0 ≤ x) (hxy : x ≤ y) (h1 : y < e n) : sI (fun i => ov (e i) (e (i + 1)) x y) n = y - x + 1 := by
  have := sI_ov hr x y n.toNat (by omega)
  rw [show ((n.toNat : Nat) : Int) = n by omega] at this
  rw [this]
  simp only [ov]
  rw [if_neg (by omega)]
  omega
theorem pS_area {e e1 : Int → Int} {n n1 : Int} {u : Int → Int → Int} (hr : Rise e n) (hr1 : Rise e1 n1) (hn : 0 ≤ n) (hn1 : 0 ≤ n1) {x1 y1 x2 y2 : Int} (a0 : e 0 ≤ x1) (a1 : x1 ≤ x2) (a2 : x2 < e n) (b0 : e1 0 ≤ y1) (b1 : y1 ≤ y2) (b2 : y2 < e1 n1) (hu : ∀ i j : Int, 0 ≤ i → i < n → 0 ≤ j → j < n1 → 0 < ov (e i) (e (i + 1)) x1 x2 → 0 < ov (e1 j) (e1 (j + 1)) y1 y2 → u i j = 1) : pS e e1 n n1 u x1 y1 x2 y2 = (x2 - x1 + 1) * (y2 - y1 + 1) := by
  simp only [pS]
  rw [sI_congr (g := fun j => ov (e1 j) (e1 (j + 1)) y1 y2 * (x2 - x1 + 1)), sI_mul, sI_ovn hr1 hn1 b0 b1 b2, Int.mul_comm]
  intro j j0 j1
  simp only [pY, pR]
  by_cases w : 0 < ov (e1 j) (e1 (j + 1)) y1 y2
  · rw [sI_congr (g := fun i => ov (e i) (e (i + 1)) x1 x2), sI_ovn hr hn a0 a1 a2, Int.mul_comm]
    intro i i0 i1
    simp only [pX]
    by_cases w2 : 0 < ov (e i) (e (i + 1)) x1 x2
    · rw [hu i j i0 i1 j0 j1 w2 w, Int.one_mul]
    · have : ov (e i) (e (i + 1)) x1 x2 = 0 := by
        have := ov_pos (e i) (e (i + 1)) x1 x2
        omega
      rw [this, Int.mul_zero]
  · have : ov (e1 j) (e1 (j + 1)) y1 y2 = 0 := by
      have := ov_pos (e1 j) (e1 (j + 1)) y1 y2
      omega
    rw [this, Int.mul_zero, Int.zero_mul]
theorem pS_zero {e e1 : Int → Int} {n n1 : Int} {u : Int → Int → Int} {x1 y1 x2 y2 : Int} (hu : ∀ i j : Int, 0 ≤ i → i < n → 0 ≤ j → j < n1 → 0 < ov (e i) (e (i + 1)) x1 x2 → 0 < ov (e1 j) (e1 (j + 1)) y1 y2 → u i j = 0) : pS e e1 n n1 u x1 y1 x2 y2 = 0 := by
  simp only [pS]
  rw [sI_congr (g := fun _ => 0), sI_z]
  intro j j0 j1
  simp only [pY, pR]
  by_cases w : 0 < ov (e1 j) (e1 (j + 1)) y1 y2
  · rw [sI_congr (g := fun _ => 0), sI_z, Int.zero_mul]
    intro i i0 i1
    simp only [pX]
    by_cases w2 : 0 < ov (e i) (e (i + 1)) x1 x2
    · rw [hu i j i0 i1 j0 j1 w2 w, Int.zero_mul]
    · have : ov (e i) (e (i + 1)) x1 x2 = 0 := by
        have := ov_pos (e i) (e (i + 1)) x1 x2
        omega
      rw [this, Int.mul_zero]
  · have : ov (e1 j) (e1 (j + 1)) y1 y2 = 0 := by
      have := ov_pos (e1 j) (e1 (j + 1)) y1 y2
      omega
    rw [this, Int.mul_zero]
/-- fewer cells have more -/
theorem atl_anti {e e1 : Int → Int} {n n1 : Int} {u : Int → Int → Int} {t t2 : Int} (h : t ≤ t2) (x1 y1 x2 y2 : Int) : pS e e1 n n1 (atl u t2) x1 y1 x2 y2 ≤ pS e e1 n n1 (atl u t) x1 y1 x2 y2 := by
  refine sI_le (fun j j0 j1 => Int.mul_le_mul_of_nonneg_right (sI_le (fun i i0 i1 => Int.mul_le_mul_of_nonneg_right ?_ (ov_pos _ _ _ _))) (ov_pos _ _ _ _))
  simp only [atl]
  split <;> split <;> omega
/-- v is the k-th least of N: that of which N - k + 1 cells or more have v or more, and not so many have more -/
def Rank (cnt : Int → Int) (N k v : Int) : Prop := N - k + 1 ≤ cnt v ∧ cnt (v + 1) ≤ N - k
theorem rank_uniq {cnt : Int → Int} (ha : ∀ s t : Int, s ≤ t → cnt t ≤ cnt s) {N k v w : Int} (h1 : Rank cnt N k v) (h2 : Rank cnt N k w) : v = w := by
  obtain ⟨a1, a2⟩ := h1
  obtain ⟨b1, b2⟩ := h2
  rcases Int.lt_or_le v w with q | q
  · have := ha (v + 1) w (by omega)
    omega
  · rcases Int.lt_or_le w v with q2 | q2
    · have := ha (w + 1) v (by omega)
      omega
    · omega
theorem pu_valueOfRank {d : Nat} {S : AS} {F : AF} {G : AG} (hd : 2 ≤ d) (hsh : ShC S) (hc : CC F G) {re : Nat} (hk : AtRect S re) (hb : PBA F G 18) {g k : Int} (hg : -1 ≤ g) (hg2 : g ≤ 2) (hr : RG1 F re) (hk0 : 1 ≤ k) (hk1 : k ≤ (F re 2 - F re 0 + 1) * (F re 3 - F re 1 + 1)) : ∃ v : Int, Rank (fun t => ccells F G 18 g t (F re 0) (F re 1) (F re 2) (F re 3)) ((F re 2 - F re 0 + 1) * (F re 3 - F re 1 + 1)) k v ∧ Pu d MX2_valueOfRank [vR 2, vI g, vR re, vJ k] S F G (some (vJ v)) := by
  have hx := hc.1
  have hy := hc.2.1
  obtain ⟨c1, c2, c3, c4, c5, c6, c7⟩ := id hx
  obtain ⟨b1, b2, b3, b4, b5, b6, b7⟩ := id hy
  obtain ⟨r1, r2, r3, r4, r5, r6⟩ := id hr
  obtain ⟨lo, hlo, plo⟩ := pu_leastIn (d := d - 1) (by omega) hsh hc hk hb hg hg2 hr
  obtain ⟨hi, hhi, phi⟩ := pu_mostIn (d := d - 1) (by omega) hsh hc hk hb hg hg2 hr
  have pc := fun t : Int => pu_ccellsFrom (d := d - 1) (by omega) hsh hc hk hb hg hg2 hr t
  generalize hN : (F re 2 - F re 0 + 1) * (F re 3 - F re 1 + 1) = N at hk1 ⊢
  have nb : 0 ≤ N ∧ N ≤ 100000000 := by
    rw [← hN]
    exact mul_bd (A := 10000) (B := 10000) (by omega) (by omega) (by omega) (by omega)
  generalize hcn : (fun t => ccells F G 18 g t (F re 0) (F re 1) (F re 2) (F re 3)) = cnt
  have ecn : ∀ t, ccells F G 18 g t (F re 0) (F re 1) (F re 2) (F re 3) = cnt t := fun t => by rw [← hcn]
  have anti : ∀ s t : Int, s ≤ t → cnt t ≤ cnt s := fun s t h => by rw [← ecn, ← ecn]; exact atl_anti h _ _ _ _
  have all : cnt lo = N := by
    rw [← ecn, ← hN]
    refine pS_area c7 b7 (by omega) (by omega) (by rw [c5]; exact r1) r2 (by rw [c6]; exact r3) (by rw [b5]; exact r4) r5 (by rw [b6]; exact r6) (fun i j i0 i1 j0 j1 o1 o2 => ?_)
    have := hlo.2 i j i0 i1 j0 j1 o1 o2
    simp only [atl]
    rw [if_neg (by omega)]
  have nil : cnt (hi + 1) = 0 := by
    rw [← ecn]
    refine pS_zero (fun i j i0 i1 j0 j1 o1 o2 => ?_)
    have := hhi.2 i j i0 i1 j0 j1 o1 o2
    simp only [atl]
    rw [if_pos (by omega)]
  have cpos : ∀ t, 0 ≤ cnt t := fun t => by rw [← ecn]; exact pS_pos (fun i j _ _ _ _ => (atl_in _ _ _ _).1) _ _ _ _
  have cle : ∀ t, cnt t ≤ N := fun t => by
    rcases Int.le_total lo t with w | w
    · have := anti lo t w
      omega
    · rw [← ecn, ← hN]
      refine Int.le_of_eq (pS_area c7 b7 (by omega) (by omega) (by rw [c5]; exact r1) r2 (by rw [c6]; exact r3) (by rw [b5]; exact r4) r5 (by rw [b6]; exact r6) (fun i j i0 i1 j0 j1 o1 o2 => ?_))
      have := hlo.2 i j i0 i1 j0 j1 o1 o2
      simp only [atl]
      rw [if_neg (by omega)]
  have hlohi : lo ≤ hi := by
    obtain ⟨⟨i, j, q1, q2, q3, q4, q5, q6, q7⟩, _⟩ := hlo
    have := hhi.2 i j q1 q2 q3 q4 q5 q6
    omega
  have lob : 0 ≤ lo ∧ hi ≤ 1000000000000 := by
    obtain ⟨⟨i, j, q1, q2, q3, q4, q5, q6, q7⟩, _⟩ := hlo
    obtain ⟨⟨i', j', w1, w2, w3, w4, w5, w6, w7⟩, _⟩ := hhi
    have e1 := cu_in (hb i j q1 q2 q3 q4) hg hg2
    have e2 := cu_in (hb i' j' w1 w2 w3 w4) hg hg2
    omega
  clear hlo hhi
  -- the search, in numbers
  have ex : ∃ v : Int, Rank cnt N k v := by
    have go : ∀ (n : Nat) (a b : Int), (b - a).toNat ≤ n → a ≤ b → N - k + 1 ≤ cnt a → cnt (b + 1) ≤ N - k → ∃ v : Int, Rank cnt N k v := by
      intro n
      induction n with
      | zero =>
        intro a b h1 h2 h3 h4
        have : a = b := by omega
        subst this
        exact ⟨a, h3, h4⟩
      | succ n ih =>
        intro a b h1 h2 h3 h4
        by_cases w : cnt (a + 1) ≤ N - k
        · exact ⟨a, h3, w⟩
        · by_cases e : a = b
          · subst e
            exact ⟨a, h3, h4⟩
          · exact ih (a + 1) b (by omega) (by omega) (by omega) h4
    exact go _ lo hi (Nat.le_refl _) hlohi (by omega) (by omega)
  obtain ⟨v, hv⟩ := ex
  refine ⟨v, hv, ?_⟩
  have loop : ∀ (n : Nat) (a b st : Int), 0 ≤ st → st + n = 64 → lo ≤ a → a ≤ b → b ≤ hi → b - a < 2 ^ n → N - k + 1 ≤ cnt a → cnt (b + 1) ≤ N - k → Go d MX2_valueOfRank 25 [some (vR 2), some (vI g), some (vR re), some (vJ k), none, some (vJ a), none, some (vJ b), none, some (vJ N), none, some (vI st), none, none] [] S F G (fun r' S' F' G' => r' = some (vJ v) ∧ S' = S ∧ F' = F ∧ G' = G) := by
    intro n
    induction n with
    | zero =>
      intro a b st s0 s1 q1 q2 q3 q4 q5 q6
      have e : a = b := by simp at q4; omega
      subst e
      refine R_X2_valueOfRank_25 hsh hk ?_
      unfold V_X2_valueOfRank_25
      exact ⟨fun _ => ⟨by rw [rank_uniq anti hv ⟨q5, q6⟩], rfl, rfl, rfl⟩, fun z => absurd z (by omega)⟩
    | succ n ih =>
      intro a b st s0 s1 q1 q2 q3 q4 q5 q6
      refine R_X2_valueOfRank_25 hsh hk ?_
      unfold V_X2_valueOfRank_25
      have hp : (2 : Int) ^ (n + 1) = 2 * 2 ^ n := by rw [Int.pow_succ, Int.mul_comm]
      generalize (2 : Int) ^ n = P at ih hp
      rw [hp] at q4
      refine ⟨fun z => absurd z (by omega), fun _ => ⟨fun w => ?_, fun w => ?_⟩⟩
      · have e : a = b := by omega
        subst e
        exact ⟨by rw [rank_uniq anti hv ⟨q5, q6⟩], rfl, rfl, rfl⟩
      · rw [Int.tdiv_eq_ediv_of_nonneg (by omega)]
        refine ⟨by omega, by omega, by omega, fun x ex => ⟨by omega, by omega, _, pc (x + 1), ?_⟩⟩
        rw [ecn]
        have t1 := cpos (x + 1)
        have t2 := cle (x + 1)
        refine ⟨by omega, fun w2 x14 e14 => ?_, fun w2 => ?_⟩
        · unfold V_X2_valueOfRank_85
          refine ⟨by omega, ih x14 b (st + 1) (by omega) (by omega) (by omega) (by omega) q3 (by omega) (by rw [e14]; omega) q6⟩
        · unfold V_X2_valueOfRank_85
          exact ⟨by omega, ih a x (st + 1) (by omega) (by omega) q1 (by omega) (by omega) (by omega) q5 (by omega)⟩
  refine ok_go rfl (by decide) (Nat.le_of_ble_eq_true rfl) (R_X2_valueOfRank_0 hsh hk ?_)
  unfold V_X2_valueOfRank_0
  refine ⟨by omega, _, plo, _, phi, _, pu_cells (by omega) hk ⟨by omega, by omega, by omega, by omega, by omega, by omega, by omega, by omega⟩, ?_⟩
  rw [hN]
  exact loop 64 lo hi 0 (by omega) (by omega) (by omega) hlohi (by omega) (by
    have : (2 : Int) ^ 64 = 18446744073709551616 := by decide
    omega) (by omega) (by omega)
