/-! A LINE OF A BAND, MEASURED -/
def inn (q : Int) : Nat := if q = 0 then 4 else 11
def out (q : Int) : Nat := if q = 0 then 11 else 4
/-- units of a cell by its band of an order and its band within -/
def uo (G : AG) (q g b i : Int) : Int := if q = 0 then cu G 18 g i b else cu G 18 g b i
def fL (F : AF) (G : AG) (q g b lo hi : Int) : Int → Int := fun i => uo G q g b i * ov (G (inn q + 1) i) (G (inn q + 1) (i + 1)) lo hi
def fN (F : AF) (G : AG) (q g b lo hi : Int) : Int → Int := fun i => if 0 < uo G q g b i then ov (G (inn q + 1) i) (G (inn q + 1) (i + 1)) lo hi else 0
def lineS (F : AF) (G : AG) (q g b lo hi : Int) : Int := sI (fL F G q g b lo hi) (F (inn q) 1)
def lineN (F : AF) (G : AG) (q g b lo hi : Int) : Int := sI (fN F G q g b lo hi) (F (inn q) 1)
/-- what measure leaves in the Survey -/
def msr (F : AF) (a b : Int) : AF := fu (fu F 34 2 a) 34 3 b
theorem msr_c {F : AF} {a b : Int} {c : Nat} (h : c ≠ 34) : msr F a b c = F c := by
  funext k
  simp [msr, fu, h]
theorem msr_2 {F : AF} {a b : Int} : msr F a b 34 2 = a := by simp [msr, fu]
theorem msr_3 {F : AF} {a b : Int} : msr F a b 34 3 = b := by simp [msr, fu]
theorem msr_k {F : AF} {a b : Int} {k : Nat} (h2 : k ≠ 2) (h3 : k ≠ 3) : msr F a b 34 k = F 34 k := by simp [msr, fu, h2, h3]
theorem msr_up {F : AF} {a b x y : Int} : fu (fu (msr F a b) 34 2 x) 34 3 y = msr F x y := by
  funext c k
  simp only [msr, fu]
  split <;> simp_all
theorem co_congr {F F1 : AF} {G : AG} {o : Nat} {m : Int} (e : F1 o = F o) (h : CO F G o m) : CO F1 G o m := by
  obtain ⟨c1, c2, c3, c4, c5, c6, c7⟩ := h
  refine ⟨?_, ?_, ?_, ?_, c5, ?_, ?_⟩ <;> rw [e] <;> assumption
theorem cb_congr {F F1 : AF} {G : AG} {o : Nat} (e : F1 o = F o) (p : Int) : cb F1 G o p = cb F G o p := by
  simp only [cb, e]
theorem pu_inner {d : Nat} {S : AS} {F : AF} {G : AG} (hsh : ShC S) (q : Int) : Pu d MX7_inner [vR 34, vI q] S F G (some (vR (inn q))) := by
  refine ok_go rfl (by decide) (Nat.le_of_ble_eq_true rfl) (R_X7_inner_0 hsh ?_)
  unfold V_X7_inner_0
  exact ⟨fun h => ⟨by simp only [inn, if_neg h], rfl, rfl, rfl⟩, fun h => ⟨by simp only [inn, if_pos h], rfl, rfl, rfl⟩⟩
theorem pu_outer {d : Nat} {S : AS} {F : AF} {G : AG} (hsh : ShC S) (q : Int) : Pu d MX7_outer [vR 34, vI q] S F G (some (vR (out q))) := by
  refine ok_go rfl (by decide) (Nat.le_of_ble_eq_true rfl) (R_X7_outer_0 hsh ?_)
  unfold V_X7_outer_0
  exact ⟨fun h => ⟨by simp only [out, if_neg h], rfl, rfl, rfl⟩, fun h => ⟨by simp only [out, if_pos h], rfl, rfl, rfl⟩⟩
theorem at_inn {S : AS} (hsh : ShC S) (q : Int) : AtCuts S (inn q) := by
  simp only [inn]
  split
  · exact at_4 hsh
  · exact at_11 hsh
theorem at_out {S : AS} (hsh : ShC S) (q : Int) : AtCuts S (out q) := by
  simp only [out]
  split
  · exact at_11 hsh
  · exact at_4 hsh
theorem inn_ne (q : Int) : inn q ≠ 34 := by
  simp only [inn]
  split <;> decide
theorem out_ne (q : Int) : out q ≠ 34 := by
  simp only [out]
  split <;> decide
theorem co_inn {F : AF} {G : AG} (hc : CC F G) (q : Int) : CO F G (inn q) 48 := by
  simp only [inn]
  split
  · exact hc.1
  · exact hc.2.1
theorem co_out {F : AF} {G : AG} (hc : CC F G) (q : Int) : CO F G (out q) 48 := by
  simp only [out]
  split
  · exact hc.2.1
  · exact hc.1
def fld (q b i : Int) : Int := if q = 0 then 48 * b + i else 48 * i + b
theorem pu_field {d : Nat} {S : AS} {F : AF} {G : AG} (hsh : ShC S) {q b i : Int} (hb : 0 ≤ b) (hb2 : b ≤ 1000) (hi : 0 ≤ i) (hi2 : i ≤ 1000) : Pu d MX7_field [vI q, vI b, vI i] S F G (some (vI (fld q b i))) := by
  refine ok_go rfl (by decide) (Nat.le_of_ble_eq_true rfl) (R_X7_field_0 hsh ?_)
  unfold V_X7_field_0
  exact ⟨fun h => ⟨by omega, by omega, by simp only [fld, if_neg h], rfl, rfl, rfl⟩, fun h => ⟨by omega, by omega, by simp only [fld, if_pos h], rfl, rfl, rfl⟩⟩
theorem uo_in {F : AF} {G : AG} (hb : PBA F G 18) {q g b i : Int} (hg : -1 ≤ g) (hg2 : g ≤ 2) (h0 : 0 ≤ b) (h1 : b < F (out q) 1) (h2 : 0 ≤ i) (h3 : i < F (inn q) 1) : 0 ≤ uo G q g b i ∧ uo G q g b i ≤ 1000000000000 := by
  simp only [uo, inn, out] at *
  by_cases e : q = 0
  · rw [if_pos e] at *
    exact cu_in (hb i b h2 h3 h0 h1) hg hg2
  · rw [if_neg e] at *
    exact cu_in (hb b i h0 h1 h2 h3) hg hg2
theorem pu_uo {d : Nat} {S : AS} {F F0 : AF} {G : AG} (hsh : ShC S) (hc : CC F0 G) (hb : PBA F0 G 18) {q g b i : Int} (hg : -1 ≤ g) (hg2 : g ≤ 2) (h0 : 0 ≤ b) (h1 : b < F0 (out q) 1) (h2 : 0 ≤ i) (h3 : i < F0 (inn q) 1) : Pu d MX2_unitsAt [vR 2, vI g, vI (fld q b i)] S F G (some (vJ (uo G q g b i))) := by
  have x48 := hc.1.2.1
  have y48 := hc.2.1.2.1
  simp only [uo, inn, out, fld] at *
  by_cases e : q = 0
  · rw [if_pos e] at *
    rw [if_pos e]
    exact pu_unitsAt hsh (hb i b h2 h3 h0 h1) hg hg2 h2 (by omega) h0 (by omega) rfl
  · rw [if_neg e] at *
    rw [if_neg e]
    exact pu_unitsAt hsh (hb b i h0 h1 h2 h3) hg hg2 h0 (by omega) h2 (by omega) rfl
theorem ok_measure {d : Nat} {S : AS} {F : AF} {G : AG} (hd : 1 ≤ d) (hsh : ShC S) (hc : CC F G) (hb : PBA F G 18) {q g b lo hi : Int} (hg : -1 ≤ g) (hg2 : g ≤ 2) (h0 : 0 ≤ b) (h1 : b < F (out q) 1) (hl : 0 ≤ lo) (hlh : lo ≤ hi) (hh : hi < F (inn q) 2) {Q : AQ} (hq : Q none S (msr F (lineS F G q g b lo hi) (lineN F G q g b lo hi)) G) : Ok d MX7_measure [vR 34, vI g, vI q, vI b, vI lo, vI hi] S F G Q := by
  have hin := co_inn hc q
  have hou := co_out hc q
  have hin4 : CO F G (inn q) 104 := ⟨hin.1, by have := hin.2.1; omega, hin.2.2⟩
  have o48 := hou.2.1
  have hk := at_inn hsh q
  have hne := inn_ne q
  obtain ⟨c1, c2, c3, c4, c5, c6, c7⟩ := id hin
  have p1 := cb_spec hin4 (p := lo) hl
  have p2 := cb_spec hin4 (p := hi) (by omega)
  have p1' := p1.2.2.2 (by omega)
  have p2' := p2.2.2.2 hh
  have m1 := cb_mono hin4 hl hlh hh
  have zL1 : ∀ i : Int, 0 ≤ i → i < cb F G (inn q) lo → fL F G q g b lo hi i = 0 := fun i i0 i1 => by
    simp only [fL]; rw [ov_lo c7 i0 i1 (by omega) p1.2.2.1, Int.mul_zero]
  have zL2 : ∀ i : Int, cb F G (inn q) hi + 1 ≤ i → i < F (inn q) 1 → fL F G q g b lo hi i = 0 := fun i i0 i1 => by
    simp only [fL]; rw [ov_hi c7 (b := cb F G (inn q) hi) p2.1 (by omega) (by omega) p2', Int.mul_zero]
  have zN1 : ∀ i : Int, 0 ≤ i → i < cb F G (inn q) lo → fN F G q g b lo hi i = 0 := fun i i0 i1 => by
    simp only [fN]; rw [ov_lo c7 i0 i1 (by omega) p1.2.2.1]; split <;> rfl
  have zN2 : ∀ i : Int, cb F G (inn q) hi + 1 ≤ i → i < F (inn q) 1 → fN F G q g b lo hi i = 0 := fun i i0 i1 => by
    simp only [fN]; rw [ov_hi c7 (b := cb F G (inn q) hi) p2.1 (by omega) (by omega) p2']; split <;> rfl
  have loop : ∀ (k : Nat) (i a e : Int), (cb F G (inn q) hi + 1 - i).toNat ≤ k → cb F G (inn q) lo ≤ i → i ≤ cb F G (inn q) hi + 1 → a = sI (fL F G q g b lo hi) i → e = sI (fN F G q g b lo hi) i → 0 ≤ a → a ≤ i * 10000000000000000 → 0 ≤ e → e ≤ i * 10000 → Go d MX7_measure 35 [some (vR 34), some (vI g), some (vI q), some (vI b), some (vI lo), some (vI hi), some (vR (inn q)), some (vI (cb F G (inn q) hi)), some (vI i), none, none, none, none] [] S (msr F a e) G Q := by
    intro k
    have fin : ∀ i a e : Int, i = cb F G (inn q) hi + 1 → a = sI (fL F G q g b lo hi) i → e = sI (fN F G q g b lo hi) i → Q none S (msr F a e) G := by
      intro i a e ei ea ee
      have w1 : lineS F G q g b lo hi = a := by
        rw [ea, ei]
        exact sI_end (by omega) (by omega) zL2
      have w2 : lineN F G q g b lo hi = e := by
        rw [ee, ei]
        exact sI_end (by omega) (by omega) zN2
      rw [← w1, ← w2]
      exact hq
    induction k with
    | zero =>
      intro i a e k1 k2 k3 ea ee a0 a1 e0 e1
      refine R_X7_measure_35 hsh hk ?_
      unfold V_X7_measure_35
      exact ⟨fun _ => fin i a e (by omega) ea ee, fun z => absurd z (by omega)⟩
    | succ k ih =>
      intro i a e k1 k2 k3 ea ee a0 a1 e0 e1
      refine R_X7_measure_35 hsh hk ?_
      unfold V_X7_measure_35
      refine ⟨fun z => fin i a e (by omega) ea ee, fun z => ?_⟩
      have im := ov_mid c7 (i := i) (b := cb F G (inn q) lo) (b2 := cb F G (inn q) hi) p1.1 k2 (by omega) p2.2.1 p1' p2.2.2.1 hlh
      have ub := uo_in hb (q := q) (b := b) (i := i) hg hg2 h0 h1 (by omega) (by omega)
      have k1' := co_in hin (i := i) (by omega) (by omega)
      have k2' := co_in hin (i := i + 1) (by omega) (by omega)
      have k3' := c7 i (by omega) (by omega)
      have k4 := ov_le (lo := G (inn q + 1) i) (hi := G (inn q + 1) (i + 1)) (a := lo) (b := hi) (Int.le_of_lt k3')
      have mb9 := mul_bd (a := uo G q g b i) (b := ov (G (inn q + 1) i) (G (inn q + 1) (i + 1)) lo hi) (A := 1000000000000) (B := 10000) ub.1 ub.2 (by omega) (by omega)
      have next : ∀ a2 e2 z9 : Int, a2 = a + fL F G q g b lo hi i → e2 = e + fN F G q g b lo hi i → 0 ≤ a2 → a2 ≤ (i + 1) * 10000000000000000 → 0 ≤ e2 → e2 ≤ (i + 1) * 10000 → V_X7_measure_105 d S (msr F a2 e2) G Q g q b lo hi (inn q) (cb F G (inn q) hi) i z9 := by
        intro a2 e2 z9 ha he b1 b2 b3 b4
        unfold V_X7_measure_105
        refine ⟨by omega, ih (i + 1) a2 e2 (by omega) (by omega) (by omega) ?_ ?_ b1 b2 b3 b4⟩
        · rw [sI_1 _ (by omega), ha, ea]
        · rw [sI_1 _ (by omega), he, ee]
      refine ⟨hd, _, pu_field hsh h0 (by omega) (by omega) (by omega), _, pu_uo hsh hc hb hg hg2 h0 h1 (by omega) (by omega), fun w => ?_, fun w => ?_⟩
      · refine next a e _ ?_ ?_ a0 (by omega) e0 (by omega)
        · have : uo G q g b i = 0 := by omega
          simp only [fL]
          rw [this, Int.zero_mul, Int.add_zero]
        · simp only [fN]
          rw [if_neg (by omega), Int.add_zero]
      · refine ⟨_, pu_overlap hk (co_congr (msr_c hne) hin4) (by omega) (by rw [msr_c hne]; omega) (by omega) (by omega) (by omega) (by omega), ?_⟩
        rw [im.1]
        refine ⟨by omega, by rw [msr_2]; omega, fun F22 e22 => ⟨?_, fun F24 e24 => ?_⟩⟩
        · rw [e22, fu_k (by decide), msr_3]; omega
        · have : F24 = msr F (a + uo G q g b i * ov (G (inn q + 1) i) (G (inn q + 1) (i + 1)) lo hi) (e + ov (G (inn q + 1) i) (G (inn q + 1) (i + 1)) lo hi) := by
            rw [e24, e22, fu_k (by decide), msr_2, msr_3]
            exact msr_up
          rw [this]
          refine next _ _ _ rfl ?_ (by omega) (by omega) (by omega) (by omega)
          simp only [fN]
          rw [if_pos (by omega)]
  refine ok_go rfl (by decide) (Nat.le_of_ble_eq_true rfl) (R_X7_measure_0 hsh ?_)
  unfold V_X7_measure_0
  refine ⟨hd, _, pu_inner hsh q, fun F8 e8 F9 e9 => ?_⟩
  have e0 : F9 = msr F 0 0 := by rw [e9, e8]; rfl
  subst e0
  have q1 := pu_bandOf (d := d - 1) (S := S) hk (co_congr (F1 := msr F 0 0) (msr_c hne) hin4) (p := hi) (by omega)
  have q2 := pu_bandOf (d := d - 1) (S := S) hk (co_congr (F1 := msr F 0 0) (msr_c hne) hin4) (p := lo) (by omega)
  rw [cb_congr (msr_c hne)] at q1 q2
  refine ⟨hk, _, q1, _, q2, loop _ _ 0 0 (Nat.le_refl _) (Int.le_refl _) (by omega) ?_ ?_ (by omega) (by omega) (by omega) (by omega)⟩
  · rw [sI_beg zL1]
  · rw [sI_beg zN1]
