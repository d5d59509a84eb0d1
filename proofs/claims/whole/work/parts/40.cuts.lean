/-! BORDERS OF AN AXIS in the system: a Cuts at o, its row at o + 1 -/
def CO (F : AF) (G : AG) (o : Nat) (m : Int) : Prop := 1 ≤ F o 1 ∧ F o 1 ≤ m ∧ 1 ≤ F o 2 ∧ F o 2 ≤ 10000 ∧ G (o + 1) 0 = 0 ∧ G (o + 1) (F o 1) = F o 2 ∧ Rise (G (o + 1)) (F o 1)
theorem co_in {F : AF} {G : AG} {o : Nat} {m : Int} (h : CO F G o m) {i : Int} (h0 : 0 ≤ i) (h1 : i ≤ F o 1) : 0 ≤ G (o + 1) i ∧ G (o + 1) i ≤ F o 2 := by
  obtain ⟨c1, c2, c3, c4, c5, c6, c7⟩ := h
  have a := rise_le c7 (i := 0) (j := i) (by omega) h0 h1
  have b := rise_le c7 (i := i) (j := F o 1) h0 h1 (by omega)
  omega
/-- the band of a place; the place behind the last line counts to the last band -/
noncomputable def cb (F : AF) (G : AG) (o : Nat) (p : Int) : Int := if p < F o 2 then blk (G (o + 1)) (F o 1) p else F o 1 - 1
theorem cb_spec {F : AF} {G : AG} {o : Nat} {m : Int} (h : CO F G o m) {p : Int} (hp : 0 ≤ p) : 0 ≤ cb F G o p ∧ cb F G o p < F o 1 ∧ G (o + 1) (cb F G o p) ≤ p ∧ (p < F o 2 → p < G (o + 1) (cb F G o p + 1)) := by
  obtain ⟨c1, c2, c3, c4, c5, c6, c7⟩ := h
  simp only [cb]
  by_cases q : p < F o 2
  · rw [if_pos q]
    obtain ⟨a, b, c, e⟩ := blk_spec (blk_ex (e := G (o + 1)) (n := F o 1) (p := p) c1 (by omega) (by omega))
    exact ⟨a, b, c, fun _ => e⟩
  · rw [if_neg q]
    have := rise_lt c7 (i := F o 1 - 1) (j := F o 1) (by omega) (by omega) (by omega)
    exact ⟨by omega, by omega, by omega, fun z => absurd z q⟩
theorem cb_uniq {F : AF} {G : AG} {o : Nat} {m : Int} (h : CO F G o m) {p z : Int} (h0 : 0 ≤ z) (h1 : z < F o 1) (h2 : G (o + 1) z ≤ p) (h3 : z = F o 1 - 1 ∨ p < G (o + 1) (z + 1)) : cb F G o p = z := by
  obtain ⟨c1, c2, c3, c4, c5, c6, c7⟩ := h
  simp only [cb]
  by_cases q : p < F o 2
  · rw [if_pos q]
    refine blk_uniq c7 h0 h1 h2 ?_
    rcases h3 with e | e
    · rw [e, show F o 1 - 1 + 1 = F o 1 by omega]; omega
    · exact e
  · rw [if_neg q]
    rcases h3 with e | e
    · exact e.symm
    · have := rise_le c7 (i := z + 1) (j := F o 1) (by omega) (by omega) (by omega)
      omega
theorem pu_bandOf {d : Nat} {S : AS} {F : AF} {G : AG} {o : Nat} (hk : AtCuts S o) (h : CO F G o 104) {p : Int} (hp : 0 ≤ p) : Pu d MX1_bandOf [vR o, vI p] S F G (some (vI (cb F G o p))) := by
  obtain ⟨c1, c2, c3, c4, c5, c6, c7⟩ := id h
  have loop : ∀ (k : Nat) (lo hi st : Int), (104 - st).toNat ≤ k → 0 ≤ lo → lo ≤ hi → hi < F o 1 → 0 ≤ st → st + (hi - lo) ≤ 103 → G (o + 1) lo ≤ p → (hi = F o 1 - 1 ∨ p < G (o + 1) (hi + 1)) → Go d MX1_bandOf 12 [some (vR o), some (vI p), some (vI lo), some (vI hi), some (vI st), none] [] S F G (fun r' S' F' G' => r' = some (vI (cb F G o p)) ∧ S' = S ∧ F' = F ∧ G' = G) := by
    intro k
    induction k with
    | zero => intro lo hi st h1 h2 h3 h4 h5 h6; exact absurd h6 (by omega)
    | succ k ih =>
      intro lo hi st h1 h2 h3 h4 h5 h6 h7 h8
      refine R_X1_bandOf_12 hk ?_
      unfold V_X1_bandOf_12
      refine ⟨fun q => absurd q (by omega), fun q => ⟨fun q2 => ?_, fun q2 => ⟨by omega, by omega, ?_, ?_⟩⟩⟩
      · have : lo = hi := by omega
        subst this
        exact ⟨by rw [cb_uniq h h2 h4 h7 h8], rfl, rfl, rfl⟩
      · rw [Int.tdiv_eq_ediv_of_nonneg (by omega)]
        omega
      · intro x ex
        rw [Int.tdiv_eq_ediv_of_nonneg (by omega)] at ex
        refine ⟨by omega, by omega, fun q3 => ⟨by omega, fun x8 ex8 => ?_⟩, fun q3 => ?_⟩
        · unfold V_X1_bandOf_55
          exact ⟨by omega, ih lo x8 (st + 1) (by omega) h2 (by omega) (by omega) (by omega) (by omega) h7 (Or.inr (by rw [ex8, show x - 1 + 1 = x by omega]; exact q3))⟩
        · unfold V_X1_bandOf_55
          exact ⟨by omega, ih x hi (st + 1) (by omega) (by omega) (by omega) h4 (by omega) (by omega) (by omega) h8⟩
  refine ok_go rfl (by decide) (Nat.le_of_ble_eq_true rfl) (R_X1_bandOf_0 hk ?_)
  unfold V_X1_bandOf_0
  refine ⟨by omega, fun x ex => loop _ 0 x 0 (Nat.le_refl _) (by omega) (by omega) (by omega) (by omega) (by omega) (by omega) (Or.inl ex)⟩
theorem pu_widthOf {d : Nat} {S : AS} {F : AF} {G : AG} {o : Nat} (hk : AtCuts S o) (h : CO F G o 104) {i : Int} (h0 : 0 ≤ i) (h1 : i < F o 1) : Pu d MX1_widthOf [vR o, vI i] S F G (some (vI (G (o + 1) (i + 1) - G (o + 1) i))) := by
  obtain ⟨c1, c2, c3, c4, c5, c6, c7⟩ := id h
  have a := co_in h (i := i) h0 (by omega)
  have b := co_in h (i := i + 1) (by omega) (by omega)
  refine ok_go rfl (by decide) (Nat.le_of_ble_eq_true rfl) (R_X1_widthOf_0 hk ?_)
  unfold V_X1_widthOf_0
  refine ⟨?_, ?_, ?_, ?_, ?_, ?_, ?_⟩
  all_goals first | omega | exact ⟨rfl, rfl, rfl, rfl⟩
theorem pu_overlap {d : Nat} {S : AS} {F : AF} {G : AG} {o : Nat} (hk : AtCuts S o) (h : CO F G o 104) {i lo hi : Int} (h0 : 0 ≤ i) (h1 : i < F o 1) (hl : -100000 ≤ lo) (hl2 : lo ≤ 100000) (hh : -100000 ≤ hi) (hh2 : hi ≤ 100000) : Pu d MX1_overlap [vR o, vI i, vI lo, vI hi] S F G (some (vI (min (G (o + 1) (i + 1)) (hi + 1) - max (G (o + 1) i) lo))) := by
  obtain ⟨c1, c2, c3, c4, c5, c6, c7⟩ := id h
  have a := co_in h (i := i) h0 (by omega)
  have b := co_in h (i := i + 1) (by omega) (by omega)
  have k20 : ∀ s : Int, s = max (G (o + 1) i) lo → V_X1_overlap_20 d S F G (fun r' S' F' G' => r' = some (vI (min (G (o + 1) (i + 1)) (hi + 1) - max (G (o + 1) i) lo)) ∧ S' = S ∧ F' = F ∧ G' = G) o i lo hi s := by
    intro s es
    unfold V_X1_overlap_20
    refine ⟨by omega, by omega, by omega, fun q x ex => ⟨by omega, ?_, rfl, rfl, rfl⟩, fun q => ⟨by omega, fun x ex => ⟨by omega, ?_, rfl, rfl, rfl⟩⟩⟩
    · rw [show x - s = min (G (o + 1) (i + 1)) (hi + 1) - max (G (o + 1) i) lo by omega]
    · rw [show x - s = min (G (o + 1) (i + 1)) (hi + 1) - max (G (o + 1) i) lo by omega]
  refine ok_go rfl (by decide) (Nat.le_of_ble_eq_true rfl) (R_X1_overlap_0 hk ?_)
  unfold V_X1_overlap_0
  refine ⟨h0, by omega, fun q => k20 _ (by omega), fun q => k20 _ (by omega)⟩
/-- a place is a border -/
def isC (F : AF) (G : AG) (o : Nat) (q : Int) : Prop := ∃ i : Int, 0 ≤ i ∧ i < F o 1 ∧ G (o + 1) i = q
/-- what a change of one Cuts leaves: all other cells; its length -/
def CF (F F' : AF) (G G' : AG) (o : Nat) : Prop := (∀ c : Nat, c ≠ o → F' c = F c) ∧ (∀ c : Nat, c ≠ o + 1 → G' c = G c) ∧ F' o 2 = F o 2
theorem fu_row {F : AF} {c k b : Nat} {z : Int} (h : b ≠ c) : fu F c k z b = F b := by funext j; exact fu_c h
theorem gu_row {G : AG} {c b : Nat} {i z : Int} (h : b ≠ c) : gu G c i z b = G b := by funext j; exact gu_c h
theorem ok_put {d : Nat} {S : AS} {F : AF} {G : AG} {o : Nat} (hd : 1 ≤ d) (hk : AtCuts S o) (h : CO F G o 103) (p : Int) : Ok d MX1_put [vR o, vI p] S F G (fun r S' F' G' => r = none ∧ S' = S ∧ CF F F' G G' o ∧ CO F' G' o (F o 1 + 1) ∧ F o 1 ≤ F' o 1 ∧ ∀ q : Int, isC F' G' o q ↔ (isC F G o q ∨ (q = p ∧ 0 < p ∧ p < F o 2))) := by
  have h104 : CO F G o 104 := ⟨h.1, by have := h.2.1; omega, h.2.2⟩
  obtain ⟨c1, c2, c3, c4, c5, c6, c7⟩ := id h
  have same : (¬ (0 < p ∧ p < F o 2) ∨ isC F G o p) → (none : Option AV) = none ∧ S = S ∧ CF F F G G o ∧ CO F G o (F o 1 + 1) ∧ F o 1 ≤ F o 1 ∧ ∀ q : Int, isC F G o q ↔ (isC F G o q ∨ (q = p ∧ 0 < p ∧ p < F o 2)) := by
    intro hn
    refine ⟨rfl, rfl, ⟨fun _ _ => rfl, fun _ _ => rfl, rfl⟩, ⟨c1, by omega, c3, c4, c5, c6, c7⟩, Int.le_refl _, fun q => ⟨Or.inl, fun z => ?_⟩⟩
    rcases z with z | ⟨z1, z2, z3⟩
    · exact z
    · rcases hn with hn | hn
      · exact absurd ⟨z2, z3⟩ hn
      · rw [z1]; exact hn
  refine ok_go rfl (by decide) (Nat.le_of_ble_eq_true rfl) (R_X1_put_0 hk ?_)
  unfold V_X1_put_0
  refine ⟨fun q => same (Or.inl (by omega)), fun q => ⟨fun q2 => same (Or.inl (by omega)), fun q2 => ⟨fun q3 => ?_, fun q3 => absurd q3 (by omega)⟩⟩⟩
  obtain ⟨b0, b1, b2, b3⟩ := cb_spec h104 (p := p) (by omega)
  have b4 := b3 (by omega)
  refine ⟨hd, _, pu_bandOf hk h104 (by omega), b0, by omega, fun q4 => ⟨by omega, fun x ex => ?_⟩, fun q4 => same (Or.inr ⟨_, b0, b1, q4⟩)⟩
  -- the row moves up from its end to the band
  have loop : ∀ (k : Nat) (i : Int) (G1 : AG), (i - (cb F G o p + 1)).toNat ≤ k → cb F G o p + 1 ≤ i → i ≤ F o 1 + 1 → (∀ c : Nat, c ≠ o + 1 → G1 c = G c) → (∀ j : Int, j < i → G1 (o + 1) j = G (o + 1) j) → (∀ j : Int, i ≤ j → j ≤ F o 1 → G1 (o + 1) (j + 1) = G (o + 1) j) → (i = F o 1 + 1 ∨ G1 (o + 1) i = G1 (o + 1) i) → Go d MX1_put 46 [some (vR o), some (vI p), some (vI (cb F G o p)), some (vI i)] [] S F G1 (fun r S' F' G' => r = none ∧ S' = S ∧ CF F F' G G' o ∧ CO F' G' o (F o 1 + 1) ∧ F o 1 ≤ F' o 1 ∧ ∀ q : Int, isC F' G' o q ↔ (isC F G o q ∨ (q = p ∧ 0 < p ∧ p < F o 2))) := by
    intro k
    induction k with
    | zero =>
      intro i G1 k1 k2 k3 g1 g2 g3 _
      have ei : i = cb F G o p + 1 := by omega
      refine R_X1_put_46 hk ?_
      unfold V_X1_put_46
      refine ⟨by omega, fun _ => ⟨by omega, by omega, fun G4 e4 => ⟨by omega, fun F6 e6 => ?_⟩⟩, fun z => absurd z (by omega)⟩
      have f1 : F6 o 1 = F o 1 + 1 := by rw [e6, fu_s]
      have f2 : F6 o 2 = F o 2 := by rw [e6, fu_k (by decide)]
      have r1 : ∀ j : Int, j ≤ cb F G o p → G4 (o + 1) j = G (o + 1) j := fun j hj => by rw [e4, gu_i (by omega)]; exact g2 j (by omega)
      have r2 : G4 (o + 1) (cb F G o p + 1) = p := by rw [e4, gu_s]
      have r3 : ∀ j : Int, cb F G o p + 1 ≤ j → j ≤ F o 1 → G4 (o + 1) (j + 1) = G (o + 1) j := fun j hj hj2 => by rw [e4, gu_i (by omega)]; exact g3 j (by omega) hj2
      refine ⟨rfl, rfl, ⟨fun c hc => by rw [e6]; exact fu_row hc, fun c hc => by rw [e4, gu_row hc]; exact g1 c hc, f2⟩, ⟨by omega, by omega, by omega, by omega, ?_, ?_, ?_⟩, by omega, fun q => ⟨?_, ?_⟩⟩
      · rw [r1 0 (by omega)]; exact c5
      · rw [f1, f2, r3 (F o 1) (by omega) (by omega)]; exact c6
      · intro j j0 j1
        rw [f1] at j1
        by_cases w1 : j < cb F G o p
        · rw [r1 j (by omega), r1 (j + 1) (by omega)]; exact c7 j j0 (by omega)
        · by_cases w2 : j = cb F G o p
          · rw [w2, r2, r1 _ (by omega)]; omega
          · by_cases w3 : j = cb F G o p + 1
            · rw [w3, r2, r3 (cb F G o p + 1) (by omega) (by omega)]; exact b4
            · have := r3 (j - 1) (by omega) (by omega)
              rw [show j - 1 + 1 = j by omega] at this
              rw [this, r3 j (by omega) (by omega)]
              have := c7 (j - 1) (by omega) (by omega)
              rw [show j - 1 + 1 = j by omega] at this
              exact this
      · rintro ⟨j, j0, j1, je⟩
        rw [f1] at j1
        by_cases w1 : j ≤ cb F G o p
        · exact Or.inl ⟨j, j0, by omega, by rw [← r1 j w1]; exact je⟩
        · by_cases w2 : j = cb F G o p + 1
          · rw [w2, r2] at je
            exact Or.inr ⟨je.symm, by omega, by omega⟩
          · have := r3 (j - 1) (by omega) (by omega)
            rw [show j - 1 + 1 = j by omega, je] at this
            exact Or.inl ⟨j - 1, by omega, by omega, this.symm⟩
      · rintro (⟨j, j0, j1, je⟩ | ⟨z1, z2, z3⟩)
        · by_cases w1 : j ≤ cb F G o p
          · exact ⟨j, j0, by omega, by rw [r1 j w1]; exact je⟩
          · exact ⟨j + 1, by omega, by omega, by rw [r3 j (by omega) (by omega)]; exact je⟩
        · exact ⟨cb F G o p + 1, by omega, by omega, by rw [r2, z1]⟩
    | succ k ih =>
      intro i G1 k1 k2 k3 g1 g2 g3 g4
      by_cases ei : i = cb F G o p + 1
      · exact ih i G1 (by omega) k2 k3 g1 g2 g3 g4
      · refine R_X1_put_46 hk ?_
        unfold V_X1_put_46
        refine ⟨by omega, fun z => absurd z (by omega), fun _ => ⟨by omega, by omega, by omega, by omega, by omega, fun G12 e12 => ⟨by omega, ?_⟩⟩⟩
        refine ih (i + -1) G12 (by omega) (by omega) (by omega) (fun c hc => by rw [e12, gu_row hc]; exact g1 c hc) (fun j hj => by rw [e12, gu_i (by omega)]; exact g2 j (by omega)) (fun j hj hj2 => ?_) (Or.inr rfl)
        by_cases w : j = i - 1
        · rw [w, e12, show i - 1 + 1 = i by omega, gu_s]
          exact g2 (i - 1) (by omega)
        · rw [e12, gu_i (by omega)]
          exact g3 j (by omega) hj2
  exact loop _ x G (Nat.le_refl _) (by omega) (by omega) (fun _ _ => rfl) (fun _ _ => rfl) (fun j a b => absurd a (by omega)) (Or.inr rfl)
