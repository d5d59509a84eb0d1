/-- seen, or nothing yet -/
def MA (F : AF) (G : AG) (g : Int) (re : Nat) (v : Int) : Prop := v = 0 ∨ ∃ i j : Int, cb F G 4 (F re 0) ≤ i ∧ i ≤ cb F G 4 (F re 2) ∧ cb F G 11 (F re 1) ≤ j ∧ j ≤ cb F G 11 (F re 3) ∧ cu G 18 g i j = v
theorem pu_mostIn {d : Nat} {S : AS} {F : AF} {G : AG} (hd : 1 ≤ d) (hsh : ShC S) (hc : CC F G) {re : Nat} (hk : AtRect S re) (hb : PBA F G 18) {g : Int} (hg : -1 ≤ g) (hg2 : g ≤ 2) (hr : RG1 F re) : ∃ v : Int, MaxIn (G 5) (G 12) (F 4 1) (F 11 1) (cu G 18 g) (F re 0) (F re 1) (F re 2) (F re 3) v ∧ Pu d MX2_mostIn [vR 2, vI g, vR re] S F G (some (vJ v)) := by
  obtain ⟨r1, r2, r3, r4, r5, r6⟩ := hr
  have hx := hc.1
  have hy := hc.2.1
  have hx4 : CO F G 4 104 := ⟨hx.1, by have := hx.2.1; omega, hx.2.2⟩
  have hy4 : CO F G 11 104 := ⟨hy.1, by have := hy.2.1; omega, hy.2.2⟩
  have x48 := hx.2.1
  have y48 := hy.2.1
  have p1 := cb_spec hx4 (p := F re 0) r1
  have p2 := cb_spec hx4 (p := F re 2) (by omega)
  have p3 := cb_spec hy4 (p := F re 1) r4
  have p4 := cb_spec hy4 (p := F re 3) (by omega)
  have m1 := cb_mono hx4 r1 r2 r3
  have m2 := cb_mono hy4 r4 r5 r6
  have ub : ∀ i j : Int, 0 ≤ i → i < F 4 1 → 0 ≤ j → j < F 11 1 → 0 ≤ cu G 18 g i j ∧ cu G 18 g i j ≤ 1000000000000 := fun i j i0 i1 j0 j1 => cu_in (hb i j i0 i1 j0 j1) hg hg2
  -- the walk gives some v, with what was seen
  have fin : ∀ acc : Int, (∀ i j : Int, cb F G 4 (F re 0) ≤ i → i ≤ cb F G 4 (F re 2) → cb F G 11 (F re 1) ≤ j → j ≤ cb F G 11 (F re 3) → cu G 18 g i j ≤ acc) → MA F G g re acc → MaxIn (G 5) (G 12) (F 4 1) (F 11 1) (cu G 18 g) (F re 0) (F re 1) (F re 2) (F re 3) acc := by
    intro acc h1 h2
    refine ⟨?_, fun i j i0 i1 j0 j1 o1 o2 => ?_⟩
    · rcases h2 with h2 | ⟨i, j, a1, a2, a3, a4, a5⟩
      · have q1 := h1 (cb F G 4 (F re 0)) (cb F G 11 (F re 1)) (by omega) m1 (by omega) m2
        have q2 := ub (cb F G 4 (F re 0)) (cb F G 11 (F re 1)) p1.1 p1.2.1 p3.1 p3.2.1
        exact ⟨_, _, p1.1, p1.2.1, p3.1, p3.2.1, (ov_iff hx4 r1 r2 r3 p1.1 p1.2.1).mpr ⟨Int.le_refl _, m1⟩, (ov_iff hy4 r4 r5 r6 p3.1 p3.2.1).mpr ⟨Int.le_refl _, m2⟩, by omega⟩
      · exact ⟨i, j, by omega, by omega, by omega, by omega, (ov_iff hx4 r1 r2 r3 (by omega) (by omega)).mpr ⟨a1, a2⟩, (ov_iff hy4 r4 r5 r6 (by omega) (by omega)).mpr ⟨a3, a4⟩, a5⟩
    · have q1 := (ov_iff hx4 r1 r2 r3 i0 i1).mp o1
      have q2 := (ov_iff hy4 r4 r5 r6 j0 j1).mp o2
      exact h1 i j q1.1 q1.2 q2.1 q2.2
  obtain ⟨v, hv⟩ : ∃ v : Int, MaxIn (G 5) (G 12) (F 4 1) (F 11 1) (cu G 18 g) (F re 0) (F re 1) (F re 2) (F re 3) v := by
    -- there is a least: by the walk over all, in numbers
    have ex : ∀ k : Nat, ∃ acc : Int, (∀ i j : Int, cb F G 4 (F re 0) ≤ i → i ≤ cb F G 4 (F re 2) → cb F G 11 (F re 1) ≤ j → j ≤ cb F G 11 (F re 3) → 100 * j + i < k → cu G 18 g i j ≤ acc) ∧ MA F G g re acc := by
      intro k
      induction k with
      | zero => exact ⟨0, fun i j a b c e f => absurd f (by omega), Or.inl rfl⟩
      | succ k ih =>
        obtain ⟨acc, h1, h2⟩ := ih
        by_cases w : ∃ i j : Int, cb F G 4 (F re 0) ≤ i ∧ i ≤ cb F G 4 (F re 2) ∧ cb F G 11 (F re 1) ≤ j ∧ j ≤ cb F G 11 (F re 3) ∧ 100 * j + i = k ∧ acc < cu G 18 g i j
        · obtain ⟨i, j, a1, a2, a3, a4, a5, a6⟩ := w
          refine ⟨cu G 18 g i j, fun i' j' c1 c2 c3 c4 c5 => ?_, Or.inr ⟨i, j, a1, a2, a3, a4, rfl⟩⟩
          by_cases e : 100 * j' + i' = k
          · have ej : j' = j := by omega
            have ei : i' = i := by omega
            rw [ej, ei]; exact Int.le_refl _
          · have := h1 i' j' c1 c2 c3 c4 (by omega)
            omega
        · refine ⟨acc, fun i' j' c1 c2 c3 c4 c5 => ?_, h2⟩
          by_cases e : 100 * j' + i' = k
          · by_cases q : cu G 18 g i' j' ≤ acc
            · exact q
            · exact absurd ⟨i', j', c1, c2, c3, c4, e, by omega⟩ w
          · exact h1 i' j' c1 c2 c3 c4 (by omega)
    obtain ⟨acc, h1, h2⟩ := ex 10000
    exact ⟨acc, fin acc (fun i j a b c e => h1 i j a b c e (by omega)) h2⟩
  refine ⟨v, hv, ?_⟩
  have inner : ∀ (j acc : Int), cb F G 11 (F re 1) ≤ j → j ≤ cb F G 11 (F re 3) →
      (∀ acc2 : Int, (∀ i' j' : Int, cb F G 4 (F re 0) ≤ i' → i' ≤ cb F G 4 (F re 2) → cb F G 11 (F re 1) ≤ j' → j' < j + 1 → cu G 18 g i' j' ≤ acc2) → MA F G g re acc2 → Go d MX2_mostIn 50 [some (vR 2), some (vI g), some (vR re), some (vJ acc2), none, some (vI (cb F G 4 (F re 2))), some (vI (cb F G 11 (F re 3))), some (vI (j + 1)), none] [] S F G (fun r' S' F' G' => r' = some (vJ v) ∧ S' = S ∧ F' = F ∧ G' = G)) →
      ∀ (k : Nat) (i acc : Int), (cb F G 4 (F re 2) + 1 - i).toNat ≤ k → cb F G 4 (F re 0) ≤ i → i ≤ cb F G 4 (F re 2) + 1 → (∀ i' j' : Int, cb F G 4 (F re 0) ≤ i' → i' ≤ cb F G 4 (F re 2) → cb F G 11 (F re 1) ≤ j' → j' < j → cu G 18 g i' j' ≤ acc) → (∀ i' : Int, cb F G 4 (F re 0) ≤ i' → i' < i → cu G 18 g i' j ≤ acc) → MA F G g re acc → Go d MX2_mostIn 73 [some (vR 2), some (vI g), some (vR re), some (vJ acc), none, some (vI (cb F G 4 (F re 2))), some (vI (cb F G 11 (F re 3))), some (vI j), some (vI i)] [] S F G (fun r' S' F' G' => r' = some (vJ v) ∧ S' = S ∧ F' = F ∧ G' = G) := by
    intro j _ j0 j1 cont k
    induction k with
    | zero =>
      intro i acc k1 k2 k3 h1 h2 h3
      refine R_X2_mostIn_73 hsh hk ?_
      unfold V_X2_mostIn_73
      refine ⟨fun _ => ⟨by omega, cont acc (fun i' j' a b c e => ?_) h3⟩, fun z => absurd z (by omega)⟩
      by_cases w : j' = j
      · rw [w]; exact h2 i' a (by omega)
      · exact h1 i' j' a b c (by omega)
    | succ k ih =>
      intro i acc k1 k2 k3 h1 h2 h3
      refine R_X2_mostIn_73 hsh hk ?_
      unfold V_X2_mostIn_73
      refine ⟨fun z => ⟨by omega, cont acc (fun i' j' a b c e => ?_) h3⟩, fun z => ?_⟩
      · by_cases w : j' = j
        · rw [w]; exact h2 i' a (by omega)
        · exact h1 i' j' a b c (by omega)
      · refine ⟨by omega, by omega, hd, _, pu_unitsAt hsh (hb i j (by omega) (by omega) (by omega) (by omega)) hg hg2 (by omega) (by omega) (by omega) (by omega) rfl, fun x ex => ⟨by omega, ih (i + 1) x (by omega) (by omega) (by omega) (fun i' j' a b c e => ?_) (fun i' a b => ?_) ?_⟩⟩
        · have := h1 i' j' a b c e
          omega
        · by_cases w : i' = i
          · rw [w]; omega
          · have := h2 i' a (by omega)
            omega
        · rcases Int.le_total (cu G 18 g i j) acc with w | w
          · rw [show x = acc by omega]; exact h3
          · exact Or.inr ⟨i, j, by omega, by omega, by omega, by omega, by omega⟩
  have outer : ∀ (k : Nat) (j acc : Int), (cb F G 11 (F re 3) + 1 - j).toNat ≤ k → cb F G 11 (F re 1) ≤ j → j ≤ cb F G 11 (F re 3) + 1 → (∀ i' j' : Int, cb F G 4 (F re 0) ≤ i' → i' ≤ cb F G 4 (F re 2) → cb F G 11 (F re 1) ≤ j' → j' < j → cu G 18 g i' j' ≤ acc) → MA F G g re acc → Go d MX2_mostIn 50 [some (vR 2), some (vI g), some (vR re), some (vJ acc), none, some (vI (cb F G 4 (F re 2))), some (vI (cb F G 11 (F re 3))), some (vI j), none] [] S F G (fun r' S' F' G' => r' = some (vJ v) ∧ S' = S ∧ F' = F ∧ G' = G) := by
    intro k
    induction k with
    | zero =>
      intro j acc k1 k2 k3 h1 h2
      refine R_X2_mostIn_50 hsh hk ?_
      unfold V_X2_mostIn_50
      refine ⟨fun _ => ⟨?_, rfl, rfl, rfl⟩, fun z => absurd z (by omega)⟩
      rw [max_uniq (fin acc (fun i j' a b c e => h1 i j' a b c (by omega)) h2) hv]
    | succ k ih =>
      intro j acc k1 k2 k3 h1 h2
      refine R_X2_mostIn_50 hsh hk ?_
      unfold V_X2_mostIn_50
      refine ⟨fun z => ⟨?_, rfl, rfl, rfl⟩, fun z => ⟨hd, _, pu_bandOf (at_4 hsh) hx4 r1, ?_⟩⟩
      · rw [max_uniq (fin acc (fun i j' a b c e => h1 i j' a b c (by omega)) h2) hv]
      · exact inner j acc k2 (by omega) (fun acc2 a b => ih (j + 1) acc2 (by omega) (by omega) (by omega) a b) _ _ acc (Nat.le_refl _) (by omega) (by omega) h1 (fun i' a b => absurd b (by omega)) h2
  refine ok_go rfl (by decide) (Nat.le_of_ble_eq_true rfl) (R_X2_mostIn_0 hsh hk ?_)
  unfold V_X2_mostIn_0
  exact ⟨hd, _, pu_bandOf (at_4 hsh) hx4 (by omega), _, pu_bandOf (at_11 hsh) hy4 (by omega), _, pu_bandOf (at_11 hsh) hy4 r4, outer _ _ _ (Nat.le_refl _) (Int.le_refl _) (by omega) (fun i' j' a b c e => absurd e (by omega)) (Or.inl rfl)⟩
