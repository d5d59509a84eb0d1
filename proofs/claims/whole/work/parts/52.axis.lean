/-! AN AXIS: its plan by a shift, its traces, its plan adopted -/
theorem co_cg {F F1 : AF} {G G1 : AG} {o : Nat} {m : Int} (e : F1 o = F o) (e2 : G1 (o + 1) = G (o + 1)) (h : CO F G o m) : CO F1 G1 o m := by
  obtain ⟨c1, c2, c3, c4, c5, c6, c7⟩ := h
  simp only [CO]
  rw [e, e2]
  exact ⟨c1, c2, c3, c4, c5, c6, c7⟩
theorem co_up {F : AF} {G : AG} {o : Nat} {m m2 : Int} (h : CO F G o m) (hm : m ≤ m2) : CO F G o m2 := ⟨h.1, by have := h.2.1; omega, h.2.2⟩
theorem cb_cg {F F1 : AF} {G G1 : AG} {o : Nat} (e : F1 o = F o) (e2 : G1 (o + 1) = G (o + 1)) (p : Int) : cb F1 G1 o p = cb F G o p := by
  simp only [cb]
  rw [e, e2]
theorem isC_cg {F F1 : AF} {G G1 : AG} {o : Nat} (e : F1 o = F o) (e2 : G1 (o + 1) = G (o + 1)) (p : Int) : isC F1 G1 o p ↔ isC F G o p := by
  simp only [isC]
  rw [e, e2]
theorem grown_w {F F' : AF} {G G' : AG} {o : Nat} {n m : Int} {P P2 : Int → Prop} (h : Grown F F' G G' o n P) (hn : n ≤ m) (hp : ∀ q : Int, P q ↔ P2 q) : Grown F F' G G' o m P2 := by
  obtain ⟨a1, a2, a3, a4⟩ := h
  refine ⟨a1, co_up a2 (by omega), a3, fun q => ?_⟩
  rw [a4, hp]
theorem ok_planShifted {d : Nat} {S : AS} {F : AF} {G : AG} {a : Nat} (hd : 2 ≤ d) (hk : AtAxis S a) {lo hi by' : Int} (hn : CO F G (a + 1) 48) (h : CO F G (a + 3) 54) (hb : -9999 ≤ by') (hb2 : by' ≤ 9999) {Q : AQ} (hq : ∀ F' G', Grown F F' G G' (a + 3) 48 (fun q => ∃ c : Int, isC F G (a + 1) c ∧ lo < c ∧ c ≤ hi ∧ q = c + by') → Q none S F' G') : Ok d MX0_planShifted [vR a, vI lo, vI hi, vI by'] S F G Q := by
  have hk3 : AtCuts S (a + 3) := hk.2.2.2.2.2.2.1
  have n1 := hn.1
  have n2 := hn.2.1
  have s0 := h.2.1
  refine ok_go rfl (by decide) (Nat.le_of_ble_eq_true rfl) (R_X0_planShifted_0 hk ?_)
  unfold V_X0_planShifted_0
  refine up_ind (α := AF × AG) (F (a + 1) 1 - 1) (fun i w => 0 ≤ i ∧ i ≤ F (a + 1) 1 ∧ Grown F w.1 G w.2 (a + 3) i (fun q => ∃ k : Int, 0 ≤ k ∧ k < i ∧ lo < G (a + 1 + 1) k ∧ G (a + 1 + 1) k ≤ hi ∧ q = G (a + 1 + 1) k + by')) (fun i w => Go d MX0_planShifted 3 [some (vR a), some (vI lo), some (vI hi), some (vI by'), some (vI i)] [] S w.1 w.2 Q) ?_ ?_ 0 (F, G) ⟨by omega, by omega, ?_⟩
  · rintro i ⟨F1, G1⟩ ⟨i0, i1, g1⟩ hi1 ih
    have e1 : F1 (a + 1) = F (a + 1) := g1.1.1 (a + 1) (by omega)
    have e2 : G1 (a + 1 + 1) = G (a + 1 + 1) := g1.1.2.1 (a + 1 + 1) (by omega)
    have b1 := co_in hn (i := i) i0 (by omega)
    have n4 := hn.2.2.2.1
    have s1 := g1.2.1.2.1
    refine R_X0_planShifted_3 hk ?_
    unfold V_X0_planShifted_3
    simp only [e1, e2]
    have skip : ¬ (lo < G (a + 1 + 1) i ∧ G (a + 1 + 1) i ≤ hi) → V_X0_planShifted_62 d S F1 G1 Q a lo hi by' i := by
      intro q
      unfold V_X0_planShifted_62
      refine ⟨by omega, ih (F1, G1) ⟨by omega, by omega, grown_w g1 (by omega) (fun p => ⟨?_, ?_⟩)⟩⟩
      · rintro ⟨k, k0, k1, k2⟩
        exact ⟨k, k0, by omega, k2⟩
      · rintro ⟨k, k0, k1, k2, k3, k4⟩
        by_cases w : k = i
        · rw [w] at k2 k3
          exact absurd ⟨k2, k3⟩ q
        · exact ⟨k, k0, by omega, k2, k3, k4⟩
    refine ⟨fun q => absurd q (by omega), fun _ => ⟨i0, by omega, fun q => skip (by omega), fun q => ⟨fun q2 => skip (by omega), fun q2 => ⟨by omega, by omega, ?_⟩⟩⟩⟩
    refine ok_putG (by omega) hk3 ⟨g1.2.1.1, by omega, g1.2.1.2.2⟩ _ (fun F2 G2 g2 => ⟨rfl, rfl, ?_⟩)
    unfold V_X0_planShifted_62
    refine ⟨by omega, ih (F2, G2) ⟨by omega, by omega, grown_w (grown_tr g1 g2) (by omega) (fun p => ⟨?_, ?_⟩)⟩⟩
    · rintro (⟨k, k0, k1, k2⟩ | k)
      · exact ⟨k, k0, by omega, k2⟩
      · exact ⟨i, i0, by omega, by omega, by omega, k⟩
    · rintro ⟨k, k0, k1, k2, k3, k4⟩
      by_cases w : k = i
      · rw [w] at k4
        exact Or.inr k4
      · exact Or.inl ⟨k, k0, by omega, k2, k3, k4⟩
  · rintro i ⟨F1, G1⟩ ⟨i0, i1, g1⟩ hi1
    have e1 : F1 (a + 1) = F (a + 1) := g1.1.1 (a + 1) (by omega)
    refine R_X0_planShifted_3 hk ?_
    unfold V_X0_planShifted_3
    simp only [e1]
    refine ⟨fun _ => hq F1 G1 (grown_w g1 (by omega) (fun p => ⟨?_, ?_⟩)), fun q => absurd q (by omega)⟩
    · rintro ⟨k, k0, k1, k2, k3, k4⟩
      exact ⟨_, ⟨k, k0, by omega, rfl⟩, k2, k3, k4⟩
    · rintro ⟨c, ⟨k, k0, k1, rfl⟩, k2, k3, k4⟩
      exact ⟨k, k0, by omega, k2, k3, k4⟩
  · refine grown_w (grown_0 h) (by omega) (fun p => ⟨fun z => z.elim, ?_⟩)
    rintro ⟨k, k0, k1, _⟩
    omega
theorem ok_traceOrigins {d : Nat} {S : AS} {F : AF} {G : AG} {a : Nat} (hd : 1 ≤ d) (hk : AtAxis S a) (hn : CO F G (a + 1) 48) (h : CO F G (a + 3) 48) {Q : AQ} (hq : ∀ G', (∀ c : Nat, c ≠ a + 5 → G' c = G c) → (∀ i : Int, 0 ≤ i → i < F (a + 3) 1 → G' (a + 5) i = cb F G (a + 1) (G (a + 3 + 1) i)) → Q none S F G') : Ok d MX0_traceOrigins [vR a] S F G Q := by
  have hk1 : AtCuts S (a + 1) := hk.2.2.2.2.2.1
  have s0 := h.1
  have s1 := h.2.1
  refine ok_go rfl (by decide) (Nat.le_of_ble_eq_true rfl) (R_X0_traceOrigins_0 hk ?_)
  unfold V_X0_traceOrigins_0
  refine up_ind (α := AG) (F (a + 3) 1 - 1) (fun i G1 => 0 ≤ i ∧ i ≤ F (a + 3) 1 ∧ (∀ c : Nat, c ≠ a + 5 → G1 c = G c) ∧ ∀ k : Int, 0 ≤ k → k < i → G1 (a + 5) k = cb F G (a + 1) (G (a + 3 + 1) k)) (fun i G1 => Go d MX0_traceOrigins 2 [some (vR a), some (vI i)] [] S F G1 Q) ?_ ?_ 0 G ⟨by omega, by omega, fun _ _ => rfl, fun k a b => absurd b (by omega)⟩
  · intro i G1 hI hi ih
    obtain ⟨i0, i1, f1, v1⟩ := hI
    have e2 : G1 (a + 1 + 1) = G (a + 1 + 1) := f1 _ (by omega)
    have e4 : G1 (a + 3 + 1) = G (a + 3 + 1) := f1 _ (by omega)
    have b1 := co_in h (i := i) i0 (by omega)
    refine R_X0_traceOrigins_2 hk ?_
    unfold V_X0_traceOrigins_2
    rw [e4]
    refine ⟨fun q => absurd q (by omega), fun _ => ⟨fun q => absurd q (by omega), fun _ => ⟨i0, by omega, hd, _, pu_bandOf hk1 (co_up (co_cg rfl e2 hn) (by omega)) b1.1, by omega, fun G11 e11 => ⟨by omega, ih G11 ⟨by omega, by omega, fun c hc => by rw [e11, gu_row hc]; exact f1 c hc, fun k k0 k1 => ?_⟩⟩⟩⟩⟩
    by_cases w : k = i
    · rw [w, e11, gu_s, cb_cg rfl e2]
    · rw [e11, gu_i w]
      exact v1 k k0 (by omega)
  · intro i G1 hI hi
    obtain ⟨i0, i1, f1, v1⟩ := hI
    refine R_X0_traceOrigins_2 hk ?_
    unfold V_X0_traceOrigins_2
    exact ⟨fun _ => hq G1 f1 (fun k k0 k1 => v1 k k0 (by omega)), fun q => absurd q (by omega)⟩
theorem ok_traceSources {d : Nat} {S : AS} {F : AF} {G : AG} {a : Nat} (hd : 1 ≤ d) (hk : AtAxis S a) {lo hi by' : Int} (hn : CO F G (a + 1) 48) (h : CO F G (a + 3) 48) (hb : -9999 ≤ by') (hb2 : by' ≤ 9999) (hlo : 0 ≤ lo) {Q : AQ} (hq : ∀ G', (∀ c : Nat, c ≠ a + 6 → G' c = G c) → (∀ i : Int, 0 ≤ i → i < F (a + 3) 1 → G' (a + 6) i = if lo ≤ G (a + 3 + 1) i - by' ∧ G (a + 3 + 1) i - by' ≤ hi then cb F G (a + 1) (G (a + 3 + 1) i - by') else -1) → Q none S F G') : Ok d MX0_traceSources [vR a, vI lo, vI hi, vI by'] S F G Q := by
  have hk1 : AtCuts S (a + 1) := hk.2.2.2.2.2.1
  have hk6 : sN S (a + 6) = 48 := hk.2.2.2.2.2.2.2.2.2
  have s0 := h.1
  have s1 := h.2.1
  have s4 := h.2.2.2.1
  refine ok_go rfl (by decide) (Nat.le_of_ble_eq_true rfl) (R_X0_traceSources_0 hk ?_)
  unfold V_X0_traceSources_0
  refine up_ind (α := AG) (F (a + 3) 1 - 1) (fun i G1 => 0 ≤ i ∧ i ≤ F (a + 3) 1 ∧ (∀ c : Nat, c ≠ a + 6 → G1 c = G c) ∧ ∀ k : Int, 0 ≤ k → k < i → G1 (a + 6) k = if lo ≤ G (a + 3 + 1) k - by' ∧ G (a + 3 + 1) k - by' ≤ hi then cb F G (a + 1) (G (a + 3 + 1) k - by') else -1) (fun i G1 => Go d MX0_traceSources 3 [some (vR a), some (vI lo), some (vI hi), some (vI by'), some (vI i), none] [] S F G1 Q) ?_ ?_ 0 G ⟨by omega, by omega, fun _ _ => rfl, fun k a b => absurd b (by omega)⟩
  · intro i G1 hI hi9 ih
    obtain ⟨i0, i1, f1, v1⟩ := hI
    have e2 : G1 (a + 1 + 1) = G (a + 1 + 1) := f1 _ (by omega)
    have e4 : G1 (a + 3 + 1) = G (a + 3 + 1) := f1 _ (by omega)
    have b1 := co_in h (i := i) i0 (by omega)
    have nx : ∀ z : Int, z = (if lo ≤ G (a + 3 + 1) i - by' ∧ G (a + 3 + 1) i - by' ≤ hi then cb F G (a + 1) (G (a + 3 + 1) i - by') else -1) → ∀ x : Int, V_X0_traceSources_70 d S F G1 Q a lo hi by' i x z i (a + 6) := by
      intro z ez x
      unfold V_X0_traceSources_70
      rw [hk6]
      refine ⟨i0, by omega, fun G3 e3 => ⟨by omega, ih G3 ⟨by omega, by omega, fun c hc => by rw [e3, gu_row hc]; exact f1 c hc, fun k k0 k1 => ?_⟩⟩⟩
      by_cases w : k = i
      · rw [w, e3, gu_s, ez]
      · rw [e3, gu_i w]
        exact v1 k k0 (by omega)
    refine R_X0_traceSources_3 hk ?_
    unfold V_X0_traceSources_3
    rw [e4]
    refine ⟨fun q => absurd q (by omega), fun _ => ⟨fun q => absurd q (by omega), fun _ => ⟨i0, by omega, by omega, fun x ex => ⟨fun q => ?_, fun q => ⟨fun q2 => ?_, fun q2 => ⟨hd, _, pu_bandOf hk1 (co_up (co_cg rfl e2 hn) (by omega)) (by omega), ?_⟩⟩⟩⟩⟩⟩
    · unfold V_X0_traceSources_69
      exact nx (-1) (by rw [if_neg (by omega)]) x
    · unfold V_X0_traceSources_69
      exact nx (-1) (by rw [if_neg (by omega)]) x
    · refine nx _ ?_ x
      rw [if_pos (by omega), cb_cg rfl e2, ex]
  · intro i G1 hI hi9
    obtain ⟨i0, i1, f1, v1⟩ := hI
    refine R_X0_traceSources_3 hk ?_
    unfold V_X0_traceSources_3
    exact ⟨fun _ => hq G1 f1 (fun k k0 k1 => v1 k k0 (by omega)), fun q => absurd q (by omega)⟩
/-- 1 for a new border below the topmost one of before -/
noncomputable def nw (e : Int → Int) (n top q : Int) : Int := by
  classical
  exact if ¬ isB e n q ∧ q < top then 1 else 0
theorem nw_in (e : Int → Int) (n top q : Int) : 0 ≤ nw e n top q ∧ nw e n top q ≤ 1 := by
  classical
  simp only [nw]
  split <;> omega
theorem nw_1 {e : Int → Int} {n top q : Int} (h : ¬ isB e n q) (h2 : q < top) : nw e n top q = 1 := by
  classical
  simp only [nw]
  rw [if_pos ⟨h, h2⟩]
theorem nw_0 {e : Int → Int} {n top q : Int} (h : isB e n q ∨ ¬ q < top) : nw e n top q = 0 := by
  classical
  simp only [nw]
  rw [if_neg]
  rintro ⟨a, b⟩
  exact h.elim a (fun z => z b)
/-- what adopt leaves of an axis: late, and the borders that were planned -/
def Adp (F F' : AF) (G G' : AG) (a : Nat) : Prop := (∀ c : Nat, c ≠ a → c ≠ a + 1 → F' c = F c) ∧ (∀ k : Nat, k ≠ 4 → F' a k = F a k) ∧ F' a 4 = F a 4 + sI (fun i => nw (G (a + 1 + 1)) (F (a + 1) 1) (G (a + 1 + 1) (F (a + 1) 1 - 1)) (G (a + 3 + 1) i)) (F (a + 3) 1) ∧ F' (a + 1) 1 = F (a + 3) 1 ∧ F' (a + 1) 2 = F (a + 3) 2 ∧ (∀ c : Nat, c ≠ a + 1 + 1 → G' c = G c) ∧ ∀ j : Int, 0 ≤ j → j ≤ F (a + 3) 1 → G' (a + 1 + 1) j = G (a + 3 + 1) j
theorem ok_adoptA {d : Nat} {S : AS} {F : AF} {G : AG} {a : Nat} (hd : 2 ≤ d) (hk : AtAxis S a) (hn : CO F G (a + 1) 48) (h : CO F G (a + 3) 48) (hw : F (a + 3) 2 = F (a + 1) 2) (ho : ∀ i : Int, 0 ≤ i → i < F (a + 3) 1 → G (a + 5) i = cb F G (a + 1) (G (a + 3 + 1) i)) (hl : 0 ≤ F a 4) (hl2 : F a 4 ≤ 1000) {Q : AQ} (hq : ∀ F' G', Adp F F' G G' a → Q none S F' G') : Ok d MX0_adopt [vR a] S F G Q := by
  have hk1 : AtCuts S (a + 1) := hk.2.2.2.2.2.1
  have hk3 : AtCuts S (a + 3) := hk.2.2.2.2.2.2.1
  have n1 := hn.1
  have n2 := hn.2.1
  have s0 := h.1
  have s1 := h.2.1
  have sq := sq_co hn
  generalize hf : (fun i => nw (G (a + 1 + 1)) (F (a + 1) 1) (G (a + 1 + 1) (F (a + 1) 1 - 1)) (G (a + 3 + 1) i)) = f
  have fe : ∀ i, f i = nw (G (a + 1 + 1)) (F (a + 1) 1) (G (a + 1 + 1) (F (a + 1) 1 - 1)) (G (a + 3 + 1) i) := fun i => by rw [← hf]
  refine ok_go rfl (by decide) (Nat.le_of_ble_eq_true rfl) (R_X0_adopt_0 hk ?_)
  unfold V_X0_adopt_0
  refine ⟨by omega, by omega, by omega, fun top et => ?_⟩
  refine up_ind (α := AF) (F (a + 3) 1 - 1) (fun i F1 => 0 ≤ i ∧ i ≤ F (a + 3) 1 ∧ (∀ c : Nat, c ≠ a → F1 c = F c) ∧ (∀ k : Nat, k ≠ 4 → F1 a k = F a k) ∧ F1 a 4 = F a 4 + sI f i ∧ 0 ≤ sI f i ∧ sI f i ≤ i) (fun i F1 => Go d MX0_adopt 20 [some (vR a), some (vI top), some (vI i), none] [] S F1 G Q) ?_ ?_ 0 F ⟨by omega, by omega, fun _ _ => rfl, fun _ _ => rfl, by rw [sI_0 _ (by omega), Int.add_zero], by rw [sI_0 _ (by omega)]; omega, by rw [sI_0 _ (by omega)]; omega⟩
  · intro i F1 hI hi ih
    obtain ⟨i0, i1, f1, f2, f3, f4, f5⟩ := hI
    have e1 : F1 (a + 1) = F (a + 1) := f1 _ (by omega)
    have e3 : F1 (a + 3) = F (a + 3) := f1 _ (by omega)
    have b1 := co_in h (i := i) i0 (by omega)
    have b2 : G (a + 3 + 1) i < F (a + 1) 2 := by
      have := rise_lt h.2.2.2.2.2.2 (i := i) (j := F (a + 3) 1) i0 (by omega) (by omega)
      have := h.2.2.2.2.2.1
      omega
    have c1 := cb_spec (co_up hn (m2 := 104) (by omega)) (p := G (a + 3 + 1) i) b1.1
    have fin := nw_in (G (a + 1 + 1)) (F (a + 1) 1) (G (a + 1 + 1) (F (a + 1) 1 - 1)) (G (a + 3 + 1) i)
    rw [← fe] at fin
    have nx : ∀ (z : Int) (F2 : AF), (∀ c : Nat, c ≠ a → F2 c = F c) → (∀ k : Nat, k ≠ 4 → F2 a k = F a k) → F2 a 4 = F1 a 4 + f i → V_X0_adopt_99 d S F2 G Q a top i z := by
      intro z F2 g1 g2 g3
      unfold V_X0_adopt_99
      refine ⟨by omega, ih F2 ⟨by omega, by omega, g1, g2, ?_, ?_, ?_⟩⟩
      · rw [sI_1 _ i0]; omega
      · rw [sI_1 _ i0]; omega
      · rw [sI_1 _ i0]; omega
    refine R_X0_adopt_20 hk ?_
    unfold V_X0_adopt_20
    rw [e3, ho i i0 (by omega)]
    refine ⟨fun q => absurd q (by omega), fun _ => ⟨fun q => absurd q (by omega), fun _ => ⟨i0, by omega, c1.1, by omega, by omega, fun q => ?_, fun q => ?_⟩⟩⟩
    · unfold V_X0_adopt_71
      refine ⟨fun _ => nx 0 F1 f1 f2 ?_, fun z => absurd rfl z⟩
      rw [fe, nw_0 (Or.inl ⟨_, c1.1, c1.2.1, q⟩), Int.add_zero]
    · unfold V_X0_adopt_71
      have nb : ¬ isB (G (a + 1 + 1)) (F (a + 1) 1) (G (a + 3 + 1) i) := by
        rintro ⟨k, k0, k1, ke⟩
        have := bl_at sq k0 k1
        rw [ke, ← bl_cb b2] at this
        rw [this] at q
        exact q ke
      refine ⟨fun z => absurd z (by decide), fun _ => ⟨i0, by omega, fun q2 => nx 1 F1 f1 f2 ?_, fun q2 => ⟨by omega, fun F4 e4 => nx 1 F4 (fun c hc => by rw [e4, fu_row hc]; exact f1 c hc) (fun k hk9 => by rw [e4, fu_k hk9]; exact f2 k hk9) ?_⟩⟩⟩
      · rw [fe, nw_0 (Or.inr (by omega)), Int.add_zero]
      · rw [e4, fu_s, fe, nw_1 nb (by omega)]
  · intro i F1 hI hi
    obtain ⟨i0, i1, f1, f2, f3, f4, f5⟩ := hI
    have ei : i = F (a + 3) 1 := by omega
    have e1 : F1 (a + 1) = F (a + 1) := f1 _ (by omega)
    have e3 : F1 (a + 3) = F (a + 3) := f1 _ (by omega)
    refine R_X0_adopt_20 hk ?_
    unfold V_X0_adopt_20
    rw [e3]
    refine ⟨fun _ => ?_, fun q => absurd q (by omega)⟩
    unfold V_X0_adopt_105
    refine ⟨by omega, ok_copy (by omega) hk1 hk3 (by omega) (co_up (co_cg e3 rfl h) (by omega)) (fun F2 G2 l => ⟨rfl, rfl, hq F2 G2 ?_⟩)⟩
    obtain ⟨l1, l2, l3, l4, l5⟩ := l
    rw [e3] at l3 l4 l5
    have ea : F2 a = F1 a := l1 a (by omega)
    refine ⟨fun c h1 h2 => (l1 c h2).trans (f1 c h1), fun k hk9 => by rw [ea]; exact f2 k hk9, ?_, l3, l4, l2, l5⟩
    rw [ea, f3, hf, ei]
