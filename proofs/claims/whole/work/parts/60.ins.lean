/-! ONE BORDER MORE: rows of borders, sums over them, blocks -/
def Ins (e e' : Int → Int) (n p z : Int) : Prop := 0 ≤ z ∧ z < n ∧ e z < p ∧ p < e (z + 1) ∧ (∀ i : Int, 0 ≤ i → i ≤ z → e' i = e i) ∧ e' (z + 1) = p ∧ ∀ i : Int, z + 1 < i → i ≤ n + 1 → e' i = e (i - 1)
theorem ins_sq {e e' : Int → Int} {n w p z : Int} (s : Sq e n w) (h : Ins e e' n p z) : Sq e' (n + 1) w ∧ ∀ q : Int, isB e' (n + 1) q ↔ (isB e n q ∨ q = p) := by
  obtain ⟨z0, z1, h1, h2, h3, h4, h5⟩ := h
  obtain ⟨s1, s2, s3, s4⟩ := s
  refine ⟨⟨by omega, ?_, ?_, fun i i0 i1 => ?_⟩, fun q => ⟨?_, ?_⟩⟩
  · rw [h3 0 (by omega) (by omega)]; exact s2
  · by_cases w2 : n = z + 1 - 1
    · omega
    · rw [h5 (n + 1) (by omega) (by omega)]
      have : n + 1 - 1 = n := by omega
      rw [this]; exact s3
  · by_cases a : i < z
    · rw [h3 i i0 (by omega), h3 (i + 1) (by omega) (by omega)]; exact s4 i i0 (by omega)
    · by_cases b : i = z
      · rw [h3 i i0 (by omega), b, h4]; exact h1
      · by_cases c : i = z + 1
        · rw [h5 (i + 1) (by omega) (by omega), c, h4]
          have : z + 1 + 1 - 1 = z + 1 := by omega
          rw [this]; exact h2
        · rw [h5 i (by omega) (by omega), h5 (i + 1) (by omega) (by omega)]
          have := s4 (i - 1) (by omega) (by omega)
          have e1 : i - 1 + 1 = i + 1 - 1 := by omega
          rw [e1] at this; exact this
  · rintro ⟨i, i0, i1, ie⟩
    by_cases a : i ≤ z
    · exact Or.inl ⟨i, i0, by omega, by rw [← h3 i i0 a]; exact ie⟩
    · by_cases b : i = z + 1
      · exact Or.inr (by rw [← ie, b, h4])
      · exact Or.inl ⟨i - 1, by omega, by omega, by rw [← h5 i (by omega) (by omega)]; exact ie⟩
  · rintro (⟨i, i0, i1, ie⟩ | hq)
    · by_cases a : i ≤ z
      · exact ⟨i, i0, by omega, by rw [h3 i i0 a]; exact ie⟩
      · refine ⟨i + 1, by omega, by omega, ?_⟩
        rw [h5 (i + 1) (by omega) (by omega)]
        have : i + 1 - 1 = i := by omega
        rw [this]; exact ie
    · exact ⟨z + 1, by omega, by omega, by rw [h4, hq]⟩
theorem ins_ex {e : Int → Int} {n w p : Int} (s : Sq e n w) (p0 : 0 < p) (p1 : p < w) (hn : ¬ isB e n p) : ∃ e' z, Ins e e' n p z := by
  have b := bl_spec s (x := p) (by omega) p1
  refine ⟨fun i => if i ≤ blk e n p then e i else if i = blk e n p + 1 then p else e (i - 1), blk e n p, b.1, b.2.1, ?_, b.2.2.2, fun i _ h => if_pos h, ?_, fun i h _ => ?_⟩
  · have : e (blk e n p) ≠ p := fun q => hn ⟨_, b.1, b.2.1, q⟩
    have := b.2.2.1
    omega
  · show (if blk e n p + 1 ≤ blk e n p then _ else _) = _
    rw [if_neg (by omega), if_pos rfl]
  · show (if i ≤ blk e n p then _ else _) = _
    rw [if_neg (by omega), if_neg (by omega)]
theorem ins_sum {e e' : Int → Int} {n p z : Int} (h : Ins e e' n p z) (f : Int → Int) : sI (fun i => f (e' i)) (n + 1) = sI (fun i => f (e i)) n + f p := by
  obtain ⟨z0, z1, h1, h2, h3, h4, h5⟩ := h
  have a : sI (fun i => f (e' i)) (z + 1) = sI (fun i => f (e i)) (z + 1) := sI_congr (fun i i0 i1 => by rw [h3 i i0 (by omega)])
  have b : ∀ k : Nat, z + 1 + (k : Int) ≤ n → sI (fun i => f (e' i)) (z + 1 + k + 1) = sI (fun i => f (e i)) (z + 1 + k) + f p := by
    intro k
    induction k with
    | zero =>
      intro _
      have e0 : z + 1 + ((0 : Nat) : Int) = z + 1 := by omega
      rw [e0, sI_1 _ (by omega), a, h4]
    | succ k ih =>
      intro hk
      have e1 : z + 1 + ((k + 1 : Nat) : Int) = z + 1 + (k : Int) + 1 := by omega
      have := ih (by omega)
      rw [e1, sI_1 _ (by omega), this, sI_1 _ (by omega : 0 ≤ z + 1 + (k : Int)), h5 (z + 1 + (k : Int) + 1) (by omega) (by omega)]
      have e2 : z + 1 + (k : Int) + 1 - 1 = z + 1 + (k : Int) := by omega
      rw [e2]
      omega
  have c := b (n - (z + 1)).toNat (by omega)
  have e3 : z + 1 + ((n - (z + 1)).toNat : Int) = n := by omega
  rw [e3] at c
  exact c
theorem ins_bl {e e' : Int → Int} {n w p z x : Int} (s : Sq e n w) (h : Ins e e' n p z) (x0 : 0 ≤ x) (x1 : x < w) : blk e n x = if blk e' (n + 1) x ≤ z then blk e' (n + 1) x else blk e' (n + 1) x - 1 := by
  have s' := (ins_sq s h).1
  obtain ⟨z0, z1, h1, h2, h3, h4, h5⟩ := h
  have b := bl_spec s' x0 x1
  generalize blk e' (n + 1) x = t at *
  obtain ⟨b0, b1, b2, b3⟩ := b
  by_cases c : t ≤ z
  · rw [if_pos c]
    refine blk_uniq s.2.2.2 b0 (by omega) ?_ ?_
    · rw [← h3 t b0 c]; exact b2
    · by_cases c2 : t = z
      · rw [c2, h4] at b3
        rw [c2]; omega
      · rw [← h3 (t + 1) (by omega) (by omega)]; exact b3
  · rw [if_neg c]
    have e1 : t - 1 + 1 = t + 1 - 1 := by omega
    refine blk_uniq s.2.2.2 (by omega) (by omega) ?_ ?_
    · by_cases c2 : t = z + 1
      · rw [c2, h4] at b2
        have e2 : t - 1 = z := by omega
        rw [e2]; omega
      · rw [← h5 t (by omega) (by omega)]; exact b2
    · rw [e1, ← h5 (t + 1) (by omega) (by omega)]; exact b3
/-- more borders in a row: strictly more of them -/
theorem sub_lt {e e' : Int → Int} {n n' w p : Int} (s : Sq e n w) (s' : Sq e' n' w) (b : Sub e e' n n') (h1 : isB e' n' p) (h2 : ¬ isB e n p) : n < n' := by
  by_cases w2 : n < n'
  · exact w2
  · obtain ⟨e1, e2⟩ := sq_same s s' b (by omega)
    obtain ⟨i, i0, i1, ie⟩ := h1
    exact absurd ⟨i, i0, by omega, by rw [e2 i i0 (by omega)]; exact ie⟩ h2
theorem sub_le {e e' : Int → Int} {n n' w : Int} (s : Sq e n w) (s' : Sq e' n' w) (b : Sub e e' n n') : n ≤ n' := by
  have n1 := s.1
  have := (sq_lei s s' b (i := n - 1) (by omega) (by omega)).1
  omega
/-! WANTING: the borders that would come -/
theorem me_cg {F F' : AF} {G G' : AG} (e1 : F' 53 1 = F 53 1) (e2 : F' 53 2 = F 53 2) (g54 : G' 54 = G 54) (g55 : G' 55 = G 55) (a : Int) : me F' G' a = me F G a := by
  funext i
  simp only [me, msz, e1, e2, g54, g55]
theorem msz_cg {F F' : AF} (e1 : F' 53 1 = F 53 1) (e2 : F' 53 2 = F 53 2) (a : Int) : msz F' a = msz F a := by
  simp only [msz, e1, e2]
theorem mx_cg {F F' : AF} {G G' : AG} (e1 : F' 53 1 = F 53 1) (e2 : F' 53 2 = F 53 2) (g54 : G' 54 = G 54) (g55 : G' 55 = G 55) (h : MX F G) : MX F' G' := by
  intro a a0 a1
  have := h a a0 a1
  rw [me_cg e1 e2 g54 g55, msz_cg e1 e2, g54, g55]
  exact this
theorem isE_iff {F : AF} {G : AG} (hx : MX F G) {a p : Int} (h0 : 0 ≤ a) (h1 : a ≤ 1) : isE F G a p ↔ (isB (me F G a) (G 55 a) p ∨ p = msz F a) := by
  have n1 := (hx a h0 h1).1
  constructor
  · rintro ⟨i, i0, i1, ie⟩
    by_cases w : i = G 55 a
    · rw [w, me_n] at ie
      exact Or.inr ie.symm
    · exact Or.inl ⟨i, i0, by omega, ie⟩
  · rintro (⟨i, i0, i1, ie⟩ | q)
    · exact ⟨i, i0, by omega, ie⟩
    · exact ⟨G 55 a, by omega, by omega, by rw [me_n, q]⟩
def Cmg (F : AF) (G : AG) (q : Int) : Prop := ∃ k : Int, 0 ≤ k ∧ k < F 53 20 ∧ G 67 k = q
def Wn (F F' : AF) (G G' : AG) (a m : Int) (P : Int → Prop) : Prop :=
  (∀ c : Nat, c ≠ 53 → F' c = F c) ∧ (∀ k : Nat, k ≠ 20 → F' 53 k = F 53 k) ∧ (∀ c : Nat, c ≠ 67 → G' c = G c) ∧ 0 ≤ F' 53 20 ∧ F' 53 20 ≤ m ∧
  (∃ e', Sq e' (G 55 a + F' 53 20) (msz F a) ∧ ∀ q : Int, isB e' (G 55 a + F' 53 20) q ↔ (isB (me F G a) (G 55 a) q ∨ (P q ∧ 0 < q ∧ q < msz F a))) ∧
  (∀ q : Int, Cmg F' G' q ↔ (P q ∧ 0 < q ∧ q < msz F a ∧ ¬ isB (me F G a) (G 55 a) q)) ∧
  ∀ k l : Int, 0 ≤ k → k < l → l < F' 53 20 → G' 67 k ≠ G' 67 l
theorem wn_0 {F F1 : AF} {G : AG} (hx : MX F G) {a : Int} (h0 : 0 ≤ a) (h1 : a ≤ 1) (e : F1 = fu F 53 20 0) : Wn F F1 G G a 0 (fun _ => False) := by
  have z : F1 53 20 = 0 := by rw [e]; exact fu_s
  refine ⟨fun c hc => by rw [e]; exact fu_row hc, fun k hk => by rw [e]; exact fu_k hk, fun _ _ => rfl, by omega, by omega, ⟨me F G a, ?_, ?_⟩, ?_, fun k l a b c => absurd c (by omega)⟩
  · rw [z, Int.add_zero]; exact sq_mx hx h0 h1
  · intro q
    rw [z, Int.add_zero]
    exact ⟨Or.inl, fun y => y.elim id (fun y => absurd y.1 id)⟩
  · intro q
    constructor
    · rintro ⟨k, k0, k1, -⟩
      omega
    · rintro ⟨y, -⟩
      exact absurd y id
theorem wn_w {F F' : AF} {G G' : AG} {a m m2 : Int} {P P2 : Int → Prop} (h : Wn F F' G G' a m P) (hm : m ≤ m2) (hp : ∀ q : Int, P q ↔ P2 q) : Wn F F' G G' a m2 P2 := by
  obtain ⟨h1, h2, h3, h4, h5, ⟨e', h6, h7⟩, h8, h9⟩ := h
  exact ⟨h1, h2, h3, h4, by omega, ⟨e', h6, fun q => by rw [h7 q, hp q]⟩, fun q => by rw [h8 q, hp q], h9⟩
theorem ok_wants {d : Nat} {S : AS} {F F1 : AF} {G G1 : AG} (hd : 2 ≤ d) (hsm : ShM S) (hx : MX F G) {a p m : Int} {P : Int → Prop} (h0 : 0 ≤ a) (h1 : a ≤ 1) (h : Wn F F1 G G1 a m P) (hm : m ≤ 63) (hp : 0 ≤ p) (hp2 : p ≤ msz F a) {Q : AQ} (hq : ∀ F' G', Wn F F' G G' a (m + 1) (fun q => P q ∨ q = p) → Q none S F' G') : Ok d MX10_wants [vR 53, vI a, vI p] S F1 G1 Q := by
  obtain ⟨f1, f2, f3, f4, f5, ⟨e', f6, f7⟩, f8, f9⟩ := id h
  have k1 := f2 1 (by decide)
  have k2 := f2 2 (by decide)
  have g54 := f3 54 (by decide)
  have g55 := f3 55 (by decide)
  have hx1 : MX F1 G1 := mx_cg k1 k2 g54 g55 hx
  have em : me F1 G1 a = me F G a := me_cg k1 k2 g54 g55 a
  have es : msz F1 a = msz F a := msz_cg k1 k2 a
  obtain ⟨z, hz1, hz2, hz3⟩ := pu_isEdge (d := d - 1) (by omega) hsm hx1 h0 h1 p
  have hE := isE_iff hx1 (p := p) h0 h1
  rw [em, es, g55] at hE
  have sq := sq_mx hx h0 h1
  -- a place that comes no more
  have no : (isB (me F G a) (G 55 a) p ∨ p = msz F a ∨ P p) → Q none S F1 G1 := by
    intro y
    refine hq F1 G1 ⟨f1, f2, f3, f4, by omega, ⟨e', f6, fun q => ?_⟩, fun q => ?_, f9⟩
    · rw [f7 q]
      constructor
      · rintro (u | ⟨u1, u2⟩)
        · exact Or.inl u
        · exact Or.inr ⟨Or.inl u1, u2⟩
      · rintro (u | ⟨u1 | u1, u2, u3⟩)
        · exact Or.inl u
        · exact Or.inr ⟨u1, u2, u3⟩
        · subst u1
          rcases y with y | y | y
          · exact Or.inl y
          · omega
          · exact Or.inr ⟨y, u2, u3⟩
    · rw [f8 q]
      constructor
      · rintro ⟨u1, u2⟩
        exact ⟨Or.inl u1, u2⟩
      · rintro ⟨u1 | u1, u2, u3, u4⟩
        · exact ⟨u1, u2, u3, u4⟩
        · subst u1
          rcases y with y | y | y
          · exact absurd y u4
          · omega
          · exact ⟨y, u2, u3, u4⟩
  refine ok_go rfl (by decide) (Nat.le_of_ble_eq_true rfl) (R_X10_wants_0 hsm ?_)
  unfold V_X10_wants_0
  refine ⟨by omega, z, hz3, fun zz => ?_, fun zz => no ?_⟩
  · have ne : ¬ isE F1 G1 a p := fun y => by have := hz2.mpr y; omega
    have nb : ¬ isB (me F G a) (G 55 a) p := fun y => ne (hE.mpr (Or.inl y))
    have nw' : p ≠ msz F a := fun y => ne (hE.mpr (Or.inr y))
    have p0 : p ≠ 0 := fun y => nb (y ▸ isB_0 sq)
    refine up_ind (α := Unit) (F1 53 20 - 1) (fun k _ => 0 ≤ k ∧ k ≤ F1 53 20 ∧ ∀ l : Int, 0 ≤ l → l < k → G1 67 l ≠ p) (fun k _ => Go d MX10_wants 12 [some (vR 53), some (vI a), some (vI p), some (vI k)] [] S F1 G1 Q) ?_ ?_ 0 () ⟨by omega, f4, fun l a b => absurd b (by omega)⟩
    · intro k _ hI hk ih
      obtain ⟨i0, i1, i2⟩ := hI
      refine R_X10_wants_12 hsm ?_
      unfold V_X10_wants_12
      refine ⟨fun y => absurd y (by omega), fun _ => ⟨i0, by omega, fun y => ⟨by omega, ih () ⟨by omega, by omega, fun l l0 l1 => ?_⟩⟩, fun y => no ?_⟩⟩
      · by_cases w : l = k
        · rw [w]; exact y
        · exact i2 l l0 (by omega)
      · exact Or.inr (Or.inr ((f8 p).mp ⟨k, i0, by omega, y⟩).1)
    · intro k _ hI hk
      obtain ⟨i0, i1, i2⟩ := hI
      have nP : ¬ P p := fun y => by
        obtain ⟨l, l0, l1, le⟩ := (f8 p).mpr ⟨y, by omega, by omega, nb⟩
        exact i2 l l0 (by omega) le
      have nb' : ¬ isB e' (G 55 a + F1 53 20) p := fun y => by
        rcases (f7 p).mp y with u | u
        · exact nb u
        · exact nP u.1
      obtain ⟨e2, z2, hi⟩ := ins_ex f6 (p := p) (by omega) (by omega) nb'
      obtain ⟨hs, hb⟩ := ins_sq f6 hi
      refine R_X10_wants_12 hsm ?_
      unfold V_X10_wants_12
      refine ⟨fun _ => ⟨f4, by omega, fun G3 e3 => ⟨by omega, fun F5 e5 => ?_⟩⟩, fun y => absurd y (by omega)⟩
      have c5 : F5 53 20 = F1 53 20 + 1 := by rw [e5]; exact fu_s
      have en : G 55 a + F5 53 20 = G 55 a + F1 53 20 + 1 := by omega
      refine hq F5 G3 ⟨fun c hc => by rw [e5, fu_row hc]; exact f1 c hc, fun k hk => by rw [e5, fu_k hk]; exact f2 k hk, fun c hc => by rw [e3, gu_row hc]; exact f3 c hc, by omega, by omega, ⟨e2, by rw [en]; exact hs, fun q => ?_⟩, fun q => ?_, fun k l k0 kl ll => ?_⟩
      · rw [en, hb q, f7 q]
        constructor
        · rintro ((u | ⟨u1, u2⟩) | u)
          · exact Or.inl u
          · exact Or.inr ⟨Or.inl u1, u2⟩
          · exact Or.inr ⟨Or.inr u, by omega, by omega⟩
        · rintro (u | ⟨u1 | u1, u2⟩)
          · exact Or.inl (Or.inl u)
          · exact Or.inl (Or.inr ⟨u1, u2⟩)
          · exact Or.inr u1
      · constructor
        · rintro ⟨l, l0, l1, le⟩
          by_cases w : l = F1 53 20
          · rw [e3, w, gu_s] at le
            subst le
            exact ⟨Or.inr rfl, by omega, by omega, nb⟩
          · rw [e3, gu_i w] at le
            have := (f8 q).mp ⟨l, l0, by omega, le⟩
            exact ⟨Or.inl this.1, this.2⟩
        · rintro ⟨u1 | u1, u2⟩
          · obtain ⟨l, l0, l1, le⟩ := (f8 q).mpr ⟨u1, u2⟩
            exact ⟨l, l0, by omega, by rw [e3, gu_i (by omega)]; exact le⟩
          · exact ⟨F1 53 20, f4, by omega, by rw [e3, gu_s, u1]⟩
      · by_cases w : l = F1 53 20
        · rw [e3, w, gu_s, gu_i (by omega)]
          exact i2 k k0 (by omega)
        · rw [e3, gu_i (by omega), gu_i (by omega)]
          exact f9 k l k0 kl (by omega)
  · have hz : isE F1 G1 a p := hz2.mp (by omega)
    rcases hE.mp hz with u | u
    · exact Or.inl u
    · exact Or.inr (Or.inl u)
theorem ok_wantsAll {d : Nat} {S : AS} {F : AF} {G : AG} (hd : 3 ≤ d) (hsm : ShM S) (hx : MX F G) {a lo hi c : Int} (h0 : 0 ≤ a) (h1 : a ≤ 1) (hl : 0 ≤ lo) (hlh : lo ≤ hi) (hh : hi < msz F a) (hc : c < msz F a) {Q : AQ} (hq : ∀ F' G', Wn F F' G G' a 4 (fun q => (q = lo ∨ q = hi + 1) ∨ (0 ≤ c ∧ (q = c ∨ q = c + 1))) → Q none S F' G') : Ok d MX10_wantsAll [vR 53, vI a, vI lo, vI hi, vI c] S F G Q := by
  have b := (hx a h0 h1).2.2.2.1
  refine ok_go rfl (by decide) (Nat.le_of_ble_eq_true rfl) (R_X10_wantsAll_0 hsm ?_)
  unfold V_X10_wantsAll_0
  intro F1 e1
  refine ⟨by omega, ok_wants (by omega) hsm hx h0 h1 (wn_0 hx h0 h1 e1) (by omega) hl (by omega) (fun F2 G2 w2 => ⟨rfl, rfl, by omega, ok_wants (by omega) hsm hx h0 h1 w2 (by omega) (by omega) (by omega) (fun F3 G3 w3 => ⟨rfl, rfl, fun y => ?_, fun y => ?_⟩)⟩)⟩
  · refine hq F3 G3 (wn_w w3 (by omega) (fun q => ⟨?_, ?_⟩))
    · rintro ((u | u) | u)
      · exact absurd u id
      · exact Or.inl (Or.inl u)
      · exact Or.inl (Or.inr u)
    · rintro ((u | u) | ⟨u, -⟩)
      · exact Or.inl (Or.inr u)
      · exact Or.inr u
      · omega
  · refine ok_wants (by omega) hsm hx h0 h1 w3 (by omega) (by omega) (by omega) (fun F4 G4 w4 => ⟨rfl, rfl, by omega, ok_wants (by omega) hsm hx h0 h1 w4 (by omega) (by omega) (by omega) (fun F5 G5 w5 => ⟨rfl, rfl, ?_⟩)⟩)
    refine hq F5 G5 (wn_w w5 (by omega) (fun q => ⟨?_, ?_⟩))
    · rintro ((((u | u) | u) | u) | u)
      · exact absurd u id
      · exact Or.inl (Or.inl u)
      · exact Or.inl (Or.inr u)
      · exact Or.inr ⟨by omega, Or.inl u⟩
      · exact Or.inr ⟨by omega, Or.inr u⟩
    · rintro ((u | u) | ⟨-, u | u⟩)
      · exact Or.inl (Or.inl (Or.inl (Or.inr u)))
      · exact Or.inl (Or.inl (Or.inr u))
      · exact Or.inl (Or.inr u)
      · exact Or.inr u
theorem wn_room {F F' : AF} {G G' : AG} (hx : MX F G) {a m : Int} {P : Int → Prop} (h : Wn F F' G G' a m P) {d : Nat} {S : AS} (hsm : ShM S) (h0 : 0 ≤ a) (h1 : a ≤ 1) (hm : m ≤ 1000) : Pu d MX10_isRoom [vR 53, vI a] S F' G' (some (vI (bI (G 55 a + F' 53 20 ≤ 48)))) := by
  obtain ⟨f1, f2, f3, f4, f5, -⟩ := h
  have := pu_isRoom (d := d) (S := S) (F := F') (G := G') hsm (mx_cg (f2 1 (by decide)) (f2 2 (by decide)) (f3 54 (by decide)) (f3 55 (by decide)) hx) h0 h1 f4 (by omega)
  rw [f3 55 (by decide)] at this
  exact this
theorem ok_hasRoom {d : Nat} {S : AS} {F : AF} {G : AG} (hd : 4 ≤ d) (hsm : ShM S) (hx : MX F G) {a lo hi c : Int} (h0 : 0 ≤ a) (h1 : a ≤ 1) (hl : 0 ≤ lo) (hlh : lo ≤ hi) (hh : hi < msz F a) (hc : c < msz F a) {Q : AQ} (hq : ∀ F' G', Wn F F' G G' a 4 (fun q => (q = lo ∨ q = hi + 1) ∨ (0 ≤ c ∧ (q = c ∨ q = c + 1))) → Q (some (vI (bI (G 55 a + F' 53 20 ≤ 48)))) S F' G') : Ok d MX10_hasRoom [vR 53, vI a, vI lo, vI hi, vI c] S F G Q := by
  refine ok_go rfl (by decide) (Nat.le_of_ble_eq_true rfl) (R_X10_hasRoom_0 hsm ?_)
  unfold V_X10_hasRoom_0
  exact ⟨by omega, ok_wantsAll (by omega) hsm hx h0 h1 hl hlh hh hc (fun F' G' w => ⟨rfl, rfl, _, wn_room hx w hsm h0 h1 (by omega), bI_r, hq F' G' w⟩)⟩
