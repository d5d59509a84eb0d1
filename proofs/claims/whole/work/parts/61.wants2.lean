/-! WANTING, of a move; the borders that would be there -/
theorem me_lo {F : AF} {G : AG} {a i : Int} (h : i < G 55 a) : me F G a i = G 54 (48 * a + i) := if_neg (by omega)
theorem ok_wantsMoved {d : Nat} {S : AS} {F : AF} {G : AG} (hd : 4 ≤ d) (hsm : ShM S) (hx : MX F G) {a lo hi b : Int} (h0 : 0 ≤ a) (h1 : a ≤ 1) (hl : 0 ≤ lo) (hlh : lo ≤ hi) (hh : hi < msz F a) (hb : 0 ≤ lo + b) (hb2 : hi + b < msz F a) {Q : AQ} (hq : ∀ F' G', Wn F F' G G' a 54 (fun q => ((q = lo ∨ q = hi + 1) ∨ (q = lo + b ∨ q = hi + b + 1)) ∨ ∃ c : Int, isB (me F G a) (G 55 a) c ∧ lo < c ∧ c ≤ hi ∧ q = c + b) → Q none S F' G') : Ok d MX10_wantsMoved [vR 53, vI a, vI lo, vI hi, vI b] S F G Q := by
  obtain ⟨x1, x2, x3, x4, -⟩ := hx a h0 h1
  refine ok_go rfl (by decide) (Nat.le_of_ble_eq_true rfl) (R_X10_wantsMoved_0 hsm ?_)
  unfold V_X10_wantsMoved_0
  refine ⟨by omega, ok_wantsAll (by omega) hsm hx h0 h1 hl hlh hh (by omega) (fun F2 G2 w2 => ⟨rfl, rfl, by omega, ok_wants (by omega) hsm hx h0 h1 w2 (by omega) hb (by omega) (fun F3 G3 w3 => ⟨rfl, rfl, by omega, by omega, ok_wants (by omega) hsm hx h0 h1 w3 (by omega) (by omega) (by omega) (fun F4 G4 w4 => ⟨rfl, rfl, ?_⟩)⟩)⟩)⟩
  have w5 : Wn F F4 G G4 a (6 + 0) (fun q => ((q = lo ∨ q = hi + 1) ∨ (q = lo + b ∨ q = hi + b + 1)) ∨ ∃ i : Int, 0 ≤ i ∧ i < 0 ∧ lo < me F G a i ∧ me F G a i ≤ hi ∧ q = me F G a i + b) := by
    refine wn_w w4 (by omega) (fun q => ⟨?_, ?_⟩)
    · rintro (((u | ⟨u, -⟩) | u) | u)
      · exact Or.inl (Or.inl u)
      · omega
      · exact Or.inl (Or.inr (Or.inl u))
      · exact Or.inl (Or.inr (Or.inr (by omega)))
    · rintro ((u | u | u) | ⟨i, i0, i1, -⟩)
      · exact Or.inl (Or.inl (Or.inl u))
      · exact Or.inl (Or.inr u)
      · exact Or.inr (by omega)
      · omega
  clear w2 w3 w4
  refine up_ind (α := AF × AG) (G 55 a - 1) (fun i A => 0 ≤ i ∧ i ≤ G 55 a ∧ Wn F A.1 G A.2 a (6 + i) (fun q => ((q = lo ∨ q = hi + 1) ∨ (q = lo + b ∨ q = hi + b + 1)) ∨ ∃ l : Int, 0 ≤ l ∧ l < i ∧ lo < me F G a l ∧ me F G a l ≤ hi ∧ q = me F G a l + b)) (fun i A => Go d MX10_wantsMoved 31 [some (vR 53), some (vI a), some (vI lo), some (vI hi), some (vI b), some (vI i), none] [] S A.1 A.2 Q) ?_ ?_ 0 (F4, G4) ⟨by omega, by omega, w5⟩
  · rintro i ⟨F5, G5⟩ ⟨i0, i1, w⟩ hi' ih
    have g54 : G5 54 = G 54 := w.2.2.1 54 (by decide)
    have g55 : G5 55 = G 55 := w.2.2.1 55 (by decide)
    have ee := me_lo (F := F) (G := G) (a := a) (i := i) (by omega)
    have mi := me_in hx h0 h1 (i := i) i0 (by omega)
    have next : ∀ (F6 : AF) (G6 : AG) (x : Int), Wn F F6 G G6 a (6 + i + 1) (fun q => ((q = lo ∨ q = hi + 1) ∨ (q = lo + b ∨ q = hi + b + 1)) ∨ ∃ l : Int, 0 ≤ l ∧ l < i + 1 ∧ lo < me F G a l ∧ me F G a l ≤ hi ∧ q = me F G a l + b) → V_X10_wantsMoved_78 d S F6 G6 Q a lo hi b i x := by
      intro F6 G6 x w6
      unfold V_X10_wantsMoved_78
      exact ⟨by omega, ih (F6, G6) ⟨by omega, by omega, wn_w w6 (by omega) (fun q => Iff.rfl)⟩⟩
    have skip' : ¬ (lo < me F G a i ∧ me F G a i ≤ hi) → ∀ x, V_X10_wantsMoved_78 d S F5 G5 Q a lo hi b i x := by
      intro y x
      refine next F5 G5 x (wn_w w (by omega) (fun q => ⟨?_, ?_⟩))
      · rintro (u | ⟨l, l0, l1, l2⟩)
        · exact Or.inl u
        · exact Or.inr ⟨l, l0, by omega, l2⟩
      · rintro (u | ⟨l, l0, l1, l2, l3, l4⟩)
        · exact Or.inl u
        · by_cases e : l = i
          · subst e
            exact absurd ⟨l2, l3⟩ y
          · exact Or.inr ⟨l, l0, by omega, l2, l3, l4⟩
    refine R_X10_wantsMoved_31 hsm ?_
    unfold V_X10_wantsMoved_31
    show _ ∧ _
    simp only [g54, g55]
    refine ⟨h0, by omega, fun y => absurd y (by omega), fun _ => ⟨by omega, by omega, by omega, by omega, fun x7 e7 => ?_⟩⟩
    rw [← ee] at e7
    refine ⟨fun y => skip' (by omega) x7, fun y => ⟨fun y2 => skip' (by omega) x7, fun y2 => ⟨by omega, by omega, ?_⟩⟩⟩
    refine ok_wants (by omega) hsm hx h0 h1 w (by omega) (by omega) (by omega) (fun F6 G6 w6 => ⟨rfl, rfl, next F6 G6 x7 (wn_w w6 (by omega) (fun q => ⟨?_, ?_⟩))⟩)
    · rintro ((u | ⟨l, l0, l1, l2⟩) | u)
      · exact Or.inl u
      · exact Or.inr ⟨l, l0, by omega, l2⟩
      · exact Or.inr ⟨i, i0, by omega, by omega, by omega, by omega⟩
    · rintro (u | ⟨l, l0, l1, l2, l3, l4⟩)
      · exact Or.inl (Or.inl u)
      · by_cases e : l = i
        · subst e
          exact Or.inr (by omega)
        · exact Or.inl (Or.inr ⟨l, l0, by omega, l2, l3, l4⟩)
  · rintro i ⟨F5, G5⟩ ⟨i0, i1, w⟩ hi'
    have g54 : G5 54 = G 54 := w.2.2.1 54 (by decide)
    have g55 : G5 55 = G 55 := w.2.2.1 55 (by decide)
    refine R_X10_wantsMoved_31 hsm ?_
    unfold V_X10_wantsMoved_31
    show _ ∧ _
    simp only [g54, g55]
    refine ⟨h0, by omega, fun _ => hq F5 G5 (wn_w w (by omega) (fun q => ⟨?_, ?_⟩)), fun y => absurd y (by omega)⟩
    · rintro (u | ⟨l, l0, l1, l2, l3, l4⟩)
      · exact Or.inl u
      · exact Or.inr ⟨_, ⟨l, l0, by omega, rfl⟩, l2, l3, l4⟩
    · rintro (u | ⟨c, ⟨l, l0, l1, le⟩, c1, c2, c3⟩)
      · exact Or.inl u
      · exact Or.inr ⟨l, l0, by omega, by omega, by omega, by omega⟩
/-- a row of borders in an array, its end beside it -/
def rw' (e : Int → Int) (n w : Int) : Int → Int := fun i => if i = n then w else e i
theorem rw_lo {e : Int → Int} {n w i : Int} (h : i < n) : rw' e n w i = e i := if_neg (by omega)
theorem rw_n {e : Int → Int} {n w : Int} : rw' e n w n = w := if_pos rfl
def Thn (G G' : AG) (a N : Int) (P : Int → Prop) : Prop := (∀ c : Nat, c ≠ 68 → c ≠ 69 → G' c = G c) ∧ G' 69 a = N ∧ (∀ b : Int, b ≠ a → G' 69 b = G 69 b) ∧ (∀ i : Int, (i < 48 * a ∨ 48 * a + 48 ≤ i) → G' 68 i = G 68 i) ∧ ∀ q : Int, isB (fun i => G' 68 (48 * a + i)) N q ↔ P q
theorem ok_laysThen {d : Nat} {S : AS} {F F1 : AF} {G G1 : AG} (hsm : ShM S) (hx : MX F G) {a m : Int} {P : Int → Prop} (h0 : 0 ≤ a) (h1 : a ≤ 1) (h : Wn F F1 G G1 a m P) (hm : m ≤ 63) (hr : G 55 a + F1 53 20 ≤ 48) {Q : AQ} (hq : ∀ G', Thn G1 G' a (G 55 a + F1 53 20) (fun q => isB (me F G a) (G 55 a) q ∨ (P q ∧ 0 < q ∧ q < msz F a)) → Q none S F1 G') : Ok d MX10_laysThen [vR 53, vI a] S F1 G1 Q := by
  obtain ⟨f1, f2, f3, f4, f5, f6, f8, f9⟩ := id h
  have g54 := f3 54 (by decide)
  have g55 := f3 55 (by decide)
  have sq := sq_mx hx h0 h1
  obtain ⟨x1, x2, x3, x4, -⟩ := hx a h0 h1
  refine ok_go rfl (by decide) (Nat.le_of_ble_eq_true rfl) (R_X10_laysThen_0 hsm ?_)
  unfold V_X10_laysThen_0
  rw [g55]
  refine ⟨h0, by omega, fun n en => ?_⟩
  subst en
  refine up_ind (α := AG) (G 55 a - 1) (fun i G2 => 0 ≤ i ∧ i ≤ G 55 a ∧ (∀ c : Nat, c ≠ 68 → G2 c = G1 c) ∧ (∀ l : Int, (l < 48 * a ∨ 48 * a + 48 ≤ l) → G2 68 l = G1 68 l) ∧ ∀ l : Int, 0 ≤ l → l < i → G2 68 (48 * a + l) = me F G a l) (fun i G2 => Go d MX10_laysThen 9 [some (vR 53), some (vI a), some (vI (G 55 a)), some (vI i), none] [] S F1 G2 Q) ?_ ?_ 0 G1 ⟨by omega, by omega, fun _ _ => rfl, fun _ _ => rfl, fun l a b => absurd b (by omega)⟩
  · rintro i G2 ⟨i0, i1, c1, c2, c3⟩ hi ih
    refine R_X10_laysThen_9 hsm ?_
    unfold V_X10_laysThen_9
    refine ⟨fun y => absurd y (by omega), fun _ => ⟨by omega, by omega, by omega, by omega, fun G5 e5 => ⟨by omega, ih G5 ⟨by omega, by omega, fun c hc => by rw [e5, gu_row hc]; exact c1 c hc, fun l hl => ?_, fun l l0 l1 => ?_⟩⟩⟩⟩
    · rw [e5, gu_i (by omega)]; exact c2 l hl
    · by_cases e : l = i
      · rw [e5, e, gu_s, c1 54 (by decide), g54, me_lo (by omega)]
      · rw [e5, gu_i (by omega)]; exact c3 l l0 (by omega)
  · rintro i G2 ⟨i0, i1, c1, c2, c3⟩ hi
    have ei : i = G 55 a := by omega
    subst ei
    refine R_X10_laysThen_9 hsm ?_
    unfold V_X10_laysThen_9
    refine ⟨fun _ => ?_, fun y => absurd y (by omega)⟩
    have bs : Sq (rw' (fun l => G2 68 (48 * a + l)) (G 55 a + 0) (msz F a)) (G 55 a + 0) (msz F a) ∧ ∀ q : Int, isB (rw' (fun l => G2 68 (48 * a + l)) (G 55 a + 0) (msz F a)) (G 55 a + 0) q ↔ (isB (me F G a) (G 55 a) q ∨ ∃ l : Int, 0 ≤ l ∧ l < 0 ∧ G1 67 l = q) := by
      rw [Int.add_zero]
      have ee : ∀ l : Int, 0 ≤ l → l ≤ G 55 a → rw' (fun l => G2 68 (48 * a + l)) (G 55 a) (msz F a) l = me F G a l := by
        intro l l0 l1
        by_cases e : l = G 55 a
        · rw [e, rw_n, me_n]
        · rw [rw_lo (by omega)]; exact c3 l l0 (by omega)
      refine ⟨⟨sq.1, ?_, rw_n, fun l l0 l1 => ?_⟩, fun q => ⟨?_, ?_⟩⟩
      · rw [ee 0 (by omega) (by omega)]; exact sq.2.1
      · rw [ee l l0 (by omega), ee (l + 1) (by omega) (by omega)]; exact sq.2.2.2 l l0 l1
      · rintro ⟨l, l0, l1, le⟩
        exact Or.inl ⟨l, l0, l1, by rw [← ee l l0 (by omega)]; exact le⟩
      · rintro (⟨l, l0, l1, le⟩ | ⟨l, l0, l1, -⟩)
        · exact ⟨l, l0, l1, by rw [ee l l0 (by omega)]; exact le⟩
        · omega
    have e00 : vI (G 55 a) = vI (G 55 a + 0) := by rw [Int.add_zero]
    rw [e00]
    refine up_ind (α := AG) (F1 53 20 - 1) (fun k G3 => 0 ≤ k ∧ k ≤ F1 53 20 ∧ (∀ c : Nat, c ≠ 68 → G3 c = G1 c) ∧ (∀ l : Int, (l < 48 * a ∨ 48 * a + 48 ≤ l) → G3 68 l = G1 68 l) ∧ Sq (rw' (fun l => G3 68 (48 * a + l)) (G 55 a + k) (msz F a)) (G 55 a + k) (msz F a) ∧ ∀ q : Int, isB (rw' (fun l => G3 68 (48 * a + l)) (G 55 a + k) (msz F a)) (G 55 a + k) q ↔ (isB (me F G a) (G 55 a) q ∨ ∃ l : Int, 0 ≤ l ∧ l < k ∧ G1 67 l = q)) (fun k G3 => Go d MX10_laysThen 44 [some (vR 53), some (vI a), some (vI (G 55 a + k)), some (vI k), none] [] S F1 G3 Q) ?_ ?_ 0 G2 ⟨by omega, by omega, c1, c2, bs.1, bs.2⟩
    · rintro k G3 ⟨k0, k1, u1, u2, u3, u4⟩ hk ih
      clear bs c1 c2 c3
      refine R_X10_laysThen_44 hsm ?_
      unfold V_X10_laysThen_44
      refine ⟨fun y => absurd y (by omega), fun _ => ?_⟩
      have p67 : G3 67 = G1 67 := u1 67 (by decide)
      have hp := (f8 (G1 67 k)).mp ⟨k, k0, by omega, rfl⟩
      generalize hP : G1 67 k = p at *
      have npr : ¬ isB (rw' (fun l => G3 68 (48 * a + l)) (G 55 a + k) (msz F a)) (G 55 a + k) p := by
        intro y
        rcases (u4 p).mp y with v | ⟨l, l0, l1, le⟩
        · exact hp.2.2.2 v
        · exact f9 l k l0 l1 (by omega) (by rw [le, hP])
      obtain ⟨-, pp0, pp1, -⟩ := hp
      generalize hN : G 55 a + k = N at *
      refine down_ind (α := AG) 1 (fun i G4 => 1 ≤ i ∧ i ≤ N ∧ (∀ c : Nat, c ≠ 68 → G4 c = G1 c) ∧ (∀ l : Int, (l < 48 * a ∨ 48 * a + 48 ≤ l) → G4 68 l = G1 68 l) ∧ (∀ l : Int, 0 ≤ l → l < i → G4 68 (48 * a + l) = G3 68 (48 * a + l)) ∧ (∀ l : Int, i < l → l ≤ N → G4 68 (48 * a + l) = G3 68 (48 * a + l - 1)) ∧ ∀ l : Int, i ≤ l → l < N → p < G3 68 (48 * a + l)) (fun i G4 => Go d MX10_laysThen 55 [some (vR 53), some (vI a), some (vI N), some (vI k), some (vI i)] [] S F1 G4 Q) ?_ ?_ N G3 ⟨by omega, by omega, u1, u2, fun _ _ _ => rfl, fun l l0 l1 => absurd l1 (by omega), fun l l0 l1 => absurd l1 (by omega)⟩
      · rintro i G4 ⟨i0, i1, v1, v2, v3, v4, v5⟩ - ih2
        have q67 : G4 67 = G1 67 := v1 67 (by decide)
        have v3' := v3 (i - 1) (by omega) (by omega)
        have ei : 48 * a + i - 1 = 48 * a + (i - 1) := by omega
        refine R_X10_laysThen_55 hsm ?_
        unfold V_X10_laysThen_55
        rw [q67, hP, ei, v3']
        refine ⟨by omega, by omega, by omega, by omega, by omega, k0, by omega, fun y => ⟨by omega, by omega, fun G10 e10 => ⟨by omega, by omega, ?_⟩⟩, fun y => ⟨by omega, by omega, fun G15 e15 => ⟨by omega, ?_⟩⟩⟩
        · have eN : N + 1 = G 55 a + (k + 1) := by omega
          have hI : Ins (rw' (fun l => G3 68 (48 * a + l)) N (msz F a)) (rw' (fun l => G10 68 (48 * a + l)) (N + 1) (msz F a)) N p (i - 1) := by
            have nn : rw' (fun l => G3 68 (48 * a + l)) N (msz F a) (i - 1) ≠ p := fun z => npr ⟨i - 1, by omega, by omega, z⟩
            rw [rw_lo (by omega)] at nn
            refine ⟨by omega, by omega, ?_, ?_, fun l l0 l1 => ?_, ?_, fun l l0 l1 => ?_⟩
            · rw [rw_lo (by omega)]
              show G3 68 (48 * a + (i - 1)) < p
              have : G3 68 (48 * a + (i - 1)) ≠ p := nn
              omega
            · by_cases e : i - 1 + 1 = N
              · rw [e, rw_n]; exact pp1
              · rw [rw_lo (by omega)]
                exact v5 _ (by omega) (by omega)
            · rw [rw_lo (by omega), rw_lo (by omega)]
              show G10 68 (48 * a + l) = G3 68 (48 * a + l)
              rw [e10, gu_i (by omega)]; exact v3 l l0 (by omega)
            · rw [rw_lo (by omega)]
              show G10 68 (48 * a + (i - 1 + 1)) = p
              have : 48 * a + (i - 1 + 1) = 48 * a + i := by omega
              rw [this, e10, gu_s]
            · by_cases e : l = N + 1
              · rw [e, rw_n]
                have : N + 1 - 1 = N := by omega
                rw [this, rw_n]
              · rw [rw_lo (by omega), rw_lo (by omega)]
                show G10 68 (48 * a + l) = G3 68 (48 * a + (l - 1))
                have e2 : 48 * a + (l - 1) = 48 * a + l - 1 := by omega
                rw [e10, gu_i (by omega), e2]; exact v4 l (by omega) (by omega)
          obtain ⟨w1, w2⟩ := ins_sq u3 hI
          have := ih G10 ⟨by omega, by omega, fun c hc => by rw [e10, gu_row hc]; exact v1 c hc, fun l hl => by rw [e10, gu_i (by omega)]; exact v2 l hl, by rw [← eN]; exact w1, fun q => ?_⟩
          · rw [eN]; exact this
          · rw [← eN, w2 q, u4 q]
            constructor
            · rintro ((z | ⟨l, l0, l1, le⟩) | z)
              · exact Or.inl z
              · exact Or.inr ⟨l, l0, by omega, le⟩
              · exact Or.inr ⟨k, k0, by omega, by rw [hP, z]⟩
            · rintro (z | ⟨l, l0, l1, le⟩)
              · exact Or.inl (Or.inl z)
              · by_cases e : l = k
                · rw [e, hP] at le
                  exact Or.inr le.symm
                · exact Or.inl (Or.inr ⟨l, l0, by omega, le⟩)
        · have i2 : i ≠ 1 := by
            intro z
            have := u3.2.1
            rw [rw_lo (by omega)] at this
            have e0 : i - 1 = 0 := by omega
            rw [e0] at y
            have : G3 68 (48 * a + 0) = 0 := this
            omega
          refine ih2 G15 ⟨by omega, by omega, fun c hc => by rw [e15, gu_row hc]; exact v1 c hc, fun l hl => by rw [e15, gu_i (by omega)]; exact v2 l hl, fun l l0 l1 => ?_, fun l l0 l1 => ?_, fun l l0 l1 => ?_⟩
          · rw [e15, gu_i (by omega)]; exact v3 l l0 (by omega)
          · by_cases e : l = i
            · rw [e15, e, gu_s]
              have e2 : 48 * a + i - 1 = 48 * a + (i - 1) := by omega
              rw [e2]
            · rw [e15, gu_i (by omega)]; exact v4 l (by omega) (by omega)
          · by_cases e : l = i - 1
            · rw [e]; omega
            · exact v5 l (by omega) l1
      · rintro i G4 ⟨i0, -⟩ hi2
        exact absurd i0 hi2
    · rintro k G3 ⟨k0, k1, u1, u2, u3, u4⟩ hk
      have ek : k = F1 53 20 := by omega
      subst ek
      refine R_X10_laysThen_44 hsm ?_
      unfold V_X10_laysThen_44
      refine ⟨fun _ => ⟨h0, by omega, fun G4 e4 => hq G4 ⟨fun c c68 c69 => by rw [e4, gu_row c69]; exact u1 c c68, by rw [e4, gu_s], fun b hb => by rw [e4, gu_i hb, u1 69 (by decide)], fun i hi' => by rw [e4, gu_c (by decide)]; exact u2 i hi', fun q => ?_⟩⟩, fun y => absurd y (by omega)⟩
      have e68 : G4 68 = G3 68 := by rw [e4, gu_row (by decide)]
      have s1 : isB (fun i => G4 68 (48 * a + i)) (G 55 a + F1 53 20) q ↔ isB (rw' (fun l => G3 68 (48 * a + l)) (G 55 a + F1 53 20) (msz F a)) (G 55 a + F1 53 20) q := by
        constructor
        · rintro ⟨l, l0, l1, le⟩
          exact ⟨l, l0, l1, by rw [rw_lo l1, ← e68]; exact le⟩
        · rintro ⟨l, l0, l1, le⟩
          rw [rw_lo l1, ← e68] at le
          exact ⟨l, l0, l1, le⟩
      rw [s1, u4 q]
      constructor
      · rintro (z | ⟨l, l0, l1, le⟩)
        · exact Or.inl z
        · have := (f8 q).mp ⟨l, l0, l1, le⟩
          exact Or.inr ⟨this.1, this.2.1, this.2.2.1⟩
      · rintro (z | ⟨z1, z2, z3⟩)
        · exact Or.inl z
        · by_cases nb : isB (me F G a) (G 55 a) q
          · exact Or.inl nb
          · obtain ⟨l, l0, l1, le⟩ := (f8 q).mpr ⟨z1, z2, z3, nb⟩
            exact Or.inr ⟨l, l0, l1, le⟩
theorem ok_keepsAcross {d : Nat} {S : AS} {F : AF} {G : AG} (hsm : ShM S) (hm0 : 0 ≤ F 53 20) (hm : F 53 20 ≤ 64) {Q : AQ} (hq : ∀ G', (∀ c : Nat, c ≠ 71 → G' c = G c) → (∀ k : Int, 0 ≤ k → k < F 53 20 → G' 71 k = G 67 k) → Q none S (fu F 53 32 (F 53 20)) G') : Ok d MX10_keepsAcross [vR 53] S F G Q := by
  refine ok_go rfl (by decide) (Nat.le_of_ble_eq_true rfl) (R_X10_keepsAcross_0 hsm ?_)
  unfold V_X10_keepsAcross_0
  intro F1 e1
  have n1 : F1 53 20 = F 53 20 := by rw [e1, fu_k (by decide)]
  refine up_ind (α := AG) (F 53 20 - 1) (fun i G2 => 0 ≤ i ∧ i ≤ F 53 20 ∧ (∀ c : Nat, c ≠ 71 → G2 c = G c) ∧ ∀ k : Int, 0 ≤ k → k < i → G2 71 k = G 67 k) (fun i G2 => Go d MX10_keepsAcross 10 [some (vR 53), some (vI i)] [] S F1 G2 Q) ?_ ?_ 0 G ⟨by omega, hm0, fun _ _ => rfl, fun k a b => absurd b (by omega)⟩
  · rintro i G2 ⟨i0, i1, c1, c2⟩ hi ih
    refine R_X10_keepsAcross_10 hsm ?_
    unfold V_X10_keepsAcross_10
    refine ⟨fun y => absurd y (by omega), fun _ => ⟨i0, by omega, fun G3 e3 => ⟨by omega, ih G3 ⟨by omega, by omega, fun c hc => by rw [e3, gu_row hc]; exact c1 c hc, fun k k0 k1 => ?_⟩⟩⟩⟩
    by_cases e : k = i
    · rw [e3, e, gu_s, c1 67 (by decide)]
    · rw [e3, gu_i e]; exact c2 k k0 (by omega)
  · rintro i G2 ⟨i0, i1, c1, c2⟩ hi
    refine R_X10_keepsAcross_10 hsm ?_
    unfold V_X10_keepsAcross_10
    exact ⟨fun _ => by have := hq G2 c1 (fun k k0 k1 => c2 k k0 (by omega)); rw [← e1] at this; exact this, fun y => absurd y (by omega)⟩
