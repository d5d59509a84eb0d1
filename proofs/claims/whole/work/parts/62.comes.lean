/-! A BORDER COMES -/
/-- the place of a block in its row of blocks: k along the axis, o across it -/
def sl (a g k o : Int) : Int := if a = 0 then 2304 * g + 48 * o + k else 2304 * g + 48 * k + o
theorem sl_in {a g k o : Int} (g0 : 0 ≤ g) (g1 : g ≤ 2) (k0 : 0 ≤ k) (k1 : k < 48) (o0 : 0 ≤ o) (o1 : o < 48) : 0 ≤ sl a g k o ∧ sl a g k o < 6912 := by
  unfold sl
  by_cases h : a = 0
  · rw [if_pos h]; omega
  · rw [if_neg h]; omega
theorem sl_inj {a g k o g' k' o' : Int} (k0 : 0 ≤ k) (k1 : k < 48) (o0 : 0 ≤ o) (o1 : o < 48) (k0' : 0 ≤ k') (k1' : k' < 48) (o0' : 0 ≤ o') (o1' : o' < 48) (h : sl a g k o = sl a g' k' o') : g = g' ∧ k = k' ∧ o = o' := by
  unfold sl at h
  by_cases h2 : a = 0
  · rw [if_pos h2, if_pos h2] at h; omega
  · rw [if_neg h2, if_neg h2] at h; omega
def Prt (G G' : AG) (p : Nat) (fr a : Int) (P : Int → Int → Int → Prop) : Prop := (∀ c : Nat, c ≠ p → G' c = G c) ∧ (∀ g k o : Int, 0 ≤ g → g ≤ 2 → 0 ≤ k → k < 48 → 0 ≤ o → o < 48 → (P g k o → G' p (fr + sl a g k o) = G p (fr + sl a g (k - 1) o)) ∧ (¬ P g k o → G' p (fr + sl a g k o) = G p (fr + sl a g k o))) ∧ ∀ i : Int, (i < fr ∨ fr + 6912 ≤ i) → G' p i = G p i
theorem prt_c {G G' : AG} {p : Nat} {fr a : Int} {P P2 : Int → Int → Int → Prop} (h : Prt G G' p fr a P) (hp : ∀ g k o : Int, 0 ≤ g → g ≤ 2 → 0 ≤ k → k < 48 → 0 ≤ o → o < 48 → (P g k o ↔ P2 g k o)) : Prt G G' p fr a P2 := by
  refine ⟨h.1, fun g k o g0 g1 k0 k1 o0 o1 => ?_, h.2.2⟩
  have := h.2.1 g k o g0 g1 k0 k1 o0 o1
  have e := hp g k o g0 g1 k0 k1 o0 o1
  exact ⟨fun y => this.1 (e.mpr y), fun y => this.2 (fun z => y (e.mp z))⟩
theorem prt_s {G G1 G2 : AG} {p : Nat} {fr a g k o i j : Int} {P P2 : Int → Int → Int → Prop} (h : Prt G G1 p fr a P) (g0 : 0 ≤ g) (g1 : g ≤ 2) (k0 : 1 ≤ k) (k1 : k < 48) (o0 : 0 ≤ o) (o1 : o < 48) (e : G2 = gu G1 p i (G1 p j)) (ei : i = fr + sl a g k o) (ej : j = fr + sl a g (k - 1) o) (hn : ¬ P g (k - 1) o) (hp : ∀ a b c : Int, P2 a b c ↔ (P a b c ∨ (a = g ∧ b = k ∧ c = o))) : Prt G G2 p fr a P2 := by
  have sb := sl_in (a := a) g0 g1 (by omega : 0 ≤ k) k1 o0 o1
  refine ⟨fun c hc => by rw [e, gu_row hc]; exact h.1 c hc, fun g' k' o' a0 a1 b0 b1 c0 c1 => ?_, fun l hl => by rw [e, gu_i (by omega)]; exact h.2.2 l hl⟩
  have z := h.2.1 g' k' o' a0 a1 b0 b1 c0 c1
  by_cases w : g' = g ∧ k' = k ∧ o' = o
  · obtain ⟨w1, w2, w3⟩ := w
    subst w1 w2 w3
    refine ⟨fun _ => ?_, fun y => absurd ((hp _ _ _).mpr (Or.inr ⟨rfl, rfl, rfl⟩)) y⟩
    rw [e, ← ei, gu_s, ej]
    exact (h.2.1 g' (k' - 1) o' a0 a1 (by omega) (by omega) c0 c1).2 hn
  · have ne : fr + sl a g' k' o' ≠ i := by
      intro y
      exact w (sl_inj (a := a) b0 b1 c0 c1 (by omega) k1 o0 o1 (by omega))
    rw [e, gu_i ne]
    refine ⟨fun y => z.1 ?_, fun y => z.2 (fun u => y ((hp _ _ _).mpr (Or.inl u)))⟩
    rcases (hp _ _ _).mp y with u | u
    · exact u
    · exact absurd u w
theorem ok_parts {d : Nat} {S : AS} {F : AF} {G : AG} (hd : 1 ≤ d) (hsm : ShM S) {p : Nat} (hk : AtJ S p) {fr a z n : Int} (hf : 0 ≤ fr) (hf2 : fr + 6912 ≤ (sN S p : Int)) (hf3 : fr ≤ 1000000) (z0 : 0 ≤ z) (zn : z < n) (hn : n < 48) {Q : AQ} (hq : ∀ G', Prt G G' p fr a (fun _ k _ => z < k ∧ k ≤ n) → Q none S F G') : Ok d MX10_parts [vR p, vI fr, vI a, vI z, vI n] S F G Q := by
  refine ok_go rfl (by decide) (Nat.le_of_ble_eq_true rfl) (R_X10_parts_0 hsm hk ?_)
  unfold V_X10_parts_0
  refine up_ind (α := AG) 2 (fun g G1 => 0 ≤ g ∧ g ≤ 3 ∧ Prt G G1 p fr a (fun g' k _ => g' < g ∧ z < k ∧ k ≤ n)) (fun g G1 => Go d MX10_parts 3 [some (vR p), some (vI fr), some (vI a), some (vI z), some (vI n), some (vI g), none, none, none, none] [] S F G1 Q) ?_ ?_ 0 G ⟨by omega, by omega, fun _ _ => rfl, fun g k o g0 _ _ _ _ _ => ⟨fun y => absurd y.1 (by omega), fun _ => rfl⟩, fun _ _ => rfl⟩
  · rintro g G1 ⟨g0, g1, hP⟩ hg ih
    refine R_X10_parts_3 hsm hk ?_
    unfold V_X10_parts_3
    refine ⟨fun y => absurd y (by omega), fun _ => ?_⟩
    refine down_ind (α := AG) (z + 1) (fun k G2 => z ≤ k ∧ k ≤ n ∧ Prt G G2 p fr a (fun g' k' _ => (g' < g ∧ z < k' ∧ k' ≤ n) ∨ (g' = g ∧ k < k' ∧ k' ≤ n))) (fun k G2 => Go d MX10_parts 13 [some (vR p), some (vI fr), some (vI a), some (vI z), some (vI n), some (vI g), some (vI k), none, none, none] [] S F G2 Q) ?_ ?_ n G1 ⟨by omega, by omega, prt_c hP (fun g' k o _ _ _ _ _ _ => ⟨fun y => Or.inl y, fun y => y.elim id (fun u => absurd u (by omega))⟩)⟩
    · rintro k G2 ⟨k0, k1, hP2⟩ hk2 ih2
      refine R_X10_parts_13 hsm hk ?_
      unfold V_X10_parts_13
      refine ⟨fun y => absurd y (by omega), fun _ => ?_⟩
      refine up_ind (α := AG) 47 (fun o G3 => 0 ≤ o ∧ o ≤ 48 ∧ Prt G G3 p fr a (fun g' k' o' => (g' < g ∧ z < k' ∧ k' ≤ n) ∨ (g' = g ∧ ((k < k' ∧ k' ≤ n) ∨ (k' = k ∧ o' < o))))) (fun o G3 => Go d MX10_parts 22 [some (vR p), some (vI fr), some (vI a), some (vI z), some (vI n), some (vI g), some (vI k), some (vI o), none, none] [] S F G3 Q) ?_ ?_ 0 G2 ⟨by omega, by omega, prt_c hP2 (fun g' k' o _ _ _ _ _ _ => by constructor <;> (intro y; omega))⟩
      · rintro o G3 ⟨o0, o1, hP3⟩ ho ih3
        have s1 := sl_in (a := a) (g := g) (k := k) (o := o) g0 (by omega) (by omega) (by omega) o0 (by omega)
        have s2 := sl_in (a := a) (g := g) (k := k - 1) (o := o) g0 (by omega) (by omega) (by omega) o0 (by omega)
        have fin : ∀ t u : Int, t = sl a g k o → u = sl a g (k - 1) o → V_X10_parts_85 d S F G3 Q p fr a z n g k o t u := by
          intro t u et eu
          unfold V_X10_parts_85
          refine ⟨by omega, by omega, by omega, by omega, by omega, by omega, fun G7 e7 => ⟨by omega, ih3 G7 ⟨by omega, by omega, prt_s (g := g) (k := k) (o := o) hP3 g0 (by omega) (by omega) (by omega) o0 (by omega) e7 (by rw [et]) (by rw [eu]) (by omega) (fun a b c => by constructor <;> (intro y; omega))⟩⟩⟩
        refine R_X10_parts_22 hsm hk ?_
        unfold V_X10_parts_22
        refine ⟨fun y => absurd y (by omega), fun _ => ⟨fun y => ⟨hd, _, pu_slot hsm g0 (by omega) o0 (by omega) (by omega) (by omega), ?_⟩, fun y => ⟨hd, _, pu_slot hsm g0 (by omega) (by omega) (by omega) o0 (by omega), ?_⟩⟩⟩
        · unfold V_X10_parts_54
          refine ⟨fun _ => ⟨by omega, hd, _, pu_slot hsm g0 (by omega) o0 (by omega) (by omega) (by omega), fin _ _ ?_ ?_⟩, fun y2 => absurd y2 y⟩
          · unfold sl; rw [if_neg y]
          · unfold sl; rw [if_neg y]
        · unfold V_X10_parts_54
          refine ⟨fun y2 => absurd y y2, fun _ => ⟨by omega, hd, _, pu_slot hsm g0 (by omega) (by omega) (by omega) o0 (by omega), fin _ _ ?_ ?_⟩⟩
          · unfold sl; rw [if_pos y]
          · unfold sl; rw [if_pos y]
      · rintro o G3 ⟨o0, o1, hP3⟩ ho
        refine R_X10_parts_22 hsm hk ?_
        unfold V_X10_parts_22
        refine ⟨fun _ => ⟨by omega, ih2 G3 ⟨by omega, by omega, prt_c hP3 (fun g' k' o' _ _ _ _ _ _ => by constructor <;> (intro y; omega))⟩⟩, fun y => absurd y (by omega)⟩
    · rintro k G2 ⟨k0, k1, hP2⟩ hk2
      refine R_X10_parts_13 hsm hk ?_
      unfold V_X10_parts_13
      refine ⟨fun _ => ⟨by omega, ih G2 ⟨by omega, by omega, prt_c hP2 (fun g' k' o' _ _ _ _ _ _ => by constructor <;> (intro y; omega))⟩⟩, fun y => absurd y (by omega)⟩
  · rintro g G1 ⟨g0, g1, hP⟩ hg
    refine R_X10_parts_3 hsm hk ?_
    unfold V_X10_parts_3
    refine ⟨fun _ => hq G1 (prt_c hP (fun g' k' o' _ _ _ _ _ _ => by constructor <;> (intro y; omega))), fun y => absurd y (by omega)⟩
/-- what a cell of the reference has of a good, of a plane at a place -/
noncomputable def mC (F : AF) (G : AG) (p : Nat) (off g x y : Int) : Int := cv (me F G 0) (me F G 1) (G 55 0) (G 55 1) (fun i j => G p (off + 2304 * g + 48 * j + i)) x y
def SameC (F : AF) (G G' : AG) (p : Nat) (off : Int) : Prop := ∀ g x y : Int, 0 ≤ g → g ≤ 2 → 0 ≤ x → x < F 53 1 → 0 ≤ y → y < F 53 2 → mC F G' p off g x y = mC F G p off g x y
theorem ins_cells {F : AF} {G G4 : AG} {a n p z off : Int} {pl : Nat} (h0 : 0 ≤ a) (h1 : a ≤ 1) (hx : MX F G) (hx4 : MX F G4) (hN : G 55 a = n) (n48 : n < 48) (hI : Ins (me F G a) (me F G4 a) n p z) (c55 : G4 55 a = n + 1) (oth : ∀ b : Int, 0 ≤ b → b ≤ 1 → b ≠ a → G4 55 b = G 55 b ∧ ∀ i : Int, 0 ≤ i → i ≤ G 55 b → me F G4 b i = me F G b i) (hv : ∀ g s o : Int, 0 ≤ g → g ≤ 2 → 0 ≤ s → s < 48 → 0 ≤ o → o < 48 → G4 pl (off + sl a g s o) = if z < s ∧ s ≤ n then G pl (off + sl a g (s - 1) o) else G pl (off + sl a g s o)) : SameC F G G4 pl off := by
  intro g x y g0 g1 x0 x1 y0 y1
  have sx := sq_mx hx (a := 0) (by omega) (by omega)
  have sy := sq_mx hx (a := 1) (by omega) (by omega)
  have sx4 := sq_mx hx4 (a := 0) (by omega) (by omega)
  have sy4 := sq_mx hx4 (a := 1) (by omega) (by omega)
  have wx : msz F 0 = F 53 1 := if_pos rfl
  have wy : msz F 1 = F 53 2 := if_neg (by omega)
  rw [wx] at sx sx4
  rw [wy] at sy sy4
  have bx4 := bl_spec sx4 x0 x1
  have by4 := bl_spec sy4 y0 y1
  have nx4 := (hx4 0 (by omega) (by omega)).2.1
  have ny4 := (hx4 1 (by omega) (by omega)).2.1
  rcases (by omega : a = 0 ∨ a = 1) with ha | ha
  · subst ha
    have o1 := oth 1 (by omega) (by omega) (by omega)
    have eb : blk (me F G4 1) (G4 55 1) y = blk (me F G 1) (G 55 1) y := blk_cg sy4 sy o1.1 (fun i i0 i1 => o1.2 i i0 (by omega)) y0 y1
    have ea := ins_bl (hN ▸ sx) hI x0 x1
    simp only [mC, cv]
    rw [eb] at by4 ⊢
    rw [hN, ea, c55]
    rw [c55] at bx4
    generalize blk (me F G 1) (G 55 1) y = Y at *
    generalize blk (me F G4 0) (n + 1) x = X at *
    have t := hv g X Y g0 g1 bx4.1 (by omega) by4.1 (by omega)
    unfold sl at t
    rw [if_pos rfl, if_pos rfl] at t
    have e1 : off + 2304 * g + 48 * Y + X = off + (2304 * g + 48 * Y + X) := by omega
    rw [e1, t]
    by_cases c : z < X
    · rw [if_pos ⟨c, by omega⟩, if_neg (by omega)]
      congr 1; omega
    · rw [if_neg (by omega), if_pos (by omega)]
      congr 1; omega
  · subst ha
    have o1 := oth 0 (by omega) (by omega) (by omega)
    have eb : blk (me F G4 0) (G4 55 0) x = blk (me F G 0) (G 55 0) x := blk_cg sx4 sx o1.1 (fun i i0 i1 => o1.2 i i0 (by omega)) x0 x1
    have ea := ins_bl (hN ▸ sy) hI y0 y1
    simp only [mC, cv]
    rw [eb] at bx4 ⊢
    rw [hN, ea, c55]
    rw [c55] at by4
    generalize blk (me F G 0) (G 55 0) x = X at *
    generalize blk (me F G4 1) (n + 1) y = Y at *
    have t := hv g Y X g0 g1 by4.1 (by omega) bx4.1 (by omega)
    unfold sl at t
    rw [if_neg (by decide : ¬ ((1 : Int) = 0)), if_neg (by decide : ¬ ((1 : Int) = 0))] at t
    have e1 : off + 2304 * g + 48 * Y + X = off + (2304 * g + 48 * Y + X) := by omega
    rw [e1, t]
    by_cases c : z < Y
    · rw [if_pos ⟨c, by omega⟩, if_neg (by omega)]
      congr 1; omega
    · rw [if_neg (by omega), if_pos (by omega)]
      congr 1; omega
/-- one border more, or none -/
def Cam (F : AF) (G G' : AG) (a p : Int) : Prop :=
  (∀ c : Nat, c ≠ 54 → c ≠ 55 → c ≠ 56 → c ≠ 57 → c ≠ 58 → G' c = G c) ∧ MX F G' ∧
  (∀ b : Int, 0 ≤ b → b ≤ 1 → b ≠ a → G' 55 b = G 55 b ∧ G' 56 b = G 56 b ∧ ∀ i : Int, 0 ≤ i → i ≤ G 55 b → me F G' b i = me F G b i) ∧
  (∀ q : Int, isB (me F G' a) (G' 55 a) q ↔ (isB (me F G a) (G 55 a) q ∨ (q = p ∧ 0 < p ∧ p < msz F a))) ∧
  ((G' 55 a = G 55 a ∧ G' 56 a = G 56 a ∧ me F G' a = me F G a) ∨ (¬ isB (me F G a) (G 55 a) p ∧ G' 55 a = G 55 a + 1 ∧ G' 56 a = G 56 a + (if p < G 66 a then 1 else 0) ∧ ∀ f : Int → Int, sI (fun i => f (me F G' a i)) (G' 55 a) = sI (fun i => f (me F G a i)) (G 55 a) + f p)) ∧
  SameC F G G' 57 0 ∧ ∀ k : Int, 0 ≤ k → k < F 53 11 → SameC F G G' 58 (6912 * k)
theorem ok_comes {d : Nat} {S : AS} {F : AF} {G : AG} (hd : 2 ≤ d) (hsm : ShM S) (hx : MX F G) {a p : Int} (h0 : 0 ≤ a) (h1 : a ≤ 1) (hp : 0 ≤ p) (hp2 : p ≤ msz F a) (hr : ¬ isB (me F G a) (G 55 a) p → p ≠ msz F a → G 55 a < 48) (o0 : 0 ≤ F 53 11) (o8 : F 53 11 ≤ 8) (l0 : 0 ≤ G 56 a) (l1 : G 56 a ≤ 1000) {Q : AQ} (hq : ∀ G', Cam F G G' a p → Q none S F G') : Ok d MX10_comes [vR 53, vI a, vI p] S F G Q := by
  obtain ⟨z, hz1, hz2, hz3⟩ := pu_isEdge (d := d - 1) (by omega) hsm hx h0 h1 p
  have hE := isE_iff hx (p := p) h0 h1
  have sq := sq_mx hx h0 h1
  obtain ⟨x1, x2, x3, x4, x5, -⟩ := hx a h0 h1
  refine ok_go rfl (by decide) (Nat.le_of_ble_eq_true rfl) (R_X10_comes_0 hsm ?_)
  unfold V_X10_comes_0
  refine ⟨by omega, z, hz3, fun zz => ⟨h0, by omega, fun n en => ?_⟩, fun zz => hq G ?_⟩
  rotate_left
  · have hz : isE F G a p := hz2.mp (by omega)
    refine ⟨fun _ _ _ _ _ _ => rfl, hx, fun b _ _ _ => ⟨rfl, rfl, fun _ _ _ => rfl⟩, fun q => ⟨Or.inl, ?_⟩, Or.inl ⟨rfl, rfl, rfl⟩, fun _ _ _ _ _ _ _ _ _ => rfl, fun _ _ _ _ _ _ _ _ _ _ _ _ => rfl⟩
    rintro (u | ⟨u1, u2, u3⟩)
    · exact u
    · subst u1
      rcases hE.mp hz with v | v
      · exact v
      · omega
  have ne : ¬ isE F G a p := fun y => by have := hz2.mpr y; omega
  have nb : ¬ isB (me F G a) (G 55 a) p := fun y => ne (hE.mpr (Or.inl y))
  have nw' : p ≠ msz F a := fun y => ne (hE.mpr (Or.inr y))
  have p0 : p ≠ 0 := fun y => nb (y ▸ isB_0 sq)
  have n48 := hr nb nw'
  subst en
  generalize hN : G 55 a = n at *
  refine down_ind (α := Unit) 1 (fun i _ => 1 ≤ i ∧ i ≤ n ∧ ∀ l : Int, i ≤ l → l < n → p < me F G a l) (fun i _ => Go d MX10_comes 20 [some (vR 53), some (vI a), some (vI p), some (vI n), some (vI i), none] [] S F G Q) ?_ (fun i _ hI hi => absurd hI.1 hi) n () ⟨x1, by omega, fun l a b => absurd b (by omega)⟩
  rintro i - ⟨i0, i1, i2⟩ - ih
  have e1 : 48 * a + i - 1 = 48 * a + (i - 1) := by omega
  have e2 := me_lo (F := F) (G := G) (a := a) (i := i - 1) (by omega)
  refine R_X10_comes_20 hsm ?_
  unfold V_X10_comes_20
  rw [e1, ← e2]
  refine ⟨by omega, by omega, by omega, by omega, by omega, fun y => ?_, fun y => ⟨by omega, ih () ⟨?_, by omega, fun l l0' l1' => ?_⟩⟩⟩
  rotate_left
  · by_cases w : i = 1
    · have : me F G a (i - 1) = 0 := by rw [w]; exact me_0 hx h0 h1
      omega
    · omega
  · by_cases w : l = i - 1
    · rw [w]; omega
    · exact i2 l (by omega) l1'
  clear ih
  have lt : me F G a (i - 1) < p := by
    have : me F G a (i - 1) ≠ p := fun q => nb ⟨i - 1, by omega, by omega, q⟩
    omega
  have gt : p < me F G a (i - 1 + 1) := by
    by_cases w : i - 1 + 1 = n
    · rw [w, ← hN, me_n]; omega
    · exact i2 _ (by omega) (by omega)
  generalize hZ : i - 1 = z' at *
  have z0 : 0 ≤ z' := by omega
  have z1 : z' < n := by omega
  have ei : i = z' + 1 := by omega
  subst ei
  -- the planes are parted
  refine ⟨by omega, by omega, ?_⟩
  refine ok_parts (by omega) hsm (at_57 hsm) (by omega) (by rw [shm_n hsm 57 (by decide) (by decide)]; decide) (by omega) z0 z1 n48 (fun G1 P1 => ⟨rfl, rfl, ?_⟩)
  refine up_ind (α := AG) (F 53 11 - 1) (fun k G2 => 0 ≤ k ∧ k ≤ F 53 11 ∧ (∀ c : Nat, c ≠ 57 → c ≠ 58 → G2 c = G c) ∧ G2 57 = G1 57 ∧ (∀ k' : Int, 0 ≤ k' → k' < k → ∀ g s o : Int, 0 ≤ g → g ≤ 2 → 0 ≤ s → s < 48 → 0 ≤ o → o < 48 → G2 58 (6912 * k' + sl a g s o) = if z' < s ∧ s ≤ n then G 58 (6912 * k' + sl a g (s - 1) o) else G 58 (6912 * k' + sl a g s o)) ∧ ∀ j : Int, 6912 * k ≤ j → G2 58 j = G 58 j) (fun k G2 => Go d MX10_comes 61 [some (vR 53), some (vI a), some (vI p), some (vI n), some (vI (z' + 1)), some (vI k)] [] S F G2 Q) ?_ ?_ 0 G1 ⟨by omega, o0, fun c c1 c2 => P1.1 c c1, rfl, fun k' a b => absurd b (by omega), fun j _ => by rw [P1.1 58 (by decide)]⟩
  · rintro k G2 ⟨k0, k1, u1, u2, u3, u4⟩ hk ih
    refine R_X10_comes_61 hsm ?_
    unfold V_X10_comes_61
    refine ⟨fun y => absurd y (by omega), fun _ => ⟨by omega, by omega, by omega, ?_⟩⟩
    rw [hZ]
    refine ok_parts (by omega) hsm (at_58 hsm) (by omega) (by rw [shm_n hsm 58 (by decide) (by decide)]; show 6912 * k + 6912 ≤ 55296; omega) (by omega) z0 z1 n48 (fun G3 P3 => ⟨rfl, rfl, by omega, ih G3 ⟨by omega, by omega, fun c c1 c2 => by rw [P3.1 c c2]; exact u1 c c1 c2, by rw [P3.1 57 (by decide)]; exact u2, fun k' a0 a1 g s o g0 g1 s0 s1 q0 q1 => ?_, fun j hj => ?_⟩⟩)
    · have sb := sl_in (a := a) g0 g1 s0 s1 q0 q1
      by_cases e : k' = k
      · subst e
        have t := P3.2.1 g s o g0 g1 s0 s1 q0 q1
        by_cases c : z' < s ∧ s ≤ n
        · have sb2 := sl_in (a := a) (k := s - 1) g0 g1 (by omega) (by omega) q0 q1
          rw [if_pos c, t.1 c, u4 _ (by omega)]
        · rw [if_neg c, t.2 c, u4 _ (by omega)]
      · rw [P3.2.2 _ (by omega)]
        exact u3 k' a0 (by omega) g s o g0 g1 s0 s1 q0 q1
    · rw [P3.2.2 _ (by omega)]; exact u4 j (by omega)
  rintro k G2 ⟨k0, k1, u1, u2, u3, u4⟩ hk
  have ek : k = F 53 11 := by omega
  subst ek
  refine R_X10_comes_61 hsm ?_
  unfold V_X10_comes_61
  refine ⟨fun _ => ?_, fun y => absurd y (by omega)⟩
  have g54 : G2 54 = G 54 := u1 54 (by decide) (by decide)
  -- the borders behind it move
  refine down_ind (α := AG) (z' + 2) (fun k G3 => z' + 1 ≤ k ∧ k ≤ n ∧ (∀ c : Nat, c ≠ 54 → G3 c = G2 c) ∧ (∀ l : Int, (l ≤ 48 * a + k ∨ 48 * a + n < l) → G3 54 l = G 54 l) ∧ ∀ l : Int, k < l → l ≤ n → G3 54 (48 * a + l) = G 54 (48 * a + (l - 1))) (fun k G3 => Go d MX10_comes 98 [some (vR 53), some (vI a), some (vI p), some (vI n), some (vI (z' + 1)), some (vI k)] [] S F G3 Q) ?_ ?_ n G2 ⟨by omega, by omega, fun _ _ => rfl, fun l _ => by rw [g54], fun l a b => absurd b (by omega)⟩
  · rintro k G3 ⟨k0, k1, v1, v2, v3⟩ hk2 ih
    refine R_X10_comes_98 hsm ?_
    unfold V_X10_comes_98
    refine ⟨fun y => absurd y (by omega), fun _ => ⟨by omega, by omega, by omega, by omega, by omega, by omega, by omega, fun G17 e17 => ⟨by omega, ih G17 ⟨by omega, by omega, fun c hc => by rw [e17, gu_row hc]; exact v1 c hc, fun l hl => ?_, fun l l0 l1 => ?_⟩⟩⟩⟩
    · rw [e17, gu_i (by omega)]; exact v2 l (by omega)
    · by_cases e : l = k
      · have e3 : 48 * a + (k - 1) = 48 * a + k - 1 := by omega
        rw [e17, e, gu_s, e3]; exact v2 _ (by omega)
      · rw [e17, gu_i (by omega)]; exact v3 l (by omega) l1
  rintro k G3 ⟨k0, k1, v1, v2, v3⟩ hk2
  have ek : k = z' + 1 := by omega
  subst ek
  refine R_X10_comes_98 hsm ?_
  unfold V_X10_comes_98
  refine ⟨fun _ => ⟨by omega, by omega, by omega, by omega, fun G5 e5 => ⟨h0, by omega, ?_⟩⟩, fun y => absurd y (by omega)⟩
  have t66 : G5 66 = G 66 := by rw [e5, gu_row (by decide), v1 66 (by decide), u1 66 (by decide) (by decide)]
  have t56 : G5 56 = G 56 := by rw [e5, gu_row (by decide), v1 56 (by decide), u1 56 (by decide) (by decide)]
  have t55 : G5 55 = G 55 := by rw [e5, gu_row (by decide), v1 55 (by decide), u1 55 (by decide) (by decide)]
  -- the end: whatever becomes of late
  have fin : ∀ G9 : AG, (∀ c : Nat, c ≠ 56 → G9 c = G5 c) → (∀ b : Int, b ≠ a → G9 56 b = G 56 b) → G9 56 a = G 56 a + (if p < G 66 a then 1 else 0) → V_X10_comes_170 d S F G9 Q a p n (z' + 1) (z' + 1) := by
    intro G9 w1 w2 w3
    unfold V_X10_comes_170
    have e55 : G9 55 = G 55 := by rw [w1 55 (by decide), t55]
    rw [e55, hN]
    refine ⟨h0, by omega, by omega, fun G4 e4 => ?_⟩
    have c55 : G4 55 a = n + 1 := by rw [e4, gu_s]
    have d55 : ∀ b : Int, b ≠ a → G4 55 b = G 55 b := fun b hb => by rw [e4, gu_i hb, e55]
    have c54 : ∀ l : Int, G4 54 l = G5 54 l := fun l => by rw [e4, gu_row (by decide), w1 54 (by decide)]
    have f54 : ∀ l : Int, 0 ≤ l → l < n + 1 → G4 54 (48 * a + l) = if l ≤ z' then G 54 (48 * a + l) else if l = z' + 1 then p else G 54 (48 * a + (l - 1)) := by
      intro l l0 l1
      rw [c54, e5]
      by_cases q1 : l ≤ z'
      · rw [if_pos q1, gu_i (by omega)]; exact v2 _ (by omega)
      · rw [if_neg q1]
        by_cases q2 : l = z' + 1
        · rw [if_pos q2, q2, gu_s]
        · rw [if_neg q2, gu_i (by omega)]; exact v3 l (by omega) (by omega)
    have o54 : ∀ l : Int, (l < 48 * a ∨ 48 * a + 48 ≤ l) → G4 54 l = G 54 l := by
      intro l hl
      rw [c54, e5, gu_i (by omega)]; exact v2 l (by omega)
    have hI : Ins (me F G a) (me F G4 a) n p z' := by
      refine ⟨z0, z1, lt, gt, fun l l0 l1 => ?_, ?_, fun l l0 l1 => ?_⟩
      · rw [me_lo (by omega), me_lo (by omega), f54 l l0 (by omega), if_pos l1]
      · rw [me_lo (by omega), f54 _ (by omega) (by omega), if_neg (by omega), if_pos rfl]
      · by_cases w : l = n + 1
        · have q1 : me F G4 a l = msz F a := by rw [w, ← c55]; exact me_n
          have q2 : me F G a (l - 1) = msz F a := by
            have : l - 1 = G 55 a := by omega
            rw [this]; exact me_n
          rw [q1, q2]
        · rw [me_lo (by omega), me_lo (by omega), f54 l (by omega) (by omega), if_neg (by omega), if_neg (by omega)]
    obtain ⟨sq', sb⟩ := ins_sq sq hI
    have oth : ∀ b : Int, 0 ≤ b → b ≤ 1 → b ≠ a → G4 55 b = G 55 b ∧ ∀ l : Int, 0 ≤ l → l ≤ G 55 b → me F G4 b l = me F G b l := by
      intro b b0 b1 hb
      have n48b := (hx b b0 b1).2.1
      refine ⟨d55 b hb, fun l l0 l1 => ?_⟩
      simp only [me]
      rw [d55 b hb]
      by_cases w : l = G 55 b
      · rw [if_pos w, if_pos w]
      · rw [if_neg w, if_neg w]
        exact o54 _ (by omega)
    have mx4 : MX F G4 := by
      intro b b0 b1
      by_cases hb : b = a
      · subst hb
        rw [c55]
        refine ⟨by omega, by omega, x3, x4, ?_, fun l l0 l1 => sq'.2.2.2 l l0 l1⟩
        have := f54 0 (by omega) (by omega)
        rw [if_pos z0] at this
        have e0 : 48 * b + 0 = 48 * b := by omega
        rw [e0] at this
        rw [this]; exact x5
      · obtain ⟨y1, y2, y3, y4, y5, y6⟩ := hx b b0 b1
        have ob := oth b b0 b1 hb
        rw [d55 b hb]
        refine ⟨y1, y2, y3, y4, ?_, fun l l0 l1 => ?_⟩
        · rw [o54 _ (by omega)]; exact y5
        · rw [ob.2 l l0 (by omega), ob.2 (l + 1) (by omega) (by omega)]; exact y6 l l0 l1
    have pl57 : G4 57 = G1 57 := by rw [e4, gu_row (by decide), w1 57 (by decide), e5, gu_row (by decide), v1 57 (by decide), u2]
    have pl58 : G4 58 = G2 58 := by rw [e4, gu_row (by decide), w1 58 (by decide), e5, gu_row (by decide), v1 58 (by decide)]
    refine hq G4 ⟨fun c c54' c55' c56' c57' c58' => ?_, mx4, fun b b0 b1 hb => ⟨d55 b hb, ?_, (oth b b0 b1 hb).2⟩, fun q => ?_, Or.inr ⟨by rw [hN]; exact nb, c55.trans (by rw [hN]), ?_, fun f => ?_⟩, ?_, ?_⟩
    · rw [e4, gu_row c55', w1 c c56', e5, gu_row c54', v1 c c54', u1 c c57' c58']
    · rw [e4, gu_c (by decide)]; exact w2 b hb
    · rw [c55, sb q, hN]
      constructor
      · rintro (q1 | q1)
        · exact Or.inl q1
        · exact Or.inr ⟨q1, by omega, by omega⟩
      · rintro (q1 | ⟨q1, -⟩)
        · exact Or.inl q1
        · exact Or.inr q1
    · rw [e4, gu_c (by decide)]; exact w3
    · rw [c55, hN]; exact ins_sum hI f
    · refine ins_cells h0 h1 hx mx4 hN n48 hI c55 oth (fun g s o g0 g1 s0 s1 q0 q1 => ?_)
      have t := P1.2.1 g s o g0 g1 s0 s1 q0 q1
      rw [pl57]
      by_cases c : z' < s ∧ s ≤ n
      · rw [if_pos c]; exact t.1 c
      · rw [if_neg c]; exact t.2 c
    · intro k' q0 q1
      refine ins_cells h0 h1 hx mx4 hN n48 hI c55 oth (fun g s o g0 g1 s0 s1 r0 r1 => ?_)
      rw [pl58]
      exact u3 k' q0 q1 g s o g0 g1 s0 s1 r0 r1
  rw [t66, t56]
  refine ⟨fun y2 => fin G5 (fun _ _ => rfl) (fun b _ => by rw [t56]) (by rw [t56, if_neg (by omega), Int.add_zero]), fun y2 => ⟨by omega, fun G9 e9 => fin G9 (fun c hc => by rw [e9, gu_row hc]) (fun b hb => by rw [e9, gu_i hb, t56]) (by rw [e9, gu_s, if_pos (by omega)])⟩⟩
