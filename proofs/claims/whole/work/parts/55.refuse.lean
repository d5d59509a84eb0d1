/-! WHAT A TRIAL BREAKS -/
noncomputable def bC (p : Prop) : Int := by
  classical
  exact if p then 1 else 0
theorem bC_t {p : Prop} (h : p) : bC p = 1 := by
  classical
  simp only [bC]
  rw [if_pos h]
theorem bC_f {p : Prop} (h : ¬ p) : bC p = 0 := by
  classical
  simp only [bC]
  rw [if_neg h]
theorem bC_0 {p : Prop} : bC p = 0 ↔ ¬ p := by
  constructor
  · intro h q
    rw [bC_t q] at h
    exact absurd h (by decide)
  · exact bC_f
theorem bC_r {p : Prop} : bC p = 0 ∨ bC p = 1 := by
  classical
  by_cases h : p
  · exact Or.inr (bC_t h)
  · exact Or.inl (bC_f h)
theorem bC_c {p q : Prop} (h : p ↔ q) : bC p = bC q := by
  classical
  by_cases w : p
  · rw [bC_t w, bC_t (h.mp w)]
  · rw [bC_f w, bC_f (fun z => w (h.mpr z))]
/-- units of a cell: of a good, or of all -/
noncomputable def vu (F : AF) (G : AG) (p : Nat) (g x y : Int) : Int := cv (G 5) (G 12) (F 4 1) (F 11 1) (cu G p g) x y
theorem vu_g {F : AF} {G : AG} {p : Nat} {g x y : Int} (hg : 0 ≤ g) : vu F G p g x y = vC F G p g x y := by
  simp only [vu, vC, cv, cu]
  rw [if_neg (by omega)]
def OvC (F : AF) (G : AG) (g : Int) (T : Int → Int → Int) : Prop := ∃ x y : Int, 0 ≤ x ∧ x < F 4 2 ∧ 0 ≤ y ∧ y < F 11 2 ∧ F 2 7 < vu F G 18 (-1) x y - vu F G 18 g x y + T x y
theorem pu_trialOverCap {d : Nat} {S : AS} {F : AF} {G : AG} {T : Int → Int → Int} (hd : 1 ≤ d) (hsh : ShC S) (h : TS F G T) (hb : PBA F G 18) {g : Int} (hg : 0 ≤ g) (hg2 : g ≤ 2) (hT : ∀ x y : Int, 0 ≤ x → x < F 4 2 → 0 ≤ y → y < F 11 2 → 0 ≤ T x y ∧ T x y ≤ 10000000000000) : Pu d MX2_trialOverCap [vR 2, vI g] S F G (some (vI (bC (OvC F G g T)))) := by
  have tf := ts_fld h hT
  obtain ⟨t1, t2, t3, t4, t5, t6, t7, t8, t9, t10⟩ := id h
  have s6 : Sq (G 7) (F 6 1) (F 4 2) := t4 ▸ sq_co t2
  have s13 : Sq (G 14) (F 13 1) (F 11 2) := t5 ▸ sq_co t3
  have s4 : Sq (G 5) (F 4 1) (F 4 2) := sq_co t1.1
  have s11 : Sq (G 12) (F 11 1) (F 11 2) := sq_co t1.2.1
  have o8 : ∀ i : Int, 0 ≤ i → i < F 6 1 → 0 ≤ G 8 i ∧ G 8 i < F 4 1 := fun i a b => by
    rw [t8 i a b]
    have := isB_in s6 ⟨i, a, b, rfl⟩
    have := bl_spec s4 this.1 this.2
    exact ⟨this.1, this.2.1⟩
  have o15 : ∀ i : Int, 0 ≤ i → i < F 13 1 → 0 ≤ G 15 i ∧ G 15 i < F 11 1 := fun i a b => by
    rw [t9 i a b]
    have := isB_in s13 ⟨i, a, b, rfl⟩
    have := bl_spec s11 this.1 this.2
    exact ⟨this.1, this.2.1⟩
  have n4 := t1.1.2.1
  have n11 := t1.2.1.2.1
  have n6 := t2.2.1
  have n13 := t3.2.1
  have m6 := t2.1
  have m13 := t3.1
  have eq : OvC F G g T ↔ ∃ i j : Int, 0 ≤ i ∧ i < F 6 1 ∧ 0 ≤ j ∧ j < F 13 1 ∧ F 2 7 < cu G 18 (-1) (G 8 i) (G 15 j) - cu G 18 g (G 8 i) (G 15 j) + G 19 (48 * j + i) := by
    constructor
    · rintro ⟨x, y, x0, x1, y0, y1, hh⟩
      have a := bl_spec s6 x0 x1
      have b := bl_spec s13 y0 y1
      refine ⟨_, _, a.1, a.2.1, b.1, b.2.1, ?_⟩
      rw [t8 _ a.1 a.2.1, t9 _ b.1 b.2.1, bl_sub s4 s6 t6 x0 x1, bl_sub s11 s13 t7 y0 y1]
      rw [← t10 x y x0 x1 y0 y1] at hh
      exact hh
    · rintro ⟨i, j, i0, i1, j0, j1, hh⟩
      have a := isB_in s6 ⟨i, i0, i1, rfl⟩
      have b := isB_in s13 ⟨j, j0, j1, rfl⟩
      refine ⟨_, _, a.1, a.2, b.1, b.2, ?_⟩
      rw [t8 i i0 i1, t9 j j0 j1] at hh
      rw [← t10 _ _ a.1 a.2 b.1 b.2]
      simp only [vT, vu, cv]
      rw [bl_at s6 i0 i1, bl_at s13 j0 j1]
      exact hh
  rw [bC_c eq]
  generalize hP : (∃ i j : Int, 0 ≤ i ∧ i < F 6 1 ∧ 0 ≤ j ∧ j < F 13 1 ∧ F 2 7 < cu G 18 (-1) (G 8 i) (G 15 j) - cu G 18 g (G 8 i) (G 15 j) + G 19 (48 * j + i)) = P
  refine ok_go rfl (by decide) (Nat.le_of_ble_eq_true rfl) (R_X2_trialOverCap_0 hsh ?_)
  unfold V_X2_trialOverCap_0
  refine up_ind (α := Unit) (F 13 1 - 1) (fun j _ => 0 ≤ j ∧ j ≤ F 13 1 ∧ ∀ i' j' : Int, 0 ≤ i' → i' < F 6 1 → 0 ≤ j' → j' < j → ¬ F 2 7 < cu G 18 (-1) (G 8 i') (G 15 j') - cu G 18 g (G 8 i') (G 15 j') + G 19 (48 * j' + i')) (fun j _ => Go d MX2_trialOverCap 2 [some (vR 2), some (vI g), some (vI j), none, none, none, none] [] S F G (fun r' S' F' G' => r' = some (vI (bC P)) ∧ S' = S ∧ F' = F ∧ G' = G)) ?_ ?_ 0 () ⟨by omega, by omega, fun i' j' _ _ a b => absurd b (by omega)⟩
  · intro j _ hI hj ih
    obtain ⟨j0, j1, no⟩ := hI
    refine R_X2_trialOverCap_2 hsh ?_
    unfold V_X2_trialOverCap_2
    refine ⟨fun q => absurd q (by omega), fun _ => ?_⟩
    have b15 := o15 j j0 (by omega)
    refine up_ind (α := Unit) (F 6 1 - 1) (fun i _ => 0 ≤ i ∧ i ≤ F 6 1 ∧ ∀ i' : Int, 0 ≤ i' → i' < i → ¬ F 2 7 < cu G 18 (-1) (G 8 i') (G 15 j) - cu G 18 g (G 8 i') (G 15 j) + G 19 (48 * j + i')) (fun i _ => Go d MX2_trialOverCap 18 [some (vR 2), some (vI g), some (vI j), some (vI i), none, none, none] [] S F G (fun r' S' F' G' => r' = some (vI (bC P)) ∧ S' = S ∧ F' = F ∧ G' = G)) ?_ ?_ 0 () ⟨by omega, by omega, fun i' a b => absurd b (by omega)⟩
    · intro i _ hI2 hi ih2
      obtain ⟨i0, i1, no2⟩ := hI2
      have b8 := o8 i i0 (by omega)
      have pb := hb (G 8 i) (G 15 j) b8.1 b8.2 b15.1 b15.2
      have c1 := cu_in pb (g := -1) (by omega) (by omega)
      have c2 := cu_in pb (g := g) (by omega) (by omega)
      have tb := tf i j i0 (by omega) j0 (by omega)
      refine R_X2_trialOverCap_18 hsh ?_
      unfold V_X2_trialOverCap_18
      refine ⟨fun q => absurd q (by omega), fun _ => ⟨j0, by omega, by omega, i0, by omega, by omega, fun x8 e8 => ⟨hd, _, pu_unitsAt hsh pb (by omega) (by omega) b8.1 (by omega) b15.1 (by omega) e8, _, pu_unitsAt hsh pb (by omega) (by omega) b8.1 (by omega) b15.1 (by omega) e8, by omega, fun x23 e23 => ⟨by omega, by omega, by omega, by omega, by omega, fun q => ⟨by omega, ih2 () ⟨by omega, by omega, fun i' a b => ?_⟩⟩, fun q => ⟨?_, rfl, rfl, rfl⟩⟩⟩⟩⟩
      · by_cases w : i' = i
        · rw [w, ← e23]
          omega
        · exact no2 i' a (by omega)
      · rw [bC_t]
        rw [← hP]
        exact ⟨i, j, i0, by omega, j0, by omega, by rw [← e23]; omega⟩
    · intro i _ hI2 hi
      obtain ⟨i0, i1, no2⟩ := hI2
      refine R_X2_trialOverCap_18 hsh ?_
      unfold V_X2_trialOverCap_18
      refine ⟨fun _ => ⟨by omega, ih () ⟨by omega, by omega, fun i' j' a b c9 d9 => ?_⟩⟩, fun q => absurd q (by omega)⟩
      by_cases w : j' = j
      · rw [w]
        exact no2 i' a (by omega)
      · exact no i' j' a b c9 (by omega)
  · intro j _ hI hj
    obtain ⟨j0, j1, no⟩ := hI
    refine R_X2_trialOverCap_2 hsh ?_
    unfold V_X2_trialOverCap_2
    refine ⟨fun _ => ⟨?_, rfl, rfl, rfl⟩, fun q => absurd q (by omega)⟩
    rw [bC_f]
    rw [← hP]
    rintro ⟨i', j', a, b, c9, d9, hh⟩
    exact no i' j' a b c9 (by omega) hh
/-- zones: their sides, whether they are there, their limits -/
def ZI (F : AF) : Prop := ∀ z : Int, 0 ≤ z → z < 6 → RO F (22 + 2 * Int.toNat z + 1) ∧ (F (22 + 2 * Int.toNat z) 2 = 0 ∨ F (22 + 2 * Int.toNat z) 2 = 1) ∧ (¬ F (22 + 2 * Int.toNat z) 2 = 0 → RG1 F (22 + 2 * Int.toNat z + 1) ∧ 0 ≤ F (22 + 2 * Int.toNat z) 1 ∧ F (22 + 2 * Int.toNat z) 1 ≤ 3000000000000000000)
/-- the sum of a function of cells over the rectangle at o -/
def aR (F : AF) (o : Nat) (f : Int → Int → Int) : Int := aS f (F o 0) (F o 1) (F o 2) (F o 3)
def OvL (F : AF) (G : AG) (g : Int) (T : Int → Int → Int) : Prop := ∃ z : Int, 0 ≤ z ∧ z < 6 ∧ ¬ F (22 + 2 * Int.toNat z) 2 = 0 ∧ 0 < aR F (22 + 2 * Int.toNat z + 1) T - aR F (22 + 2 * Int.toNat z + 1) (vu F G 18 g) ∧ F (22 + 2 * Int.toNat z) 1 < aR F (22 + 2 * Int.toNat z + 1) (vu F G 18 (-1)) + (aR F (22 + 2 * Int.toNat z + 1) T - aR F (22 + 2 * Int.toNat z + 1) (vu F G 18 g))
theorem csum_aS {F : AF} {G : AG} (hc : CC F G) (p : Nat) (g : Int) {x1 y1 x2 y2 : Int} (a0 : 0 ≤ x1) (a1 : x2 < F 4 2) (b0 : 0 ≤ y1) (b1 : y2 < F 11 2) : csum F G p g x1 y1 x2 y2 = aS (vu F G p g) x1 y1 x2 y2 := by
  have s4 : Sq (G 5) (F 4 1) (F 4 2) := sq_co hc.1
  have s11 : Sq (G 12) (F 11 1) (F 11 2) := sq_co hc.2.1
  exact pS_aS s4 s11 (cu G p g) a0 a1 b0 b1
theorem tsum_aS {F : AF} {G : AG} {T : Int → Int → Int} (h : TS F G T) {x1 y1 x2 y2 : Int} (a0 : 0 ≤ x1) (a1 : x2 < F 4 2) (b0 : 0 ≤ y1) (b1 : y2 < F 11 2) : pS (G 7) (G 14) (F 6 1) (F 13 1) (fun i j => G 19 (0 + 48 * j + i)) x1 y1 x2 y2 = aS T x1 y1 x2 y2 := by
  obtain ⟨t1, t2, t3, t4, t5, t6, t7, t8, t9, t10⟩ := h
  have s6 : Sq (G 7) (F 6 1) (F 4 2) := t4 ▸ sq_co t2
  have s13 : Sq (G 14) (F 13 1) (F 11 2) := t5 ▸ sq_co t3
  rw [pS_aS s6 s13 _ a0 a1 b0 b1]
  refine aS_congr (fun x y x0 x1 y0 y1 => ?_)
  rw [← t10 x y (by omega) (by omega) (by omega) (by omega)]
  simp only [vT, cv]
  congr 1
  omega
theorem dS_mono {f : Int → Int} {a b a2 b2 : Int} (h : ∀ x : Int, a2 ≤ x → x ≤ b2 → 0 ≤ f x) (h1 : a2 ≤ a) (h2 : b ≤ b2) : dS f a b ≤ dS f a2 b2 := by
  rcases Int.lt_or_le b a with q | q
  · rw [dS_0 f q]
    exact dS_pos h
  · rw [dS_split f (a := a2) (m := a - 1) (b := b2) (by omega) (by omega), show a - 1 + 1 = a by omega, dS_split f (a := a) (m := b) (b := b2) (by omega) h2]
    have := dS_pos (f := f) (a := a2) (b := a - 1) (fun x a b => h x a (by omega))
    have := dS_pos (f := f) (a := b + 1) (b := b2) (fun x a b => h x (by omega) b)
    omega
theorem aS_mono {f : Int → Int → Int} {x1 y1 x2 y2 a1 b1 a2 b2 : Int} (h : ∀ x y : Int, a1 ≤ x → x ≤ a2 → b1 ≤ y → y ≤ b2 → 0 ≤ f x y) (h1 : a1 ≤ x1) (h2 : b1 ≤ y1) (h3 : x2 ≤ a2) (h4 : y2 ≤ b2) : aS f x1 y1 x2 y2 ≤ aS f a1 b1 a2 b2 := by
  refine Int.le_trans (dS_le (g := fun y => dS (fun x => f x y) a1 a2) (fun y y0 y1 => dS_mono (fun x x0 x1 => h x y x0 x1 (by omega) (by omega)) h1 h3)) ?_
  exact dS_mono (fun y y0 y1 => dS_pos (fun x x0 x1 => h x y x0 x1 y0 y1)) h2 h4
theorem pu_trialOverLimit {d : Nat} {S : AS} {F : AF} {G : AG} {T : Int → Int → Int} (hd : 3 ≤ d) (hsh : ShC S) (h : TS F G T) (hb : PBA F G 18) (ht : CT F G 18) (hz : ZI F) {g : Int} (hg : 0 ≤ g) (hg2 : g ≤ 2) (hT : ∀ x y : Int, 0 ≤ x → x < F 4 2 → 0 ≤ y → y < F 11 2 → 0 ≤ T x y ∧ T x y ≤ 1000000000000) (hTT : aS T 0 0 (F 4 2 - 1) (F 11 2 - 1) ≤ 3000000000000000000) : Pu d MX2_trialOverLimit [vR 2, vI g] S F G (some (vI (bC (OvL F G g T)))) := by
  have tf := ts_fld h hT
  obtain ⟨t1, t2, t3, t4, t5, t6, t7, t8, t9, t10⟩ := id h
  generalize hP : OvL F G g T = P
  refine ok_go rfl (by decide) (Nat.le_of_ble_eq_true rfl) (R_X2_trialOverLimit_0 hsh ?_)
  unfold V_X2_trialOverLimit_0
  refine up_ind (α := Unit) 5 (fun z _ => 0 ≤ z ∧ z ≤ 6 ∧ ∀ z' : Int, 0 ≤ z' → z' < z → ¬ (¬ F (22 + 2 * Int.toNat z') 2 = 0 ∧ 0 < aR F (22 + 2 * Int.toNat z' + 1) T - aR F (22 + 2 * Int.toNat z' + 1) (vu F G 18 g) ∧ F (22 + 2 * Int.toNat z') 1 < aR F (22 + 2 * Int.toNat z' + 1) (vu F G 18 (-1)) + (aR F (22 + 2 * Int.toNat z' + 1) T - aR F (22 + 2 * Int.toNat z' + 1) (vu F G 18 g)))) (fun z _ => Go d MX2_trialOverLimit 2 [some (vR 2), some (vI g), some (vI z), none, none, none] [] S F G (fun r' S' F' G' => r' = some (vI (bC P)) ∧ S' = S ∧ F' = F ∧ G' = G)) ?_ ?_ 0 () ⟨by omega, by omega, fun z' a b => absurd b (by omega)⟩
  · intro z _ hI hz9 ih
    obtain ⟨z0, z1, no⟩ := hI
    obtain ⟨zr, zb, zt⟩ := hz z z0 (by omega)
    have next : ¬ (¬ F (22 + 2 * Int.toNat z) 2 = 0 ∧ 0 < aR F (22 + 2 * Int.toNat z + 1) T - aR F (22 + 2 * Int.toNat z + 1) (vu F G 18 g) ∧ F (22 + 2 * Int.toNat z) 1 < aR F (22 + 2 * Int.toNat z + 1) (vu F G 18 (-1)) + (aR F (22 + 2 * Int.toNat z + 1) T - aR F (22 + 2 * Int.toNat z + 1) (vu F G 18 g))) → ∀ x : Nat, V_X2_trialOverLimit_93 d S F G (fun r' S' F' G' => r' = some (vI (bC P)) ∧ S' = S ∧ F' = F ∧ G' = G) g z x := by
      intro nn x
      unfold V_X2_trialOverLimit_93
      refine ⟨by omega, ih () ⟨by omega, by omega, fun z' a b => ?_⟩⟩
      by_cases w : z' = z
      · rw [w]
        exact nn
      · exact no z' a (by omega)
    refine R_X2_trialOverLimit_2 hsh ?_
    unfold V_X2_trialOverLimit_2
    refine ⟨fun q => absurd q (by omega), fun _ => ⟨z0, by omega, fun x3 e3 => ⟨by rw [e3]; exact sh_zoneAt hsh z0 (by omega), fun q => next (fun w => w.1 (by rw [← e3]; exact q)) x3, fun q => ?_⟩⟩⟩
    subst e3
    obtain ⟨⟨r1, r2, r3, r4, r5, r6⟩, l0, l1⟩ := zt q
    have hR : AtRect S (22 + 2 * Int.toNat z + 1) := (sh_zoneAt hsh z0 (by omega)).2.2
    generalize hre : 22 + 2 * Int.toNat z + 1 = re at *
    have RIr : RI F re := ⟨r1, r3, r4, r6, by have := t1.1.2.2.2.1; omega, by have := t1.2.1.2.2.2.1; omega, by omega, by omega⟩
    have eT := tsum_aS h (x1 := F re 0) (y1 := F re 1) (x2 := F re 2) (y2 := F re 3) r1 r3 r4 r6
    have eg := csum_aS t1 18 g (x1 := F re 0) (y1 := F re 1) (x2 := F re 2) (y2 := F re 3) r1 r3 r4 r6
    have ea := csum_aS t1 18 (-1) (x1 := F re 0) (y1 := F re 1) (x2 := F re 2) (y2 := F re 3) r1 r3 r4 r6
    have w10 := t1.1.2.2.2.1
    have h10 := t1.2.1.2.2.2.1
    have T1 : aS T (F re 0) (F re 1) (F re 2) (F re 3) ≤ 3000000000000000000 := Int.le_trans (aS_mono (fun x y a b c e => (hT x y a (by omega) c (by omega)).1) r1 r4 (by omega) (by omega)) hTT
    have T0 : 0 ≤ aS T (F re 0) (F re 1) (F re 2) (F re 3) := aS_pos (fun x y a b c e => (hT x y (by omega) (by omega) (by omega) (by omega)).1)
    have p1 := pu_sumBy (d := d - 1) (off := 0) (pl := 19) hsh (by omega) (at_6 hsh) (at_13 hsh) (at_19 hsh) hR t2 t3 (by omega) (by rw [shc_n hsh 19 (by decide) (by decide)]; decide) (by omega) (fun i j a b c e => by rw [show 0 + 48 * j + i = 48 * j + i by omega]; exact tf i j a b c e) r1 (by omega) r4 (by omega) (by omega) (by omega) (by omega) (by omega) (Int.le_trans (Int.le_of_eq eT) (by omega))
    have p2 := pu_csumOf (d := d - 1) (by omega) hsh t1 hR hb ht (g := g) (by omega) hg2 RIr
    have p3 := pu_csumOf (d := d - 1) (by omega) hsh t1 hR hb ht (g := -1) (by omega) (by omega) RIr
    have b2 := csum_pos hb (g := g) (by omega) hg2 (F re 0) (F re 1) (F re 2) (F re 3)
    have b2' := csum_le hb ht hg hg2 r1 r4 r3 r6
    have b3 : csum F G 18 (-1) (F re 0) (F re 1) (F re 2) (F re 3) - csum F G 18 g (F re 0) (F re 1) (F re 2) (F re 3) ≤ 6000000000000000000 := by
      rw [csum_all]
      have c0 := csum_le hb ht (g := 0) (by omega) (by omega) r1 r4 r3 r6
      have c1 := csum_le hb ht (g := 1) (by omega) (by omega) r1 r4 r3 r6
      have c2 := csum_le hb ht (g := 2) (by omega) (by omega) r1 r4 r3 r6
      have : g = 0 ∨ g = 1 ∨ g = 2 := by omega
      rcases this with rfl | rfl | rfl <;> omega
    have b3' := csum_pos hb (g := -1) (by omega) (by omega) (F re 0) (F re 1) (F re 2) (F re 3)
    rw [show pS (G (6 + 1)) (G (13 + 1)) (F 6 1) (F 13 1) (fun i j => G 19 (0 + 48 * j + i)) (F re 0) (F re 1) (F re 2) (F re 3) = aS T (F re 0) (F re 1) (F re 2) (F re 3) from eT] at p1
    rw [eg] at p2 b2 b2' b3
    rw [ea] at p3 b3 b3'
    refine ⟨by omega, _, p1, _, p2, by omega, fun x19 e19 => ⟨fun q2 => next (fun w => ?_) _, fun q2 => ⟨_, p3, by omega, fun q3 => next (fun w => ?_) _, fun q3 => ⟨?_, rfl, rfl, rfl⟩⟩⟩⟩
    · have := w.2.1
      simp only [aR] at this
      omega
    · have := w.2.2
      simp only [aR] at this
      omega
    · rw [bC_t]
      rw [← hP]
      refine ⟨z, z0, by omega, q, ?_, ?_⟩
      · rw [hre]
        simp only [aR]
        omega
      · rw [hre]
        simp only [aR]
        omega
  · intro z _ hI hz9
    obtain ⟨z0, z1, no⟩ := hI
    refine R_X2_trialOverLimit_2 hsh ?_
    unfold V_X2_trialOverLimit_2
    refine ⟨fun _ => ⟨?_, rfl, rfl, rfl⟩, fun q => absurd q (by omega)⟩
    rw [bC_f]
    rw [← hP]
    rintro ⟨z', a, b, c⟩
    exact no z' a (by omega) c
