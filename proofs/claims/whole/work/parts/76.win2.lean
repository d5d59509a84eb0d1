/-! WINDOWS: rows between, what is ahead, the starts -/
theorem colB_cg {F : AF} {G G' : AG} (e18 : G' 18 = G 18) (e12 : G' 12 = G 12) (g a b i : Int) : colB F G' g a b i = colB F G g a b i := by
  unfold colB cu
  rw [e18, e12]
theorem colB_split {F : AF} {G : AG} {g a b i : Int} (a0 : 0 ≤ a) (ab : a ≤ b) : colB F G g 0 b i = colB F G g 0 a i + colB F G g a b i := by
  unfold colB
  rw [dS_split _ (m := a - 1) (by omega) (by omega), Int.sub_add_cancel]
theorem ok_sumColumnsBetween {d : Nat} {S : AS} {F : AF} {G : AG} (hd : 1 ≤ d) (hsh : ShC S) (hc : CC F G) (hb : PBA F G 18) (ht : CT F G 18) {g a b : Int} (hg : 0 ≤ g) (hg2 : g ≤ 2) (hA : Abv F G g) (a0 : 0 ≤ a) (ab : a ≤ b) (b1 : b ≤ F 11 2) {Q : AQ} (hq : ∀ G' : AG, (∀ c : Nat, c ≠ 40 → c ≠ 41 → G' c = G c) → Btw F G' g a b → Q none S F G') : Ok d MX7_sumColumnsBetween [vR 34, vI g, vI a, vI b] S F G Q := by
  obtain ⟨x1, x2, x3, x4, x5, x6, x7⟩ := id hc.1
  obtain ⟨y1, y2, y3, y4, y5, y6, y7⟩ := id hc.2.1
  have c4 := co_up hc.2.1 (m2 := 104) (by omega)
  have ca := cb_spec c4 (p := a) a0
  have cbb := cb_spec c4 (p := b) (by omega)
  have ga := co_in hc.2.1 (i := cb F G 11 a) ca.1 (by omega)
  have gb := co_in hc.2.1 (i := cb F G 11 b) cbb.1 (by omega)
  have la := ca.2.2.1
  have lb := cbb.2.2.1
  refine ok_go rfl (by decide) (Nat.le_of_ble_eq_true rfl) (R_X7_sumColumnsBetween_0 hsh ?_)
  unfold V_X7_sumColumnsBetween_0
  refine ⟨hd, _, pu_bandOf (at_11 hsh) c4 a0, _, pu_bandOf (at_11 hsh) c4 (by omega), ca.1, by omega, by show r32 (a - G (11 + 1) (cb F G 11 a)); omega, fun x17 e17 => ⟨cbb.1, by omega, by show r32 (b - G (11 + 1) (cb F G 11 b)); omega, fun x21 e21 => ?_⟩⟩
  have e17' : x17 = a - G (11 + 1) (cb F G 11 a) := e17
  have e21' : x21 = b - G (11 + 1) (cb F G 11 b) := e21
  refine up_ind (α := AG × Int) (F 4 1 - 1) (fun i A => 0 ≤ i ∧ i ≤ F 4 1 ∧ (∀ c : Nat, c ≠ 40 → c ≠ 41 → A.1 c = G c) ∧ (∀ k : Int, 0 ≤ k → k < i → A.1 40 k = colB F G g a b k ∧ A.1 41 k = sI (fun i => colB F G g a b i * WD (G 5) i) k) ∧ A.2 = sI (fun i => colB F G g a b i * WD (G 5) i) i ∧ 0 ≤ A.2 ∧ A.2 ≤ 3000000000000000000) (fun i A => Go d MX7_sumColumnsBetween 72 [some (vR 34), some (vI g), some (vI a), some (vI b), some (vR 4), some (vR 11), some (vI (cb F G 11 a)), some (vI (cb F G 11 b)), some (vJ x17), none, some (vJ x21), none, some (vJ A.2), none, some (vI i), none, none] [] S F A.1 Q) ?_ ?_ 0 (G, 0) ⟨by omega, by omega, fun _ _ _ => rfl, fun k _ z => absurd z (by omega), by rw [sI_0 _ (by omega)], by omega, by omega⟩
  · rintro i ⟨G1, t⟩ ⟨i0, i1, u1, u2, et, t0, t1⟩ hi ih
    dsimp only at u1 u2 et t0 t1 ⊢
    have iN : i < F 4 1 := by omega
    have g18 : G1 18 = G 18 := u1 18 (by decide) (by decide)
    have g39 : G1 39 = G 39 := u1 39 (by decide) (by decide)
    have g5 : G1 5 = G 5 := u1 5 (by decide) (by decide)
    have pa := hb i (cb F G 11 a) i0 iN ca.1 ca.2.1
    have pb := hb i (cb F G 11 b) i0 iN cbb.1 cbb.2.1
    have ma := cu_in pa (g := g) (by omega) hg2
    have mb := cu_in pb (g := g) (by omega) hg2
    have ec : ∀ j : Int, cu G1 18 g i j = cu G 18 g i j := fun j => by unfold cu; rw [g18]
    have qa := pu_unitsAt (d := d - 1) (S := S) (F := F) (G := G1) hsh (g := g) (i := i) (j := cb F G 11 a) (k := 48 * cb F G 11 a + i) (by unfold PB; rw [g18]; exact pa) (by omega) hg2 i0 (by omega) ca.1 (by omega) rfl
    have qb := pu_unitsAt (d := d - 1) (S := S) (F := F) (G := G1) hsh (g := g) (i := i) (j := cb F G 11 b) (k := 48 * cb F G 11 b + i) (by unfold PB; rw [g18]; exact pb) (by omega) hg2 i0 (by omega) cbb.1 (by omega) rfl
    rw [ec] at qa qb
    have Aa := hA i (cb F G 11 a) i0 iN ca.1 ca.2.1
    have Ab := hA i (cb F G 11 b) i0 iN cbb.1 cbb.2.1
    have pra := colB_pre hc g (t := a) (i := i) a0 (by omega)
    have prb := colB_pre hc g (t := b) (i := i) (by omega) b1
    rw [← Aa] at pra
    rw [← Ab] at prb
    have ia := colB_in hc hb (g := g) (a := 0) (b := a) (i := i) (by omega) hg2 (by omega) a0 (by omega) i0 iN
    have ib := colB_in hc hb (g := g) (a := 0) (b := b) (i := i) (by omega) hg2 (by omega) (by omega) b1 i0 iN
    have iab := colB_in hc hb (g := g) (a := a) (b := b) (i := i) (by omega) hg2 a0 ab b1 i0 iN
    have sp := colB_split (F := F) (G := G) (g := g) (i := i) a0 ab
    have cm1 : x17 * cu G 18 g i (cb F G 11 a) = cu G 18 g i (cb F G 11 a) * (a - G 12 (cb F G 11 a)) := by rw [e17, Int.mul_comm]
    have cm2 : x21 * cu G 18 g i (cb F G 11 b) = cu G 18 g i (cb F G 11 b) * (b - G 12 (cb F G 11 b)) := by rw [e21, Int.mul_comm]
    have mp1 := mul_bd (a := cu G 18 g i (cb F G 11 a)) (b := a - G 12 (cb F G 11 a)) (A := 1000000000000) (B := 10000) ma.1 ma.2 (by show 0 ≤ a - G (11 + 1) (cb F G 11 a); omega) (by show a - G (11 + 1) (cb F G 11 a) ≤ 10000; omega)
    have mp2 := mul_bd (a := cu G 18 g i (cb F G 11 b)) (b := b - G 12 (cb F G 11 b)) (A := 1000000000000) (B := 10000) mb.1 mb.2 (by show 0 ≤ b - G (11 + 1) (cb F G 11 b); omega) (by show b - G (11 + 1) (cb F G 11 b) ≤ 10000; omega)
    have f1 := co_in hc.1 (i := i) i0 (by omega)
    have f2 := co_in hc.1 (i := i + 1) (by omega) (by omega)
    have f3 := x7 i i0 iN
    -- all units of the rows in columns up to the end of this band
    have pr := pre_dS (sq_co hc.1) (fun i => colB F G g a b i) (t := G (4 + 1) (i + 1)) (b := i) f2.2 i0 iN (by omega) (Int.le_refl _)
    have pr' : sI (fun i => colB F G g a b i * WD (G 5) i) i + colB F G g a b i * (G 5 (i + 1) - G 5 i) = dS (fun x => colB F G g a b (blk (G 5) (F 4 1) x)) 0 (G 5 (i + 1) - 1) := pr
    rw [colB_sum] at pr'
    have bd := vu_le hc hb ht hg hg2 (x1 := 0) (y1 := a) (x2 := G 5 (i + 1) - 1) (y2 := b - 1) (by omega) (by show G (4 + 1) (i + 1) - 1 < F 4 2; omega) a0 (by omega)
    have mp3 := Int.mul_nonneg iab.1 (by show 0 ≤ G (4 + 1) (i + 1) - G (4 + 1) i; omega : (0 : Int) ≤ G 5 (i + 1) - G 5 i)
    refine R_X7_sumColumnsBetween_72 hsh (at_4 hsh) (at_11 hsh) ?_
    unfold V_X7_sumColumnsBetween_72
    refine ⟨fun z => absurd z (by omega), fun _ => ⟨by omega, by omega, fun X3 E3 => ⟨by omega, by omega, fun X6 E6 => ?_⟩⟩⟩
    subst E3 E6
    rw [g39]
    refine ⟨by omega, by omega, hd, _, qb, ?_⟩
    rw [cm2]
    refine ⟨by omega, by omega, by omega, by omega, by omega, _, qa, ?_⟩
    rw [cm1]
    have val : G 39 (48 * cb F G 11 b + i) + cu G 18 g i (cb F G 11 b) * (b - G 12 (cb F G 11 b)) - G 39 (48 * cb F G 11 a + i) - cu G 18 g i (cb F G 11 a) * (a - G 12 (cb F G 11 a)) = colB F G g a b i := by omega
    rw [val]
    refine ⟨by omega, by omega, i0, by omega, fun G31 e31 G32 e32 => ?_⟩
    have v40 : G32 40 i = colB F G g a b i := by rw [e32, gu_c (by decide), e31, gu_s]
    have v41 : G32 41 i = t := by rw [e32, gu_s]
    have w5 : G32 5 = G 5 := by rw [e32, gu_row (by decide), e31, gu_row (by decide)]; exact g5
    have pw := pu_widthOf (d := d - 1) (S := S) (F := F) (G := G32) (at_4 hsh) (co_cg rfl w5 (co_up hc.1 (by omega))) (i := i) i0 iN
    have ew : G32 (4 + 1) (i + 1) - G32 (4 + 1) i = G 5 (i + 1) - G 5 i := by show G32 5 (i + 1) - G32 5 i = _; rw [w5]
    rw [ew] at pw
    rw [v40]
    have s1 := sI_1 (fun i => colB F G g a b i * WD (G 5) i) i0
    have wd : WD (G 5) i = G 5 (i + 1) - G 5 i := rfl
    rw [wd] at s1
    refine ⟨_, pw, by omega, by omega, fun x41 e41 => ⟨by omega, ih (G32, x41) ⟨by omega, by omega, fun c c40 c41 => ?_, fun k k0 k1 => ?_, by show x41 = _; rw [s1]; omega, by show 0 ≤ x41; omega, by show x41 ≤ _; omega⟩⟩⟩
    · show G32 c = G c
      rw [e32, gu_row c41, e31, gu_row c40]; exact u1 c c40 c41
    · show G32 40 k = _ ∧ G32 41 k = _
      by_cases z : k = i
      · rw [z, v40, v41]; exact ⟨rfl, et⟩
      · have := u2 k k0 (by omega)
        rw [e32, gu_c (by decide), gu_i z, e31, gu_i z, gu_c (by decide)]; exact this
  · rintro i ⟨G1, t⟩ ⟨i0, i1, u1, u2, et, t0, t1⟩ hi
    dsimp only at u1 u2 et t0 t1 ⊢
    refine R_X7_sumColumnsBetween_72 hsh (at_4 hsh) (at_11 hsh) ?_
    unfold V_X7_sumColumnsBetween_72
    refine ⟨fun _ => hq G1 u1 (fun k k0 k1 => ?_), fun z => absurd z (by omega)⟩
    have := u2 k k0 (by omega)
    have g18 : G1 18 = G 18 := u1 18 (by decide) (by decide)
    have g12 : G1 12 = G 12 := u1 12 (by decide) (by decide)
    have g5 : G1 5 = G 5 := u1 5 (by decide) (by decide)
    rw [colB_cg g18 g12, g5]
    refine ⟨this.1, this.2.trans (sI_congr (fun j _ _ => by rw [colB_cg g18 g12]))⟩
theorem pu_unitsAhead {d : Nat} {S : AS} {F : AF} {G : AG} (hd : 1 ≤ d) (hsh : ShC S) (hc : CC F G) (hb : PBA F G 18) (ht : CT F G 18) {g a b p : Int} (hg : 0 ≤ g) (hg2 : g ≤ 2) (hB : Btw F G g a b) (a0 : 0 ≤ a) (ab : a ≤ b) (b1 : b ≤ F 11 2) (p0 : 0 ≤ p) (p1 : p ≤ F 4 2) : Pu d MX7_unitsAhead [vR 34, vI p] S F G (some (vJ (aS (vu F G 18 g) 0 a (p - 1) (b - 1)))) := by
  obtain ⟨x1, x2, x3, x4, x5, x6, x7⟩ := id hc.1
  have c4 := co_up hc.1 (m2 := 104) (by omega)
  have c := cb_spec c4 (p := p) p0
  have gi := co_in hc.1 (i := cb F G 4 p) c.1 (by omega)
  have lc := c.2.2.1
  have le1 : p ≤ G (4 + 1) (cb F G 4 p + 1) := by
    by_cases w : p < F 4 2
    · exact Int.le_of_lt (c.2.2.2 w)
    · have e2 : cb F G 4 p = F 4 1 - 1 := if_neg w
      have e3 : F 4 1 - 1 + 1 = F 4 1 := by omega
      rw [e2, e3]
      omega
  have pr := pre_dS (sq_co hc.1) (fun i => colB F G g a b i) (t := p) (b := cb F G 4 p) p1 c.1 c.2.1 lc le1
  have pr' : sI (fun i => colB F G g a b i * WD (G 5) i) (cb F G 4 p) + colB F G g a b (cb F G 4 p) * (p - G 5 (cb F G 4 p)) = dS (fun x => colB F G g a b (blk (G 5) (F 4 1) x)) 0 (p - 1) := pr
  rw [colB_sum] at pr'
  have bd := vu_le hc hb ht hg hg2 (x1 := 0) (y1 := a) (x2 := p - 1) (y2 := b - 1) (by omega) (by omega) a0 (by omega)
  have iab := colB_in hc hb (g := g) (a := a) (b := b) (i := cb F G 4 p) (by omega) hg2 a0 ab b1 c.1 c.2.1
  have mp := mul_bd (a := colB F G g a b (cb F G 4 p)) (b := p - G 5 (cb F G 4 p)) (A := 10000000000000000) (B := 10000) iab.1 iab.2 (by show 0 ≤ p - G (4 + 1) (cb F G 4 p); omega) (by show p - G (4 + 1) (cb F G 4 p) ≤ 10000; omega)
  have bq := hB (cb F G 4 p) c.1 c.2.1
  have s0 : 0 ≤ sI (fun i => colB F G g a b i * WD (G 5) i) (cb F G 4 p) := sI_pos (fun i i0 i1 => Int.mul_nonneg (colB_in hc hb (by omega) hg2 a0 ab b1 i0 (by omega)).1 (by have := x7 i i0 (by omega); show 0 ≤ G (4 + 1) (i + 1) - G (4 + 1) i; omega))
  refine ok_go rfl (by decide) (Nat.le_of_ble_eq_true rfl) (R_X7_unitsAhead_0 hsh ?_)
  unfold V_X7_unitsAhead_0
  refine ⟨hd, _, pu_bandOf (at_4 hsh) c4 p0, c.1, by omega, by omega, by show r32 (p - G (4 + 1) (cb F G 4 p)); omega, ?_⟩
  rw [bq.1, bq.2]
  refine ⟨by omega, by omega, ?_, rfl, rfl, rfl⟩
  rw [pr']
/-- where a window can begin -/
def Stt (F : AF) (G : AG) (o : Nat) (sz q : Int) : Prop := q = F o 2 - sz ∨ ∃ c : Int, isC F G o c ∧ ((c < F o 2 - sz ∧ q = c) ∨ (sz ≤ c ∧ q = c - sz))
theorem stt_in {F : AF} {G : AG} {o : Nat} {sz q : Int} (h : CO F G o 48) (z0 : 1 ≤ sz) (z1 : sz ≤ F o 2) (hs : Stt F G o sz q) : 0 ≤ q ∧ q ≤ F o 2 - sz := by
  rcases hs with rfl | ⟨c, ⟨i, i0, i1, ie⟩, (⟨h1, h2⟩ | ⟨h1, h2⟩)⟩
  · omega
  · have := co_lt h i0 i1
    omega
  · have := co_lt h i0 i1
    omega
theorem ok_gatherStarts {d : Nat} {S : AS} {F : AF} {G : AG} {o ar : Nat} (hsh : ShC S) (hk : AtCuts S o) (ha : AtI S ar) (hn : (sN S ar : Int) = 97) (hne : ar ≠ o + 1) (h : CO F G o 48) {sz : Int} (z0 : 1 ≤ sz) (z1 : sz ≤ F o 2) {Q : AQ} (hq : ∀ (G' : AG) (m : Int), (∀ c : Nat, c ≠ ar → G' c = G c) → 1 ≤ m → m ≤ 97 → (∀ q : Int, isB (G' ar) m q ↔ Stt F G o sz q) → Q (some (vI m)) S F G') : Ok d MX7_gatherStarts [vR o, vI sz, vR ar] S F G Q := by
  obtain ⟨c1, c2, c3, c4, c5, c6, c7⟩ := id h
  refine ok_go rfl (by decide) (Nat.le_of_ble_eq_true rfl) (R_X7_gatherStarts_0 hsh hk ha ?_)
  unfold V_X7_gatherStarts_0
  rw [hn]
  refine ⟨by omega, fun L eL => ⟨by omega, fun G4 e4 => ?_⟩⟩
  refine up_ind (α := AG × Int) (F o 1 - 1) (fun i A => 0 ≤ i ∧ i ≤ F o 1 ∧ (∀ c : Nat, c ≠ ar → A.1 c = G c) ∧ 1 ≤ A.2 ∧ A.2 ≤ 1 + 2 * i ∧ ∀ q : Int, isB (A.1 ar) A.2 q ↔ (q = L ∨ ∃ k : Int, 0 ≤ k ∧ k < i ∧ ((G (o + 1) k < L ∧ q = G (o + 1) k) ∨ (sz ≤ G (o + 1) k ∧ q = G (o + 1) k - sz)))) (fun i A => Go d MX7_gatherStarts 17 [some (vR o), some (vI sz), some (vR ar), some (vI L), some (vI A.2), some (vI i)] [] S F A.1 Q) ?_ ?_ 0 (G4, 1) ⟨by omega, by omega, fun c hc => by show G4 c = G c; rw [e4, gu_row hc], by omega, by omega, fun q => ?_⟩
  · rintro i ⟨G1, m⟩ ⟨i0, i1, u1, m0, m1, u2⟩ hi ih
    dsimp only at u1 m0 m1 u2 ⊢
    have go1 : G1 (o + 1) = G (o + 1) := u1 _ (Ne.symm hne)
    have bi := co_lt h i0 (by omega : i < F o 1)
    -- one more start
    have add' : ∀ (G2 : AG) (m2 v : Int) (G3 : AG) (P : Int → Prop), (∀ q : Int, isB (G2 ar) m2 q ↔ P q) → 1 ≤ m2 → G3 = gu G2 ar m2 v → ∀ q : Int, isB (G3 ar) (m2 + 1) q ↔ (P q ∨ q = v) := by
      intro G2 m2 v G3 P hP hm e3 q
      rw [← hP q]
      constructor
      · rintro ⟨k, k0, k1, ke⟩
        by_cases w : k = m2
        · rw [e3, w, gu_s] at ke
          exact Or.inr ke.symm
        · rw [e3, gu_i w] at ke
          exact Or.inl ⟨k, k0, by omega, ke⟩
      · rintro (⟨k, k0, k1, ke⟩ | z)
        · exact ⟨k, k0, by omega, by rw [e3, gu_i (by omega)]; exact ke⟩
        · exact ⟨m2, by omega, by omega, by rw [e3, gu_s, z]⟩
    have fin : ∀ (G2 : AG) (m2 : Int), (∀ c : Nat, c ≠ ar → G2 c = G c) → 1 ≤ m2 → m2 ≤ 2 + 2 * i → (∀ q : Int, isB (G2 ar) m2 q ↔ ((q = L ∨ ∃ k : Int, 0 ≤ k ∧ k < i ∧ ((G (o + 1) k < L ∧ q = G (o + 1) k) ∨ (sz ≤ G (o + 1) k ∧ q = G (o + 1) k - sz))) ∨ (G (o + 1) i < L ∧ q = G (o + 1) i))) → V_X7_gatherStarts_60 d S F G2 Q o sz ar L m2 i := by
      intro G2 m2 v1 v2 v3 v4
      have go2 : G2 (o + 1) = G (o + 1) := v1 _ (Ne.symm hne)
      unfold V_X7_gatherStarts_60
      rw [go2, hn]
      refine ⟨i0, by omega, fun y => ?_, fun y => ⟨by omega, by omega, by omega, fun G6 e6 => ⟨by omega, ?_⟩⟩⟩
      · unfold V_X7_gatherStarts_87
        refine ⟨by omega, ih (G2, m2) ⟨by omega, by omega, v1, v2, by show m2 ≤ _; omega, fun q => ?_⟩⟩
        show isB (G2 ar) m2 q ↔ _
        rw [v4 q]
        constructor
        · rintro ((z | ⟨k, k0, k1, k2⟩) | z)
          · exact Or.inl z
          · exact Or.inr ⟨k, k0, by omega, k2⟩
          · exact Or.inr ⟨i, i0, by omega, Or.inl z⟩
        · rintro (z | ⟨k, k0, k1, k2⟩)
          · exact Or.inl (Or.inl z)
          · by_cases w : k = i
            · subst w
              rcases k2 with k2 | k2
              · exact Or.inr k2
              · omega
            · exact Or.inl (Or.inr ⟨k, k0, by omega, k2⟩)
      · unfold V_X7_gatherStarts_87
        refine ⟨by omega, ih (G6, m2 + 1) ⟨by omega, by omega, fun c hc => by show G6 c = G c; rw [e6, gu_row hc]; exact v1 c hc, by show 1 ≤ m2 + 1; omega, by show m2 + 1 ≤ _; omega, fun q => ?_⟩⟩
        show isB (G6 ar) (m2 + 1) q ↔ _
        rw [add' G2 m2 _ G6 _ v4 v2 e6 q]
        constructor
        · rintro (((z | ⟨k, k0, k1, k2⟩) | z) | z)
          · exact Or.inl z
          · exact Or.inr ⟨k, k0, by omega, k2⟩
          · exact Or.inr ⟨i, i0, by omega, Or.inl z⟩
          · exact Or.inr ⟨i, i0, by omega, Or.inr ⟨by omega, z⟩⟩
        · rintro (z | ⟨k, k0, k1, k2⟩)
          · exact Or.inl (Or.inl (Or.inl z))
          · by_cases w : k = i
            · subst w
              rcases k2 with k2 | k2
              · exact Or.inl (Or.inr k2)
              · exact Or.inr k2.2
            · exact Or.inl (Or.inl (Or.inr ⟨k, k0, by omega, k2⟩))
    refine R_X7_gatherStarts_17 hsh hk ha ?_
    unfold V_X7_gatherStarts_17
    rw [go1, hn]
    refine ⟨fun y => absurd y (by omega), fun _ => ⟨by omega, fun y => absurd y (by omega), fun _ => ⟨i0, by omega, fun y => fin G1 m u1 m0 (by omega) (fun q => ?_), fun y => ⟨by omega, by omega, fun G6 e6 => fin G6 (m + 1) (fun c hc => by rw [e6, gu_row hc]; exact u1 c hc) (by omega) (by omega) (fun q => ?_)⟩⟩⟩⟩
    · rw [u2 q]
      exact ⟨Or.inl, fun z => z.elim id (fun z => absurd z.1 (by omega))⟩
    · rw [add' G1 m _ G6 _ u2 m0 e6 q]
      constructor
      · rintro (z | z)
        · exact Or.inl z
        · exact Or.inr ⟨by omega, z⟩
      · rintro (z | z)
        · exact Or.inl z
        · exact Or.inr z.2
  · rintro i ⟨G1, m⟩ ⟨i0, i1, u1, m0, m1, u2⟩ hi
    dsimp only at u1 m0 m1 u2 ⊢
    refine R_X7_gatherStarts_17 hsh hk ha ?_
    unfold V_X7_gatherStarts_17
    refine ⟨fun _ => hq G1 m u1 m0 (by omega) (fun q => ?_), fun y => absurd y (by omega)⟩
    rw [u2 q]
    unfold Stt
    rw [← eL]
    constructor
    · rintro (z | ⟨k, k0, k1, k2⟩)
      · exact Or.inl z
      · exact Or.inr ⟨_, ⟨k, k0, by omega, rfl⟩, k2⟩
    · rintro (z | ⟨c, ⟨k, k0, k1, ke⟩, k2⟩)
      · exact Or.inl z
      · subst ke
        exact Or.inr ⟨k, k0, by omega, k2⟩
  · show isB (G4 ar) 1 q ↔ _
    constructor
    · rintro ⟨k, k0, k1, ke⟩
      have : k = 0 := by omega
      rw [e4, this, gu_s] at ke
      exact Or.inl ke.symm
    · rintro (z | ⟨k, k0, k1, -⟩)
      · exact ⟨0, by omega, by omega, by rw [e4, gu_s, z]⟩
      · omega
