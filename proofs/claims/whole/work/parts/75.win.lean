/-! WINDOWS: sums of columns -/
theorem dS_swap (f : Int → Int → Int) (a b c d : Int) : dS (fun x => dS (fun y => f x y) c d) a b = dS (fun y => dS (fun x => f x y) a b) c d := by
  refine dS_ind (P := fun b => dS (fun x => dS (fun y => f x y) c d) a b = dS (fun y => dS (fun x => f x y) a b) c d) (a := a) (fun b hb => ?_) (fun b hb h => ?_) b
  · rw [dS_0 _ hb]
    have : dS (fun y => dS (fun x => f x y) a b) c d = dS (fun _ => 0) c d := dS_congr (fun y _ _ => dS_0 _ hb)
    rw [this, dS_z]
  · rw [dS_1 _ hb, h, ← dS_add]
    exact dS_congr (fun y _ _ => (dS_1 _ hb).symm)
theorem pre_dS {e : Int → Int} {n w : Int} (s : Sq e n w) (u : Int → Int) {t b : Int} (t1 : t ≤ w) (b0 : 0 ≤ b) (b1 : b < n) (h1 : e b ≤ t) (h2 : t ≤ e (b + 1)) : sI (fun i => u i * WD e i) b + u b * (t - e b) = dS (fun x => u (blk e n x)) 0 (t - 1) := by
  have e0 : 0 ≤ e b := by
    have := rise_le s.2.2.2 (i := 0) (j := b) (by omega) b0 (by omega)
    rw [s.2.1] at this
    exact this
  have e1 : sI (fun i => u i * ov (e i) (e (i + 1)) 0 (t - 1)) n = sI (fun i => u i * ov (e i) (e (i + 1)) 0 (t - 1)) (b + 1) := by
    refine sI_end (by omega) (by omega) (fun i i0 i1 => ?_)
    have r1 := rise_le s.2.2.2 (i := b + 1) (j := i) (by omega) (by omega) (by omega)
    show u i * ov (e i) (e (i + 1)) 0 (t - 1) = 0
    unfold ov
    rw [if_pos (by omega), Int.mul_zero]
  rw [← sI_dS s u (by omega : (0 : Int) ≤ 0) (t - 1) (by omega), e1, sI_1 _ b0]
  congr 1
  · refine sI_congr (fun i i0 i1 => ?_)
    have r1 := rise_le s.2.2.2 (i := i + 1) (j := b) (by omega) (by omega) (by omega)
    have r2 := s.2.2.2 i i0 (by omega)
    have r3 := rise_le s.2.2.2 (i := 0) (j := i) (by omega) (by omega) (by omega)
    rw [s.2.1] at r3
    congr 1
    unfold ov WD
    rw [if_neg (by omega)]
    omega
  · show u b * (t - e b) = u b * ov (e b) (e (b + 1)) 0 (t - 1)
    congr 1
    unfold ov
    by_cases c : t = e b
    · rw [if_pos (by omega)]; omega
    · rw [if_neg (by omega)]; omega
/-- of a column of band i what is in rows from a on ahead of b -/
noncomputable def colB (F : AF) (G : AG) (g a b i : Int) : Int := dS (fun y => cu G 18 g i (blk (G 12) (F 11 1) y)) a (b - 1)
theorem colB_in {F : AF} {G : AG} (hc : CC F G) (hb : PBA F G 18) {g a b i : Int} (hg : -1 ≤ g) (hg2 : g ≤ 2) (a0 : 0 ≤ a) (ab : a ≤ b) (b1 : b ≤ F 11 2) (i0 : 0 ≤ i) (i1 : i < F 4 1) : 0 ≤ colB F G g a b i ∧ colB F G g a b i ≤ 10000000000000000 := by
  have s := sq_co hc.2.1
  have h10 := hc.2.1.2.2.2.1
  have q : ∀ y : Int, a ≤ y → y ≤ b - 1 → 0 ≤ cu G 18 g i (blk (G 12) (F 11 1) y) ∧ cu G 18 g i (blk (G 12) (F 11 1) y) ≤ 1000000000000 := fun y y0 y1 => by
    have := bl_spec s (x := y) (by omega) (by omega)
    exact cu_in (hb i _ i0 i1 this.1 this.2.1) hg hg2
  refine ⟨dS_pos (fun y y0 y1 => (q y y0 y1).1), ?_⟩
  have h1 : colB F G g a b i ≤ dS (fun _ => 1000000000000) a (b - 1) := dS_le (fun y y0 y1 => (q y y0 y1).2)
  rw [dS_const _ (by omega)] at h1
  omega
theorem colB_sum {F : AF} {G : AG} {g a b x1 x2 : Int} : dS (fun x => colB F G g a b (blk (G 5) (F 4 1) x)) x1 x2 = aS (vu F G 18 g) x1 a x2 (b - 1) := dS_swap (fun x y => cu G 18 g (blk (G 5) (F 4 1) x) (blk (G 12) (F 11 1) y)) x1 x2 a (b - 1)
theorem vu_le {F : AF} {G : AG} (hc : CC F G) (hb : PBA F G 18) (ht : CT F G 18) {g x1 y1 x2 y2 : Int} (hg : 0 ≤ g) (hg2 : g ≤ 2) (a0 : 0 ≤ x1) (a1 : x2 < F 4 2) (b0 : 0 ≤ y1) (b1 : y2 < F 11 2) : 0 ≤ aS (vu F G 18 g) x1 y1 x2 y2 ∧ aS (vu F G 18 g) x1 y1 x2 y2 ≤ 3000000000000000000 := by
  rw [← csum_aS hc 18 g a0 a1 b0 b1]
  exact ⟨csum_pos hb (by omega) hg2 _ _ _ _, csum_le hb ht hg hg2 a0 b0 a1 b1⟩
def Abv (F : AF) (G : AG) (g : Int) : Prop := ∀ i j : Int, 0 ≤ i → i < F 4 1 → 0 ≤ j → j < F 11 1 → G 39 (48 * j + i) = sI (fun j => cu G 18 g i j * WD (G 12) j) j
theorem ok_sumColumnsAbove {d : Nat} {S : AS} {F : AF} {G : AG} (hd : 1 ≤ d) (hsh : ShC S) (hc : CC F G) (hb : PBA F G 18) {g : Int} (hg : -1 ≤ g) (hg2 : g ≤ 2) {Q : AQ} (hq : ∀ G' : AG, (∀ c : Nat, c ≠ 39 → G' c = G c) → Abv F G' g → Q none S F G') : Ok d MX7_sumColumnsAbove [vR 34, vI g] S F G Q := by
  obtain ⟨x1, x2, x3, x4, x5, x6, x7⟩ := id hc.1
  obtain ⟨y1, y2, y3, y4, y5, y6, y7⟩ := id hc.2.1
  refine ok_go rfl (by decide) (Nat.le_of_ble_eq_true rfl) (R_X7_sumColumnsAbove_0 hsh ?_)
  unfold V_X7_sumColumnsAbove_0
  refine up_ind (α := AG) (F 4 1 - 1) (fun i G1 => 0 ≤ i ∧ i ≤ F 4 1 ∧ Upd G G1 39 0 (fun a b => a < i ∧ b < F 11 1) (fun a b => sI (fun j => cu G 18 g a j * WD (G 12) j) b)) (fun i G1 => Go d MX7_sumColumnsAbove 25 [some (vR 34), some (vI g), some (vR 4), some (vR 11), some (vI i), none, none, none, none] [] S F G1 Q) ?_ ?_ 0 G ⟨by omega, by omega, upd_0 (fun i j i0 _ _ _ z => by omega)⟩
  · rintro i G1 ⟨i0, i1, u⟩ hi ih
    refine R_X7_sumColumnsAbove_25 hsh (at_4 hsh) (at_11 hsh) ?_
    unfold V_X7_sumColumnsAbove_25
    refine ⟨fun z => absurd z (by omega), fun _ => ?_⟩
    refine up_ind (α := AG × Int) (F 11 1 - 1) (fun j A => 0 ≤ j ∧ j ≤ F 11 1 ∧ Upd G A.1 39 0 (fun a b => (a < i ∧ b < F 11 1) ∨ (a = i ∧ b < j)) (fun a b => sI (fun j => cu G 18 g a j * WD (G 12) j) b) ∧ A.2 = sI (fun j => cu G 18 g i j * WD (G 12) j) j ∧ 0 ≤ A.2 ∧ A.2 ≤ 10000000000000000 * j) (fun j A => Go d MX7_sumColumnsAbove 40 [some (vR 34), some (vI g), some (vR 4), some (vR 11), some (vI i), some (vJ A.2), none, some (vI j), none] [] S F A.1 Q) ?_ ?_ 0 (G1, 0) ⟨by omega, by omega, upd_c u (fun a b _ _ _ _ => by constructor <;> (intro z; omega)), by rw [sI_0 _ (by omega)], by omega, by omega⟩
    · rintro j ⟨G2, t⟩ ⟨j0, j1, u2, et, t0, t1⟩ hj ih2
      dsimp only at u2 et t0 t1 ⊢
      have pb := hb i j i0 (by omega) j0 (by omega)
      have m := cu_in pb (g := g) hg hg2
      have f1 := co_in hc.2.1 (i := j) j0 (by omega)
      have f2 := co_in hc.2.1 (i := j + 1) (by omega) (by omega)
      have f3 := y7 j j0 (by omega)
      have mm := mul_bd (a := cu G 18 g i j) (b := G 12 (j + 1) - G 12 j) (A := 1000000000000) (B := 10000) m.1 m.2 (by show 0 ≤ G (11 + 1) (j + 1) - G (11 + 1) j; omega) (by show G (11 + 1) (j + 1) - G (11 + 1) j ≤ 10000; omega)
      refine R_X7_sumColumnsAbove_40 hsh (at_4 hsh) (at_11 hsh) ?_
      unfold V_X7_sumColumnsAbove_40
      refine ⟨fun z => absurd z (by omega), fun _ => ⟨by omega, by omega, fun x ex => ⟨by omega, by omega, fun G7 e7 => ?_⟩⟩⟩
      have u7 : Upd G G7 39 0 (fun a b => (a < i ∧ b < F 11 1) ∨ (a = i ∧ b < j + 1)) (fun a b => sI (fun j => cu G 18 g a j * WD (G 12) j) b) := upd_s (i := i) (j := j) u2 i0 (by omega) j0 (by omega) (by rw [e7, et]) (by omega) (fun a b => by constructor <;> (intro z; omega))
      have g18 : G7 18 = G 18 := u7.1 18 (by decide)
      have g12 : G7 12 = G 12 := u7.1 12 (by decide)
      have ec : cu G7 18 g i j = cu G 18 g i j := by unfold cu; rw [g18]
      have pu1 := pu_unitsAt (d := d - 1) (S := S) (F := F) (G := G7) hsh (g := g) (i := i) (j := j) (k := x) (by unfold PB; rw [g18]; exact pb) hg hg2 i0 (by omega) j0 (by omega) ex
      have pu2 := pu_widthOf (d := d - 1) (S := S) (F := F) (G := G7) (at_11 hsh) (co_cg rfl g12 (co_up hc.2.1 (by omega))) (i := j) j0 (by omega)
      rw [ec] at pu1
      have ew : G7 (11 + 1) (j + 1) - G7 (11 + 1) j = G 12 (j + 1) - G 12 j := by show G7 12 (j + 1) - G7 12 j = _; rw [g12]
      rw [ew] at pu2
      have sj := sI_1 (fun j => cu G 18 g i j * WD (G 12) j) j0
      refine ⟨hd, _, pu1, _, pu2, by omega, by omega, fun x23 e23 => ⟨by omega, ih2 (G7, x23) ⟨by omega, by omega, u7, ?_, by show 0 ≤ x23; omega, by show x23 ≤ _; omega⟩⟩⟩
      show x23 = _
      rw [sj, e23, et]
      rfl
    · rintro j ⟨G2, t⟩ ⟨j0, j1, u2, et, t0, t1⟩ hj
      dsimp only at u2 et t0 t1 ⊢
      refine R_X7_sumColumnsAbove_40 hsh (at_4 hsh) (at_11 hsh) ?_
      unfold V_X7_sumColumnsAbove_40
      exact ⟨fun _ => ⟨by omega, ih G2 ⟨by omega, by omega, upd_c u2 (fun a b _ _ _ _ => by constructor <;> (intro z; omega))⟩⟩, fun z => absurd z (by omega)⟩
  · rintro i G1 ⟨i0, i1, u⟩ hi
    refine R_X7_sumColumnsAbove_25 hsh (at_4 hsh) (at_11 hsh) ?_
    unfold V_X7_sumColumnsAbove_25
    refine ⟨fun _ => hq G1 u.1 (fun a b a0 a1 b0 b1 => ?_), fun z => absurd z (by omega)⟩
    have := (u.2.1 a b a0 (by omega) b0 (by omega)).1 ⟨by omega, by omega⟩
    rw [Int.zero_add] at this
    rw [this]
    have g18 : G1 18 = G 18 := u.1 18 (by decide)
    have g12 : G1 12 = G 12 := u.1 12 (by decide)
    unfold cu
    rw [g18, g12]
def Btw (F : AF) (G : AG) (g a b : Int) : Prop := ∀ i : Int, 0 ≤ i → i < F 4 1 → G 40 i = colB F G g a b i ∧ G 41 i = sI (fun i => colB F G g a b i * WD (G 5) i) i
theorem colB_pre {F : AF} {G : AG} (hc : CC F G) (g : Int) {t i : Int} (t0 : 0 ≤ t) (t1 : t ≤ F 11 2) : sI (fun j => cu G 18 g i j * WD (G 12) j) (cb F G 11 t) + cu G 18 g i (cb F G 11 t) * (t - G 12 (cb F G 11 t)) = colB F G g 0 t i := by
  have c := cb_spec (co_up hc.2.1 (m2 := 104) (by omega)) (p := t) t0
  refine pre_dS (sq_co hc.2.1) (fun j => cu G 18 g i j) t1 c.1 c.2.1 c.2.2.1 ?_
  by_cases w : t < F 11 2
  · have := c.2.2.2 w
    exact Int.le_of_lt this
  · have e1 : t = F 11 2 := by omega
    have e2 : cb F G 11 t = F 11 1 - 1 := if_neg w
    have e3 : F 11 1 - 1 + 1 = F 11 1 := by omega
    rw [e2, e3]
    have := hc.2.1.2.2.2.2.2.1
    show t ≤ G (11 + 1) (F 11 1)
    omega
