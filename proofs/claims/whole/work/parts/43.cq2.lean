/-! SUMS OF PLANES -/
theorem pS_congr {e e1 : Int → Int} {n n1 : Int} {u v : Int → Int → Int} (h : ∀ i j : Int, 0 ≤ i → i < n → 0 ≤ j → j < n1 → u i j = v i j) (x1 y1 x2 y2 : Int) : pS e e1 n n1 u x1 y1 x2 y2 = pS e e1 n n1 v x1 y1 x2 y2 := by
  simp only [pS]
  refine sI_congr (fun j j0 j1 => ?_)
  simp only [pY, pR]
  rw [sI_congr (g := pX e (fun i => v i j) x1 x2)]
  intro i i0 i1
  simp only [pX]
  rw [h i j i0 i1 j0 j1]
theorem pS_add {e e1 : Int → Int} {n n1 : Int} (u v : Int → Int → Int) (x1 y1 x2 y2 : Int) : pS e e1 n n1 (fun i j => u i j + v i j) x1 y1 x2 y2 = pS e e1 n n1 u x1 y1 x2 y2 + pS e e1 n n1 v x1 y1 x2 y2 := by
  simp only [pS]
  rw [← sI_add]
  refine sI_congr (fun j j0 j1 => ?_)
  simp only [pY, pR]
  rw [← Int.add_mul, ← sI_add]
  congr 1
  refine sI_congr (fun i i0 i1 => ?_)
  simp only [pX, Int.add_mul]
theorem ov_mono {lo hi a b a2 b2 : Int} (h1 : a2 ≤ a) (h2 : b ≤ b2) : ov lo hi a b ≤ ov lo hi a2 b2 := by
  simp only [ov]
  split <;> split <;> omega
theorem pS_pos {e e1 : Int → Int} {n n1 : Int} {u : Int → Int → Int} (h : ∀ i j : Int, 0 ≤ i → i < n → 0 ≤ j → j < n1 → 0 ≤ u i j) (x1 y1 x2 y2 : Int) : 0 ≤ pS e e1 n n1 u x1 y1 x2 y2 :=
  sI_pos (fun j j0 j1 => Int.mul_nonneg (sI_pos (fun i i0 i1 => Int.mul_nonneg (h i j i0 i1 j0 j1) (ov_pos _ _ _ _))) (ov_pos _ _ _ _))
theorem pS_mono {e e1 : Int → Int} {n n1 : Int} {u : Int → Int → Int} (h : ∀ i j : Int, 0 ≤ i → i < n → 0 ≤ j → j < n1 → 0 ≤ u i j) {x1 y1 x2 y2 a1 b1 a2 b2 : Int} (h1 : a1 ≤ x1) (h2 : b1 ≤ y1) (h3 : x2 ≤ a2) (h4 : y2 ≤ b2) : pS e e1 n n1 u x1 y1 x2 y2 ≤ pS e e1 n n1 u a1 b1 a2 b2 := by
  refine sI_le (fun j j0 j1 => ?_)
  simp only [pY, pR]
  refine Int.mul_le_mul (sI_le (fun i i0 i1 => ?_)) (ov_mono h2 h4) (ov_pos _ _ _ _) (sI_pos (fun i i0 i1 => Int.mul_nonneg (h i j i0 i1 j0 j1) (ov_pos _ _ _ _)))
  exact Int.mul_le_mul_of_nonneg_left (ov_mono h1 h3) (h i j i0 i1 j0 j1)
/-- units of a plane in a rectangle -/
def csum (F : AF) (G : AG) (p : Nat) (g x1 y1 x2 y2 : Int) : Int := pS (G 5) (G 12) (F 4 1) (F 11 1) (cu G p g) x1 y1 x2 y2
def CT (F : AF) (G : AG) (p : Nat) : Prop := ∀ g : Int, 0 ≤ g → g ≤ 2 → csum F G p g 0 0 (F 4 2 - 1) (F 11 2 - 1) ≤ 3000000000000000000
theorem csum_all {F : AF} {G : AG} {p : Nat} (x1 y1 x2 y2 : Int) : csum F G p (-1) x1 y1 x2 y2 = csum F G p 0 x1 y1 x2 y2 + csum F G p 1 x1 y1 x2 y2 + csum F G p 2 x1 y1 x2 y2 := by
  simp only [csum]
  rw [← pS_add, ← pS_add]
  refine pS_congr (fun i j _ _ _ _ => ?_) x1 y1 x2 y2
  simp only [cu]
  rw [if_pos trivial, if_neg (by decide), if_neg (by decide), if_neg (by decide), show 2304 * 0 + 48 * j + i = 48 * j + i by omega, show 2304 * 1 + 48 * j + i = 2304 + 48 * j + i by omega, show 2304 * 2 + 48 * j + i = 4608 + 48 * j + i by omega]
theorem csum_pos {F : AF} {G : AG} {p : Nat} (hb : PBA F G p) {g : Int} (hg : -1 ≤ g) (hg2 : g ≤ 2) (x1 y1 x2 y2 : Int) : 0 ≤ csum F G p g x1 y1 x2 y2 :=
  pS_pos (fun i j i0 i1 j0 j1 => (cu_in (hb i j i0 i1 j0 j1) hg hg2).1) x1 y1 x2 y2
theorem csum_le {F : AF} {G : AG} {p : Nat} (hb : PBA F G p) (ht : CT F G p) {g : Int} (hg : 0 ≤ g) (hg2 : g ≤ 2) {x1 y1 x2 y2 : Int} (h1 : 0 ≤ x1) (h2 : 0 ≤ y1) (h3 : x2 < F 4 2) (h4 : y2 < F 11 2) : csum F G p g x1 y1 x2 y2 ≤ 3000000000000000000 :=
  Int.le_trans (pS_mono (fun i j i0 i1 j0 j1 => (cu_in (hb i j i0 i1 j0 j1) (by omega) hg2).1) h1 h2 (by omega) (by omega)) (ht g hg hg2)
theorem csum_le9 {F : AF} {G : AG} {p : Nat} (hb : PBA F G p) (ht : CT F G p) {g : Int} (hg : -1 ≤ g) (hg2 : g ≤ 2) {x1 y1 x2 y2 : Int} (h1 : 0 ≤ x1) (h2 : 0 ≤ y1) (h3 : x2 < F 4 2) (h4 : y2 < F 11 2) : csum F G p g x1 y1 x2 y2 ≤ 9000000000000000000 := by
  by_cases e : g = -1
  · rw [e, csum_all]
    have a := csum_le hb ht (g := 0) (by omega) (by omega) h1 h2 h3 h4
    have b := csum_le hb ht (g := 1) (by omega) (by omega) h1 h2 h3 h4
    have c := csum_le hb ht (g := 2) (by omega) (by omega) h1 h2 h3 h4
    omega
  · have := csum_le hb ht (g := g) (by omega) hg2 h1 h2 h3 h4
    omega
/-- a rectangle whose sums may be asked for: in the grid, or without any cell -/
def RI (F : AF) (o : Nat) : Prop := 0 ≤ F o 0 ∧ F o 2 < F 4 2 ∧ 0 ≤ F o 1 ∧ F o 3 < F 11 2 ∧ F o 0 ≤ 100000 ∧ F o 1 ≤ 100000 ∧ -100000 ≤ F o 2 ∧ -100000 ≤ F o 3
theorem cs_off {F : AF} {G : AG} {p : Nat} {g : Int} (hg : 0 ≤ g) (x1 y1 x2 y2 : Int) : pS (G (4 + 1)) (G (11 + 1)) (F 4 1) (F 11 1) (fun i j => G p (g * 2304 + 48 * j + i)) x1 y1 x2 y2 = csum F G p g x1 y1 x2 y2 := by
  refine pS_congr (fun i j _ _ _ _ => ?_) x1 y1 x2 y2
  simp only [cu]
  rw [if_neg (by omega), show g * 2304 + 48 * j + i = 2304 * g + 48 * j + i by omega]
/-- of one good, of any plane of three -/
theorem pu_sumPl {d : Nat} {S : AS} {F : AF} {G : AG} (hd : 1 ≤ d) (hsh : ShC S) (hc : CC F G) {p re : Nat} (hk3 : AtJ S p) (hn : sN S p = 6912) (hk5 : AtRect S re) (hb : PBA F G p) (ht : CT F G p) {g : Int} (hg : 0 ≤ g) (hg2 : g ≤ 2) (hr : RI F re) : Pu d MX2_sumBy [vR 2, vR 4, vR 11, vR p, vI (g * 2304), vR re] S F G (some (vJ (csum F G p g (F re 0) (F re 1) (F re 2) (F re 3)))) := by
  obtain ⟨r1, r2, r3, r4, r5, r6, r7, r8⟩ := hr
  have e := cs_off (F := F) (G := G) (p := p) hg (F re 0) (F re 1) (F re 2) (F re 3)
  have := pu_sumBy (off := g * 2304) hsh hd (at_4 hsh) (at_11 hsh) hk3 hk5 hc.1 hc.2.1 (by omega) (by rw [hn]; omega) (by omega) (fun i j i0 i1 j0 j1 => ?_) r1 r2 r3 r4 r5 r6 r7 r8 (by rw [e]; exact csum_le9 hb ht (by omega) hg2 r1 r3 r2 r4)
  · rw [e] at this
    exact this
  · have := cu_in (hb i j i0 i1 j0 j1) (g := g) (by omega) hg2
    simp only [cu] at this
    rw [if_neg (by omega), show 2304 * g + 48 * j + i = g * 2304 + 48 * j + i by omega] at this
    exact this
theorem pu_csumOf {d : Nat} {S : AS} {F : AF} {G : AG} (hd : 2 ≤ d) (hsh : ShC S) (hc : CC F G) {re : Nat} (hk5 : AtRect S re) (hb : PBA F G 18) (ht : CT F G 18) {g : Int} (hg : -1 ≤ g) (hg2 : g ≤ 2) (hr : RI F re) : Pu d MX2_sumOf [vR 2, vI g, vR re] S F G (some (vJ (csum F G 18 g (F re 0) (F re 1) (F re 2) (F re 3)))) := by
  have hn : sN S 18 = 6912 := shc_n hsh 18 (by decide) (by decide)
  have one : ∀ q : Int, 0 ≤ q → q ≤ 2 → Pu (d - 1) MX2_sumBy [vR 2, vR 4, vR 11, vR 18, vI (q * 2304), vR re] S F G (some (vJ (csum F G 18 q (F re 0) (F re 1) (F re 2) (F re 3)))) := fun q q0 q1 => pu_sumPl (by omega) hsh hc (at_18 hsh) hn hk5 hb ht q0 q1 hr
  obtain ⟨r1, r2, r3, r4, r5, r6, r7, r8⟩ := hr
  have bd : ∀ q : Int, 0 ≤ q → q ≤ 2 → 0 ≤ csum F G 18 q (F re 0) (F re 1) (F re 2) (F re 3) ∧ csum F G 18 q (F re 0) (F re 1) (F re 2) (F re 3) ≤ 3000000000000000000 := fun q q0 q1 => ⟨csum_pos hb (by omega) q1 _ _ _ _, csum_le hb ht q0 q1 r1 r3 r2 r4⟩
  have b0 := bd 0 (by omega) (by omega)
  have b1 := bd 1 (by omega) (by omega)
  have b2 := bd 2 (by omega) (by omega)
  refine ok_go rfl (by decide) (Nat.le_of_ble_eq_true rfl) (R_X2_sumOf_0 hsh hk5 ?_)
  unfold V_X2_sumOf_0
  refine ⟨fun q => ?_, fun q => ⟨by omega, by omega, _, one g (by omega) hg2, rfl, rfl, rfl, rfl⟩⟩
  refine R_X2_sumOf_39 hsh hk5 ?_
  unfold V_X2_sumOf_39
  refine ⟨fun z => absurd z (by omega), fun _ => ⟨by omega, by omega, _, one 0 (by omega) (by omega), by omega, fun x ex => ⟨by omega, ?_⟩⟩⟩
  refine R_X2_sumOf_39 hsh hk5 ?_
  unfold V_X2_sumOf_39
  refine ⟨fun z => absurd z (by omega), fun _ => ⟨by omega, by omega, _, one (0 + 1) (by omega) (by omega), ?_, fun x2 ex2 => ⟨by omega, ?_⟩⟩⟩
  · rw [show (0 + 1 : Int) = 1 by omega]; omega
  rw [show (0 + 1 : Int) = 1 by omega] at ex2
  refine R_X2_sumOf_39 hsh hk5 ?_
  unfold V_X2_sumOf_39
  refine ⟨fun z => absurd z (by omega), fun _ => ⟨by omega, by omega, _, one (0 + 1 + 1) (by omega) (by omega), ?_, fun x3 ex3 => ⟨by omega, ?_⟩⟩⟩
  · rw [show (0 + 1 + 1 : Int) = 2 by omega]; omega
  rw [show (0 + 1 + 1 : Int) = 2 by omega] at ex3
  refine R_X2_sumOf_39 hsh hk5 ?_
  unfold V_X2_sumOf_39
  refine ⟨fun _ => ⟨?_, rfl, rfl, rfl⟩, fun z => absurd z (by omega)⟩
  rw [q, csum_all, ex3, ex2, ex]
  congr 2
  omega
theorem pu_sumWhenSaved {d : Nat} {S : AS} {F : AF} {G : AG} (hd : 2 ≤ d) (hsh : ShC S) (hc : CC F G) {sv re : Nat} (hs : AtSaved S sv) (hk5 : AtRect S re) (hb : PBA F G (sv + 1)) (ht : CT F G (sv + 1)) {g : Int} (hg : 0 ≤ g) (hg2 : g ≤ 2) (hr : RI F re) : Pu d MX2_sumWhenSaved [vR 2, vR sv, vI g, vR re] S F G (some (vJ (csum F G (sv + 1) g (F re 0) (F re 1) (F re 2) (F re 3)))) := by
  refine ok_go rfl (by decide) (Nat.le_of_ble_eq_true rfl) (R_X2_sumWhenSaved_0 hsh hk5 ?_)
  unfold V_X2_sumWhenSaved_0
  exact ⟨hs, by omega, by omega, _, pu_sumPl (by omega) hsh hc hs.2.2.1 hs.2.2.2 hk5 hb ht hg hg2 hr, rfl, rfl, rfl, rfl⟩
theorem pu_zoneOf {d : Nat} {S : AS} {F : AF} {G : AG} (hsh : ShC S) (z : Int) : Pu d MX2_zoneOf [vR 2, vI z] S F G (some (vR (if 0 ≤ z ∧ z < 6 then 22 + 2 * Int.toNat z else 0))) := by
  refine ok_go rfl (by decide) (Nat.le_of_ble_eq_true rfl) (R_X2_zoneOf_0 hsh ?_)
  unfold V_X2_zoneOf_0
  refine ⟨fun h => ⟨by rw [if_neg (by omega)], rfl, rfl, rfl⟩, fun h => ⟨fun h2 => ⟨by rw [if_neg (by omega)], rfl, rfl, rfl⟩, fun h2 => ⟨by omega, by omega, by rw [if_pos (by omega)], rfl, rfl, rfl⟩⟩⟩
theorem pu_savedAt {d : Nat} {S : AS} {F : AF} {G : AG} (hsh : ShC S) (z : Int) : Pu d MX2_savedAt [vR 2, vI z] S F G (some (vR (if 0 ≤ z ∧ z < F 2 8 ∧ z < 8 then sR S 21 (Int.toNat z) else 0))) := by
  refine ok_go rfl (by decide) (Nat.le_of_ble_eq_true rfl) (R_X2_savedAt_0 hsh ?_)
  unfold V_X2_savedAt_0
  refine ⟨fun h => ⟨by rw [if_neg (by omega)], rfl, rfl, rfl⟩, fun h => ⟨fun h2 => ⟨by rw [if_neg (by omega)], rfl, rfl, rfl⟩, fun h2 => ⟨fun h3 => ⟨by rw [if_neg (by omega)], rfl, rfl, rfl⟩, fun h3 => ⟨by omega, by omega, by rw [if_pos (by omega)], rfl, rfl, rfl⟩⟩⟩⟩
theorem pu_axisOf {d : Nat} {S : AS} {F : AF} {G : AG} (hsh : ShC S) (a : Int) : Pu d MX2_axisOf [vR 2, vI a] S F G (some (vR (if a = 0 then 3 else 10))) := by
  refine ok_go rfl (by decide) (Nat.le_of_ble_eq_true rfl) (R_X2_axisOf_0 hsh ?_)
  unfold V_X2_axisOf_0
  exact ⟨fun h => ⟨by rw [if_neg h], rfl, rfl, rfl⟩, fun h => ⟨by rw [if_pos h], rfl, rfl, rfl⟩⟩
theorem pu_cisGood {d : Nat} {S : AS} {F : AF} {G : AG} (hsh : ShC S) (g : Int) : Pu d MX9_isGood [vI g] S F G (some (vI (bI (0 ≤ g ∧ g ≤ 2)))) := by
  refine ok_go rfl (by decide) (Nat.le_of_ble_eq_true rfl) (R_X9_isGood_0 hsh ?_)
  unfold V_X9_isGood_0
  refine ⟨fun h => ⟨by rw [bI_f (by omega)], rfl, rfl, rfl⟩, fun h => ⟨fun h2 => ⟨by rw [bI_f (by omega)], rfl, rfl, rfl⟩, fun h2 => ⟨by rw [bI_t (by omega)], rfl, rfl, rfl⟩⟩⟩
theorem pu_cisGoodOrAll {d : Nat} {S : AS} {F : AF} {G : AG} (hd : 1 ≤ d) (hsh : ShC S) (g : Int) : Pu d MX9_isGoodOrAll [vI g] S F G (some (vI (bI (-1 ≤ g ∧ g ≤ 2)))) := by
  refine ok_go rfl (by decide) (Nat.le_of_ble_eq_true rfl) (R_X9_isGoodOrAll_0 hsh ?_)
  unfold V_X9_isGoodOrAll_0
  refine ⟨fun h => ⟨by rw [bI_t (by omega)], rfl, rfl, rfl⟩, fun h => ⟨hd, _, pu_cisGood hsh g, fun h2 => ?_, fun h2 => ?_⟩⟩
  · rw [bI_0] at h2
    exact ⟨by rw [bI_f (by omega)], rfl, rfl, rfl⟩
  · rw [bI_0] at h2
    exact ⟨by rw [bI_t (by omega)], rfl, rfl, rfl⟩
theorem pu_isAxis {d : Nat} {S : AS} {F : AF} {G : AG} (hsh : ShC S) (g : Int) : Pu d MX9_isAxis [vI g] S F G (some (vI (bI (0 ≤ g ∧ g ≤ 1)))) := by
  refine ok_go rfl (by decide) (Nat.le_of_ble_eq_true rfl) (R_X9_isAxis_0 hsh ?_)
  unfold V_X9_isAxis_0
  refine ⟨fun h => ⟨by rw [bI_t (by omega)], rfl, rfl, rfl⟩, fun h => ⟨fun h2 => ⟨by rw [bI_f (by omega)], rfl, rfl, rfl⟩, fun h2 => ⟨by rw [bI_t (by omega)], rfl, rfl, rfl⟩⟩⟩
theorem pu_isShift {d : Nat} {S : AS} {F : AF} {G : AG} (hsh : ShC S) (g : Int) : Pu d MX9_isShift [vI g] S F G (some (vI (bI (-9999 ≤ g ∧ g ≤ 9999)))) := by
  refine ok_go rfl (by decide) (Nat.le_of_ble_eq_true rfl) (R_X9_isShift_0 hsh ?_)
  unfold V_X9_isShift_0
  refine ⟨fun h => ⟨by rw [bI_f (by omega)], rfl, rfl, rfl⟩, fun h => ⟨fun h2 => ⟨by rw [bI_f (by omega)], rfl, rfl, rfl⟩, fun h2 => ⟨by rw [bI_t (by omega)], rfl, rfl, rfl⟩⟩⟩
