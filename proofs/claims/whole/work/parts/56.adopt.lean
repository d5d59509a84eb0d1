/-! REFUSALS; A TRIAL ADOPTED -/
theorem cu_oth {G : AG} {p : Nat} {g i j : Int} (hb : PB G p i j) (hg : 0 ≤ g) (hg2 : g ≤ 2) : 0 ≤ cu G p (-1) i j - cu G p g i j := by
  obtain ⟨b1, b2, b3, b4⟩ := hb
  have : g = 0 ∨ g = 1 ∨ g = 2 := by omega
  simp only [cu]
  rw [if_pos trivial, if_neg (by omega)]
  rcases this with rfl | rfl | rfl
  · rw [show 2304 * 0 + 48 * j + i = 48 * j + i by omega]; omega
  · rw [show 2304 * 1 + 48 * j + i = 2304 + 48 * j + i by omega]; omega
  · rw [show 2304 * 2 + 48 * j + i = 4608 + 48 * j + i by omega]; omega
theorem vu_in {F : AF} {G : AG} {p : Nat} (hc : CC F G) (hb : PBA F G p) {g x y : Int} (hg : -1 ≤ g) (hg2 : g ≤ 2) (x0 : 0 ≤ x) (x1 : x < F 4 2) (y0 : 0 ≤ y) (y1 : y < F 11 2) : 0 ≤ vu F G p g x y ∧ vu F G p g x y ≤ 1000000000000 := by
  have s4 : Sq (G 5) (F 4 1) (F 4 2) := sq_co hc.1
  have s11 : Sq (G 12) (F 11 1) (F 11 2) := sq_co hc.2.1
  have a := bl_spec s4 x0 x1
  have b := bl_spec s11 y0 y1
  exact cu_in (hb _ _ a.1 a.2.1 b.1 b.2.1) hg hg2
theorem vu_oth {F : AF} {G : AG} {p : Nat} (hc : CC F G) (hb : PBA F G p) {g x y : Int} (hg : 0 ≤ g) (hg2 : g ≤ 2) (x0 : 0 ≤ x) (x1 : x < F 4 2) (y0 : 0 ≤ y) (y1 : y < F 11 2) : 0 ≤ vu F G p (-1) x y - vu F G p g x y := by
  have s4 : Sq (G 5) (F 4 1) (F 4 2) := sq_co hc.1
  have s11 : Sq (G 12) (F 11 1) (F 11 2) := sq_co hc.2.1
  have a := bl_spec s4 x0 x1
  have b := bl_spec s11 y0 y1
  exact cu_oth (hb _ _ a.1 a.2.1 b.1 b.2.1) hg hg2
noncomputable def tR (F : AF) (G : AG) (g : Int) (T : Int → Int → Int) : Int := by
  classical
  exact if OvC F G g T then -7 else if OvL F G g T then -9 else 0
theorem pu_trialRefusal {d : Nat} {S : AS} {F : AF} {G : AG} {T : Int → Int → Int} (hd : 4 ≤ d) (hsh : ShC S) (h : TS F G T) (hb : PBA F G 18) (ht : CT F G 18) (hz : ZI F) (hcap : F 2 7 ≤ 1000000000000) {g : Int} (hg : 0 ≤ g) (hg2 : g ≤ 2) (hT : ∀ x y : Int, 0 ≤ x → x < F 4 2 → 0 ≤ y → y < F 11 2 → 0 ≤ T x y ∧ T x y ≤ 10000000000000) (hTT : aS T 0 0 (F 4 2 - 1) (F 11 2 - 1) ≤ 3000000000000000000) : Pu d MX2_trialRefusal [vR 2, vI g] S F G (some (vI (tR F G g T))) := by
  classical
  have p1 := pu_trialOverCap (d := d - 1) (by omega) hsh h hb hg hg2 hT
  refine ok_go rfl (by decide) (Nat.le_of_ble_eq_true rfl) (R_X2_trialRefusal_0 hsh ?_)
  unfold V_X2_trialRefusal_0
  refine ⟨by omega, _, p1, fun q => ?_, fun q => ⟨?_, rfl, rfl, rfl⟩⟩
  · rw [bC_0] at q
    have hT2 : ∀ x y : Int, 0 ≤ x → x < F 4 2 → 0 ≤ y → y < F 11 2 → 0 ≤ T x y ∧ T x y ≤ 1000000000000 := by
      intro x y x0 x1 y0 y1
      refine ⟨(hT x y x0 x1 y0 y1).1, ?_⟩
      have o := vu_oth h.1 hb hg hg2 x0 x1 y0 y1
      rcases Int.lt_or_le 1000000000000 (T x y) with w | w
      · exact absurd ⟨x, y, x0, x1, y0, y1, by omega⟩ q
      · exact w
    have p2 := pu_trialOverLimit (d := d - 1) (by omega) hsh h hb ht hz hg hg2 hT2 hTT
    refine ⟨_, p2, fun q2 => ⟨?_, rfl, rfl, rfl⟩, fun q2 => ⟨?_, rfl, rfl, rfl⟩⟩
    · rw [bC_0] at q2
      simp only [tR]
      rw [if_neg q, if_neg q2]
    · rw [bC_0] at q2
      simp only [tR]
      rw [if_neg q, if_pos (Classical.not_not.mp q2)]
  · rw [bC_0] at q
    simp only [tR]
    rw [if_pos (Classical.not_not.mp q)]
/-- cells that two rectangles share -/
def com (F : AF) (a b : Nat) : Int := max 0 (min (F a 2) (F b 2) - max (F a 0) (F b 0) + 1) * max 0 (min (F a 3) (F b 3) - max (F a 1) (F b 1) + 1)
theorem com_in {F : AF} {a b : Nat} (ha : RO F a) (hb : RO F b) : 0 ≤ com F a b ∧ com F a b ≤ 40000400001 := by
  obtain ⟨r1, r2, r3, r4, r5, r6, r7, r8⟩ := ha
  obtain ⟨q1, q2, q3, q4, q5, q6, q7, q8⟩ := hb
  exact mul_bd (A := 200001) (B := 200001) (by omega) (by omega) (by omega) (by omega)
theorem pu_commonCells {d : Nat} {S : AS} {F : AF} {G : AG} (hd : 1 ≤ d) (hsh : ShC S) {a b : Nat} (hk : AtRect S a) (hk2 : AtRect S b) (ha : RO F a) (hb : RO F b) : Pu d MX2_commonCells [vR a, vR b] S F G (some (vJ (com F a b))) := by
  have ci := com_in ha hb
  obtain ⟨r1, r2, r3, r4, r5, r6, r7, r8⟩ := ha
  obtain ⟨q1, q2, q3, q4, q5, q6, q7, q8⟩ := hb
  refine ok_go rfl (by decide) (Nat.le_of_ble_eq_true rfl) (R_X2_commonCells_0 hsh hk hk2 ?_)
  unfold V_X2_commonCells_0
  refine ⟨hd, by omega, by omega, fun x4 e4 => ⟨by omega, by omega, fun x7 e7 => ?_⟩⟩
  have e : max 0 x4 * max 0 x7 = com F a b := by rw [e4, e7]; rfl
  rw [e]
  exact ⟨by omega, rfl, rfl, rfl, rfl⟩
/-- the least and the most, by cells -/
theorem ov_blk {e : Int → Int} {n w x a b : Int} (s : Sq e n w) (x0 : 0 ≤ x) (x1 : x < w) (ha : a ≤ x) (hb : x ≤ b) : 0 < ov (e (blk e n x)) (e (blk e n x + 1)) a b := by
  have := bl_spec s x0 x1
  simp only [ov]
  rw [if_neg (by omega)]
  omega
theorem ov_ex {e : Int → Int} {n w i a b : Int} (s : Sq e n w) (i0 : 0 ≤ i) (i1 : i < n) (h : 0 < ov (e i) (e (i + 1)) a b) : ∃ x : Int, 0 ≤ x ∧ x < w ∧ a ≤ x ∧ x ≤ b ∧ blk e n x = i := by
  have hb := isB_in s ⟨i, i0, i1, rfl⟩
  have r := s.2.2.2 i i0 i1
  have l := rise_le s.2.2.2 (i := i + 1) (j := n) (by omega) (by omega) (by omega)
  rw [s.2.2.1] at l
  simp only [ov] at h
  split at h
  · omega
  · exact ⟨max (e i) a, by omega, by omega, by omega, by omega, blk_uniq s.2.2.2 i0 i1 (by omega) (by omega)⟩
theorem fld_cell {e e1 : Int → Int} {n n1 w h : Int} (s : Sq e n w) (s1 : Sq e1 n1 h) {u : Int → Int → Int} {x1 y1 x2 y2 : Int} {P : Int → Prop} (a0 : 0 ≤ x1) (a1 : x2 < w) (b0 : 0 ≤ y1) (b1 : y2 < h) : (∃ i j : Int, 0 ≤ i ∧ i < n ∧ 0 ≤ j ∧ j < n1 ∧ 0 < ov (e i) (e (i + 1)) x1 x2 ∧ 0 < ov (e1 j) (e1 (j + 1)) y1 y2 ∧ P (u i j)) ↔ ∃ x y : Int, inR x1 y1 x2 y2 x y ∧ P (cv e e1 n n1 u x y) := by
  constructor
  · rintro ⟨i, j, i0, i1, j0, j1, o1, o2, hp⟩
    obtain ⟨x, q1, q2, q3, q4, q5⟩ := ov_ex s i0 i1 o1
    obtain ⟨y, r1, r2, r3, r4, r5⟩ := ov_ex s1 j0 j1 o2
    refine ⟨x, y, ⟨q3, q4, r3, r4⟩, ?_⟩
    simp only [cv]
    rw [q5, r5]
    exact hp
  · rintro ⟨x, y, ⟨q1, q2, q3, q4⟩, hp⟩
    have a := bl_spec s (x := x) (by omega) (by omega)
    have b := bl_spec s1 (x := y) (by omega) (by omega)
    exact ⟨_, _, a.1, a.2.1, b.1, b.2.1, ov_blk s (by omega) (by omega) q1 q2, ov_blk s1 (by omega) (by omega) q3 q4, hp⟩
noncomputable def adR (F : AF) (G : AG) (re : Nat) (g v : Int) : Int := by
  classical
  exact if ∃ x y : Int, inR (F re 0) (F re 1) (F re 2) (F re 3) x y ∧ vu F G 18 g x y + v < 0 then -5 else if v < 0 then 0 else if ∃ x y : Int, inR (F re 0) (F re 1) (F re 2) (F re 3) x y ∧ F 2 7 < vu F G 18 (-1) x y + v then -7 else if ∃ z : Int, 0 ≤ z ∧ z < 6 ∧ ¬ F (22 + 2 * Int.toNat z) 2 = 0 ∧ 0 < com F (22 + 2 * Int.toNat z + 1) re * v ∧ F (22 + 2 * Int.toNat z) 1 < aR F (22 + 2 * Int.toNat z + 1) (vu F G 18 (-1)) + com F (22 + 2 * Int.toNat z + 1) re * v then -9 else if 3000000000000000000 < aS (vu F G 18 g) 0 0 (F 4 2 - 1) (F 11 2 - 1) + (F re 2 - F re 0 + 1) * (F re 3 - F re 1 + 1) * v then -6 else 0
theorem pu_addRefusal {d : Nat} {S : AS} {F : AF} {G : AG} (hd : 3 ≤ d) (hsh : ShC S) (hc : CC F G) (hb : PBA F G 18) (ht : CT F G 18) (hz : ZI F) (hcap : F 2 7 ≤ 1000000000000) {re : Nat} (hk : AtRect S re) (hr : RG1 F re) {g v : Int} (hg : 0 ≤ g) (hg2 : g ≤ 2) (hv : -1000000000 ≤ v) (hv2 : v ≤ 1000000000) : Pu d MX2_addRefusal [vR 2, vI g, vR re, vI v] S F G (some (vI (adR F G re g v))) := by
  classical
  have s4 : Sq (G 5) (F 4 1) (F 4 2) := sq_co hc.1
  have s11 : Sq (G 12) (F 11 1) (F 11 2) := sq_co hc.2.1
  obtain ⟨r1, r2, r3, r4, r5, r6⟩ := id hr
  have w10 := hc.1.2.2.2.1
  have h10 := hc.2.1.2.2.2.1
  have ro : RO F re := ⟨by omega, by omega, by omega, by omega, by omega, by omega, by omega, by omega⟩
  obtain ⟨lo, hlo, plo⟩ := pu_leastIn (d := d - 1) (by omega) hsh hc hk hb (g := g) (by omega) hg2 hr
  obtain ⟨mo, hmo, pmo⟩ := pu_mostIn (d := d - 1) (by omega) hsh hc hk hb (g := -1) (by omega) (by omega) hr
  have l5 : lo + v < 0 ↔ ∃ x y : Int, inR (F re 0) (F re 1) (F re 2) (F re 3) x y ∧ vu F G 18 g x y + v < 0 := by
    have := fld_cell s4 s11 (u := cu G 18 g) (P := fun u => u + v < 0) r1 r3 r4 r6
    refine Iff.trans ⟨fun q => ?_, fun q => ?_⟩ this
    · obtain ⟨i, j, q1, q2, q3, q4, q5, q6, q7⟩ := hlo.1
      exact ⟨i, j, q1, q2, q3, q4, q5, q6, by rw [q7]; exact q⟩
    · obtain ⟨i, j, q1, q2, q3, q4, q5, q6, q7⟩ := q
      have := hlo.2 i j q1 q2 q3 q4 q5 q6
      omega
  have l7 : F 2 7 < mo + v ↔ ∃ x y : Int, inR (F re 0) (F re 1) (F re 2) (F re 3) x y ∧ F 2 7 < vu F G 18 (-1) x y + v := by
    have := fld_cell s4 s11 (u := cu G 18 (-1)) (P := fun u => F 2 7 < u + v) r1 r3 r4 r6
    refine Iff.trans ⟨fun q => ?_, fun q => ?_⟩ this
    · obtain ⟨i, j, q1, q2, q3, q4, q5, q6, q7⟩ := hmo.1
      exact ⟨i, j, q1, q2, q3, q4, q5, q6, by rw [q7]; exact q⟩
    · obtain ⟨i, j, q1, q2, q3, q4, q5, q6, q7⟩ := q
      have := hmo.2 i j q1 q2 q3 q4 q5 q6
      omega
  have blo : 0 ≤ lo ∧ lo ≤ 1000000000000 := by
    obtain ⟨i, j, q1, q2, q3, q4, q5, q6, q7⟩ := hlo.1
    have := cu_in (hb i j q1 q2 q3 q4) (g := g) (by omega) hg2
    omega
  have bmo : 0 ≤ mo ∧ mo ≤ 1000000000000 := by
    obtain ⟨i, j, q1, q2, q3, q4, q5, q6, q7⟩ := hmo.1
    have := cu_in (hb i j q1 q2 q3 q4) (g := -1) (by omega) (by omega)
    omega
  clear hlo hmo
  have cellb := mul_bd (a := F re 2 - F re 0 + 1) (b := F re 3 - F re 1 + 1) (A := 10000) (B := 10000) (by omega) (by omega) (by omega) (by omega)
  have ew := csum_aS hc 18 g (x1 := 0) (y1 := 0) (x2 := F 4 2 - 1) (y2 := F 11 2 - 1) (by omega) (by omega) (by omega) (by omega)
  have R17 : RI F 17 := by
    obtain ⟨-, -, w0, w1, w2, w3⟩ := hc
    have := s4.1
    exact ⟨by omega, by omega, by omega, by omega, by omega, by omega, by omega, by omega⟩
  have pw := pu_csumOf (d := d - 1) (by omega) hsh hc (at_17 hsh) hb ht (g := g) (by omega) hg2 R17
  rw [hc.2.2.1, hc.2.2.2.1, hc.2.2.2.2.1, hc.2.2.2.2.2, ew] at pw
  have bw : 0 ≤ aS (vu F G 18 g) 0 0 (F 4 2 - 1) (F 11 2 - 1) ∧ aS (vu F G 18 g) 0 0 (F 4 2 - 1) (F 11 2 - 1) ≤ 3000000000000000000 := by
    rw [← ew]
    exact ⟨csum_pos hb (by omega) hg2 _ _ _ _, ht g hg hg2⟩
  generalize hV : adR F G re g v = V
  simp only [adR] at hV
  refine ok_go rfl (by decide) (Nat.le_of_ble_eq_true rfl) (R_X2_addRefusal_0 hsh hk ?_)
  unfold V_X2_addRefusal_0
  refine ⟨by omega, _, plo, by omega, fun q5 => ⟨fun q => ⟨_, pmo, by omega, fun q7 => ?_, fun q7 => ⟨?_, rfl, rfl, rfl⟩⟩, fun q => ⟨?_, rfl, rfl, rfl⟩⟩, fun q5 => ⟨?_, rfl, rfl, rfl⟩⟩
  · rw [if_neg (fun z => absurd (l5.mpr z) (by omega)), if_neg (by omega), if_neg (fun z => absurd (l7.mpr z) (by omega))] at hV
    refine up_ind (α := Unit) 5 (fun z _ => 0 ≤ z ∧ z ≤ 6 ∧ ∀ z' : Int, 0 ≤ z' → z' < z → ¬ (¬ F (22 + 2 * Int.toNat z') 2 = 0 ∧ 0 < com F (22 + 2 * Int.toNat z' + 1) re * v ∧ F (22 + 2 * Int.toNat z') 1 < aR F (22 + 2 * Int.toNat z' + 1) (vu F G 18 (-1)) + com F (22 + 2 * Int.toNat z' + 1) re * v)) (fun z _ => Go d MX2_addRefusal 46 [some (vR 2), some (vI g), some (vR re), some (vI v), some (vI z), none, none] [] S F G (fun r' S' F' G' => r' = some (vI V) ∧ S' = S ∧ F' = F ∧ G' = G)) ?_ ?_ 0 () ⟨by omega, by omega, fun z' a b => absurd b (by omega)⟩
    · intro z _ hI hz9 ih
      obtain ⟨z0, z1, no⟩ := hI
      obtain ⟨zr, zb, zt⟩ := hz z z0 (by omega)
      have hR : AtRect S (22 + 2 * Int.toNat z + 1) := (sh_zoneAt hsh z0 (by omega)).2.2
      have next : ¬ (¬ F (22 + 2 * Int.toNat z) 2 = 0 ∧ 0 < com F (22 + 2 * Int.toNat z + 1) re * v ∧ F (22 + 2 * Int.toNat z) 1 < aR F (22 + 2 * Int.toNat z + 1) (vu F G 18 (-1)) + com F (22 + 2 * Int.toNat z + 1) re * v) → ∀ x : Int, V_X2_addRefusal_130 d S F G (fun r' S' F' G' => r' = some (vI V) ∧ S' = S ∧ F' = F ∧ G' = G) g re v z x := by
        intro nn x
        unfold V_X2_addRefusal_130
        refine ⟨by omega, ih () ⟨by omega, by omega, fun z' a b => ?_⟩⟩
        by_cases w : z' = z
        · rw [w]
          exact nn
        · exact no z' a (by omega)
      have ci := com_in zr ro
      have cw : com F (22 + 2 * Int.toNat z + 1) re ≤ 100000000 := by
        refine (mul_bd (A := 10000) (B := 10000) ?_ ?_ ?_ ?_).2
        all_goals omega
      have cm2 := mul_bd (a := com F (22 + 2 * Int.toNat z + 1) re) (b := v) (A := 100000000) (B := 1000000000) ci.1 cw q hv2
      refine R_X2_addRefusal_46 hsh hk ?_
      unfold V_X2_addRefusal_46
      refine ⟨fun w => absurd w (by omega), fun _ => ⟨z0, by omega, by omega, _, pu_commonCells (by omega) hsh hR hk zr ro, by omega, fun x26 e26 => ⟨fun w => next (fun y => y.1 w) _, fun w => ⟨fun w2 => next (fun y => by have := y.2.1; omega) _, fun w2 => ?_⟩⟩⟩⟩
      obtain ⟨⟨k1, k2, k3, k4, k5, k6⟩, l0, l1⟩ := zt w
      have ea := csum_aS hc 18 (-1) (x1 := F (22 + 2 * Int.toNat z + 1) 0) (y1 := F (22 + 2 * Int.toNat z + 1) 1) (x2 := F (22 + 2 * Int.toNat z + 1) 2) (y2 := F (22 + 2 * Int.toNat z + 1) 3) k1 k3 k4 k6
      have pz := pu_csumOf (d := d - 1) (by omega) hsh hc hR hb ht (g := -1) (by omega) (by omega) ⟨k1, k3, k4, k6, by omega, by omega, by omega, by omega⟩
      have bz := csum_le9 hb ht (g := -1) (by omega) (by omega) k1 k4 k3 k6
      have bz0 := csum_pos hb (g := -1) (by omega) (by omega) (F (22 + 2 * Int.toNat z + 1) 0) (F (22 + 2 * Int.toNat z + 1) 1) (F (22 + 2 * Int.toNat z + 1) 2) (F (22 + 2 * Int.toNat z + 1) 3)
      refine ⟨_, pz, by omega, fun w3 => next (fun y => ?_) _, fun w3 => ⟨?_, rfl, rfl, rfl⟩⟩
      · have := y.2.2
        simp only [aR] at this
        rw [← ea] at this
        omega
      · rw [if_pos] at hV
        · rw [← hV]
        · refine ⟨z, z0, by omega, w, by omega, ?_⟩
          simp only [aR]
          rw [← ea]
          omega
    · intro z _ hI hz9
      obtain ⟨z0, z1, no⟩ := hI
      rw [if_neg (fun ⟨z', a, b, y⟩ => no z' a (by omega) y)] at hV
      have pcell := pu_cells (d := d - 1) (S := S) (F := F) (G := G) (by omega) hk ro
      have cv' := mul_bd (a := (F re 2 - F re 0 + 1) * (F re 3 - F re 1 + 1)) (b := v) (A := 100000000) (B := 1000000000) cellb.1 cellb.2 q hv2
      refine R_X2_addRefusal_46 hsh hk ?_
      unfold V_X2_addRefusal_46
      refine ⟨fun _ => ⟨by omega, _, pw, _, pcell, by omega, by omega, fun w => ⟨?_, rfl, rfl, rfl⟩, fun w => ⟨?_, rfl, rfl, rfl⟩⟩, fun w => absurd w (by omega)⟩
      · rw [if_neg (by omega)] at hV
        rw [← hV]
      · rw [if_pos (by omega)] at hV
        rw [← hV]
  · rw [if_neg (fun z => absurd (l5.mpr z) (by omega)), if_neg (by omega), if_pos (l7.mp (by omega))] at hV
    rw [← hV]
  · rw [if_neg (fun z => absurd (l5.mpr z) (by omega)), if_pos (by omega)] at hV
    rw [← hV]
  · rw [if_pos (l5.mp (by omega))] at hV
    rw [← hV]
