/-! ZONES, SHARES, EMPTY CELLS -/
noncomputable def aZon (z w : Int) (F : AF) (G : AG) : Int := if (0 ≤ z ∧ z ≤ 5) ∧ 0 ≤ w ∧ w ≤ 5 then (if G 65 z = 0 then -1 else if w < 4 then G 63 (4 * z + w) else if w = 4 then G 64 z else max 0 (G 64 z - aS (mv F G (-1)) (G 63 (4 * z)) (G 63 (4 * z + 1)) (G 63 (4 * z + 2)) (G 63 (4 * z + 3)))) else -2
theorem aZon_scr {z w : Int} {F F1 : AF} {G G1 : AG} (k : Scr F F1 G G1) : aZon z w F1 G1 = aZon z w F G := by
  obtain ⟨-, -, -, -, -, -, -, e63, e64, e65⟩ := scr_g k
  simp only [aZon, scr_mv k, e63, e64, e65]
/-- a zone that is there lies in the reference's grid -/
theorem zone_mr {S : AS} {F : AF} {G : AG} {b : Int} (h : Inv S F G b) {z : Int} (z0 : 0 ≤ z) (z1 : z < 6) (hz : ¬ G 65 z = 0) : MR F (G 63 (4 * z)) (G 63 (4 * z + 1)) (G 63 (4 * z + 2)) (G 63 (4 * z + 3)) ∧ 0 ≤ G 64 z ∧ G 64 z ≤ 3000000000000000000 := by
  have sz := inv_sz h
  obtain ⟨Z1, Z2⟩ := h.2.2.2.2.2.2.1
  obtain ⟨a, c⟩ := Z2 z z0 z1
  rw [← a] at hz
  obtain ⟨c1, c2, c3, c4, c5⟩ := c hz
  obtain ⟨-, -, k⟩ := Z1 z z0 z1
  obtain ⟨⟨k1, k2, k3, k4, k5, k6⟩, k7, k8⟩ := k hz
  unfold MR
  omega
theorem pr_zoneAt {d : Nat} {S : AS} {F : AF} {G : AG} {b : Int} (hd : 6 ≤ d) (h : Inv S F G b) (z w : Int) : Pr d MX9_zoneAt MX10_zoneAt [vR 1, vI z, vI w] [vR 53, vI z, vI w] vJ S F G b := by
  refine pr_gen (A := aZon z w) h (fun F1 G1 k => aZon_scr k) (fun Q hq => ?_) (fun F G h Q hq => ?_)
  · have hsh := inv_shc h
    have hq := hq F G (scr_rf F G)
    unfold aZon at hq
    have sz := inv_sz h
    obtain ⟨Z1, Z2⟩ := h.2.2.2.2.2.2.1
    refine ok_go rfl (by decide) (Nat.le_of_ble_eq_true rfl) (R_X9_zoneAt_0 hsh ?_)
    unfold V_X9_zoneAt_0
    by_cases zz : 0 ≤ z ∧ z < 6
    · have pz := pu_zoneOf (d := d - 1) (S := S) (F := F) (G := G) hsh z
      rw [if_pos zz] at pz
      obtain ⟨a, c⟩ := Z2 z zz.1 zz.2
      refine ⟨by omega, _, pz, fun y => absurd y (by omega), fun _ => ⟨fun y => ?_, fun y => ⟨fun y2 => ⟨sh_zoneAt hsh zz.1 zz.2, fun y3 => ?_, fun y3 => ?_⟩, fun y2 => ?_⟩⟩⟩
      · rw [if_neg (by omega)] at hq; exact hq
      · obtain ⟨c1, c2, c3, c4, c5⟩ := c y3
        have hz : ¬ G 65 z = 0 := by rw [← a]; exact y3
        have mr := zone_mr h zz.1 zz.2 hz
        obtain ⟨⟨m1, m2, m3, m4, m5, m6⟩, m7, m8⟩ := mr
        rw [if_pos (by omega), if_neg hz] at hq
        refine ⟨fun y4 => ⟨fun y5 => ?_, fun y5 => ?_⟩, fun y4 => ⟨_, pu_side (sh_zoneAt hsh zz.1 zz.2).2.2 w, ?_⟩⟩
        · rw [if_neg (by omega), if_neg y5] at hq
          have s1 := sum_re (d := d - 1) (by omega) h (sh_zoneAt hsh zz.1 zz.2).2.2 (g := -1) (by omega) (by omega) (by rw [c2]; exact m1) (by rw [c4]; exact m3) (by rw [c3]; exact m4) (by rw [c5]; exact m6) (by omega) (by omega) (by omega) (by omega)
          rw [c2, c3, c4, c5] at s1
          have b9 := mv_le9 (inv_mx h) (inv_mba h) (inv_mt h) (g := -1) (by omega) (by omega) m1 m3 m4 m6
          refine ⟨_, s1, by rw [c1]; omega, ?_⟩
          rw [c1]; exact hq
        · rw [if_neg (by omega), if_pos y5] at hq
          rw [c1]; exact hq
        · rw [if_pos (by omega)] at hq
          unfold sideR
          by_cases w0 : w = 0
          · subst w0
            rw [if_pos rfl, c2]
            rw [Int.add_zero] at hq; exact hq
          · rw [if_neg w0]
            by_cases w1 : w = 1
            · subst w1
              rw [if_pos rfl, c3]; exact hq
            · rw [if_neg w1]
              by_cases w2 : w = 2
              · subst w2
                rw [if_pos rfl, c4]; exact hq
              · have w3 : w = 3 := by omega
                subst w3
                rw [if_neg (by decide), c5]; exact hq
      · have hz : G 65 z = 0 := by rw [← a]; exact y3
        rw [if_pos (by omega), if_pos hz] at hq; exact hq
      · rw [if_neg (by omega)] at hq; exact hq
    · have pz := pu_zoneOf (d := d - 1) (S := S) (F := F) (G := G) hsh z
      rw [if_neg zz] at pz
      refine ⟨by omega, _, pz, fun _ => ?_, fun y => absurd rfl y⟩
      rw [if_neg (by omega)] at hq; exact hq
  · have hsm := inv_shm h
    refine ok_go rfl (by decide) (Nat.le_of_ble_eq_true rfl) (R_X10_zoneAt_0 hsm ?_)
    unfold V_X10_zoneAt_0
    intro F1 e1
    subst e1
    have h1 := inv_scr h scr_thrown
    rw [← aZon_scr scr_thrown] at hq
    have hq := hq _ G scr_thrown
    unfold aZon at hq
    generalize hF1 : fu F 53 0 0 = F1 at *
    refine ⟨by omega, _, pu_isIn hsm _ _ _, fun q => ?_, fun q => ⟨_, pu_isIn hsm _ _ _, fun q2 => ?_, fun q2 => ?_⟩⟩
    · rw [if_neg (fun y => bI_0.mp q y.1)] at hq; exact hq
    · have yz : 0 ≤ z ∧ z ≤ 5 := Classical.byContradiction (fun y => q (bI_f y))
      have yw : 0 ≤ w ∧ w ≤ 5 := Classical.byContradiction (fun y => q2 (bI_f y))
      rw [if_pos ⟨yz, yw⟩] at hq
      refine ⟨yz.1, by omega, fun y => ?_, fun y => ?_⟩
      · rw [if_neg y] at hq
        obtain ⟨mr, m7, m8⟩ := zone_mr h1 yz.1 (by omega) y
        obtain ⟨m1, m2, m3, m4, m5, m6⟩ := id mr
        refine ⟨fun y4 => ⟨fun y5 => ?_, fun y5 => ?_⟩, fun y4 => ⟨by omega, by omega, by omega, by omega, ?_⟩⟩
        · rw [if_neg (by omega), if_neg y5] at hq
          have b9 := mv_le9 (inv_mx h1) (inv_mba h1) (inv_mt h1) (g := -1) (by omega) (by omega) m1 m3 m4 m6
          refine ⟨_, pu_zoned (by omega) hsm (inv_mx h1) (inv_mba h1) (inv_mt h1) yz.1 (by omega) mr, fun y6 => ⟨by omega, ?_⟩, fun y6 => ?_⟩
          · rw [Int.max_eq_right (by omega)] at hq; exact hq
          · rw [Int.max_eq_left (by omega)] at hq; exact hq
        · rw [if_neg (by omega), if_pos y5] at hq; exact hq
        · rw [if_pos (by omega)] at hq; exact hq
      · rw [if_pos y] at hq; exact hq
    · rw [if_neg (fun y => bI_0.mp q2 y.2)] at hq; exact hq
theorem pu_commonDivisor {d : Nat} {S : AS} {F : AF} {G : AG} (hsh : ShC S) {a c : Nat} (ha : a < 9223372036854775808) (hc : c < 9223372036854775808) : Pu d MX9_commonDivisor [vJ (a : Int), vJ (c : Int)] S F G (some (vJ (Nat.gcd a c : Nat))) := by
  have main : ∀ (k : Nat) (x y : Nat) (s : Int), y < 2 ^ k → x < 9223372036854775808 → y < 9223372036854775808 → 0 ≤ s → s + 2 * k ≤ 199 → Nat.gcd x y = Nat.gcd a c → Go d MX9_commonDivisor 9 [some (vJ (a : Int)), none, some (vJ (c : Int)), none, some (vJ (x : Int)), none, some (vJ (y : Int)), none, some (vI s), none, none] [] S F G (fun r' S' F' G' => r' = some (vJ (Nat.gcd a c : Nat)) ∧ S' = S ∧ F' = F ∧ G' = G) := by
    have z0 : ∀ (x : Nat) (s : Int), Nat.gcd x 0 = Nat.gcd a c → Go d MX9_commonDivisor 9 [some (vJ (a : Int)), none, some (vJ (c : Int)), none, some (vJ (x : Int)), none, some (vJ ((0 : Nat) : Int)), none, some (vI s), none, none] [] S F G (fun r' S' F' G' => r' = some (vJ (Nat.gcd a c : Nat)) ∧ S' = S ∧ F' = F ∧ G' = G) := by
      intro x s e
      rw [Nat.gcd_zero_right] at e
      refine R_X9_commonDivisor_9 hsh ?_
      unfold V_X9_commonDivisor_9
      exact ⟨fun _ => ⟨by rw [e], rfl, rfl, rfl⟩, fun _ => ⟨fun _ => ⟨by rw [e], rfl, rfl, rfl⟩, fun y => absurd rfl y⟩⟩
    have one : ∀ (x y : Nat) (s : Int), y ≠ 0 → x < 9223372036854775808 → y < 9223372036854775808 → 0 ≤ s → s < 200 → Go d MX9_commonDivisor 9 [some (vJ (a : Int)), none, some (vJ (c : Int)), none, some (vJ (y : Int)), none, some (vJ ((x % y : Nat) : Int)), none, some (vI (s + 1)), none, none] [] S F G (fun r' S' F' G' => r' = some (vJ (Nat.gcd a c : Nat)) ∧ S' = S ∧ F' = F ∧ G' = G) → Go d MX9_commonDivisor 9 [some (vJ (a : Int)), none, some (vJ (c : Int)), none, some (vJ (x : Int)), none, some (vJ (y : Int)), none, some (vI s), none, none] [] S F G (fun r' S' F' G' => r' = some (vJ (Nat.gcd a c : Nat)) ∧ S' = S ∧ F' = F ∧ G' = G) := by
      intro x y s y0 hx hy s0 s1 k
      have q1 : x / y ≤ x := Nat.div_le_self x y
      have q2 : x % y ≤ x := Nat.mod_le x y
      have q3 : (0 : Int) ≤ ((x / y : Nat) : Int) := Int.natCast_nonneg _
      generalize hdv : x / y = dq at *
      refine R_X9_commonDivisor_9 hsh ?_
      unfold V_X9_commonDivisor_9
      rw [tmod_nat, tdiv_nat, hdv]
      refine ⟨fun z => absurd z (by omega), fun _ => ⟨fun z => absurd z (by omega), fun z => ⟨z, by omega, by omega, fun x4 e4 => ⟨by omega, ?_⟩⟩⟩⟩
      rw [e4]; exact k
    intro k
    induction k with
    | zero =>
      intro x y s h1 hx hy s0 s1 e
      have : y = 0 := by simpa using h1
      subst this
      exact z0 x s e
    | succ k ih =>
      intro x y s h1 hx hy s0 s1 e
      by_cases y0 : y = 0
      · subst y0
        exact z0 x s e
      · have e1 : Nat.gcd y (x % y) = Nat.gcd a c := by rw [← e, Nat.gcd_comm x y, Nat.gcd_rec y x, Nat.gcd_comm]
        have h2 : x % y < y := Nat.mod_lt x (by omega)
        refine one x y s y0 hx hy s0 (by omega) ?_
        by_cases r0 : x % y = 0
        · rw [r0] at e1 ⊢
          exact z0 y (s + 1) e1
        · have h3 : y % (x % y) < x % y := Nat.mod_lt y (by omega)
          have e2 : Nat.gcd (x % y) (y % (x % y)) = Nat.gcd a c := by rw [← e1, Nat.gcd_comm y (x % y), Nat.gcd_rec (x % y) y, Nat.gcd_comm]
          have h4 : y % (x % y) < 2 ^ k := by
            have h5 : x % y + y % (x % y) ≤ y := by
              have := Nat.div_add_mod y (x % y)
              have h6 : 1 ≤ y / (x % y) := Nat.div_pos (by omega) (by omega)
              have h7 : x % y * 1 ≤ x % y * (y / (x % y)) := Nat.mul_le_mul_left _ h6
              omega
            have h8 : 2 ^ (k + 1) = 2 * 2 ^ k := by rw [Nat.pow_succ, Nat.mul_comm]
            omega
          refine one y (x % y) (s + 1) r0 hy (by omega) (by omega) (by omega) ?_
          have es : s + 1 + 1 = s + 2 := by omega
          rw [es]
          exact ih (x % y) (y % (x % y)) (s + 2) h4 (by omega) (by omega) (by omega) (by omega) e2
  refine ok_go rfl (by decide) (Nat.le_of_ble_eq_true rfl) (R_X9_commonDivisor_0 hsh ?_)
  unfold V_X9_commonDivisor_0
  exact main 63 a c 0 (by omega) ha hc (by omega) (by omega) rfl
noncomputable def aShr (g x1 y1 x2 y2 w : Int) (F : AF) (G : AG) : Int := if (0 ≤ g ∧ g ≤ 2) ∧ recOK F x1 y1 x2 y2 ∧ 0 ≤ w ∧ w ≤ 1 then (if G 59 g = 0 then w else (if w = 0 then aS (mv F G g) x1 y1 x2 y2 else G 59 g) / (Nat.gcd (aS (mv F G g) x1 y1 x2 y2).toNat (G 59 g).toNat : Nat)) else -2
theorem aShr_scr {g x1 y1 x2 y2 w : Int} {F F1 : AF} {G G1 : AG} (k : Scr F F1 G G1) : aShr g x1 y1 x2 y2 w F1 G1 = aShr g x1 y1 x2 y2 w F G := by
  obtain ⟨-, -, -, -, -, e59, -⟩ := scr_g k
  simp only [aShr, recOK, scr_mv k, e59, k.2.2.1.1, k.2.2.1.2.1]
theorem pr_share {d : Nat} {S : AS} {F : AF} {G : AG} {b : Int} (hd : 130 ≤ d) (h : Inv S F G b) (g x1 y1 x2 y2 w : Int) : Pr d MX9_share MX10_share [vR 1, vI g, vI x1, vI y1, vI x2, vI y2, vI w] [vR 53, vI g, vI x1, vI y1, vI x2, vI y2, vI w] vJ S F G b := by
  refine pr_gen (A := aShr g x1 y1 x2 y2 w) h (fun F1 G1 k => aShr_scr k) (fun Q hq => ?_) (fun F G h Q hq => ?_)
  · unfold aShr at hq
    have hsh := inv_shc h
    have sz := inv_sz h
    refine ok_go rfl (by decide) (Nat.le_of_ble_eq_true rfl) (R_X9_share_0 hsh ?_)
    unfold V_X9_share_0
    refine ⟨by omega, _, pu_cisGood hsh g, fun q => ?_, fun q => ok_ask (by omega) h _ _ _ _ ⟨rfl, _, rfl, fun q2 => ?_, fun q2 => ⟨fun q3 => ?_, fun q3 => ⟨fun q4 => ?_, fun q4 => ?_⟩⟩⟩⟩
    · rw [if_neg (fun z => bI_0.mp q z.1)] at hq
      exact hq F G (scr_rf F G)
    · rw [if_neg (fun z => bI_0.mp q2 z.2.1)] at hq
      exact hq _ G (scr_51 _ _ _ _)
    · rw [if_neg (fun z => by omega)] at hq
      exact hq _ G (scr_51 _ _ _ _)
    · have yg : 0 ≤ g ∧ g ≤ 2 := Classical.byContradiction (fun z => q (bI_f z))
      have yr : recOK F x1 y1 x2 y2 := Classical.byContradiction (fun z => q2 (bI_f z))
      rw [if_pos ⟨yg, yr, by omega, q4⟩] at hq
      have hq := hq _ G (scr_51 x1 y1 x2 y2)
      obtain ⟨r1, r2, r3, r4, r5, r6⟩ := id yr
      have k := scr_51 (F := F) (G := G) x1 y1 x2 y2
      have hI := inv_scr h k
      obtain ⟨-, -, w0, w1, w2, w3⟩ := inv_cc hI
      have s1 := sum_51 (d := d - 1) (by omega) h (g := g) (by omega) yg.2 yr
      have e41 : setR F 51 x1 y1 x2 y2 4 2 = F 4 2 := by rw [setR_c (by decide)]
      have e11 : setR F 51 x1 y1 x2 y2 11 2 = F 11 2 := by rw [setR_c (by decide)]
      have k1 := k.2.2.1.1
      have k2 := k.2.2.1.2.1
      have s2 := sum_re (d := d - 1) (by omega) hI (at_17 hsh) (g := g) (by omega) yg.2 (by omega) (by omega) (by omega) (by omega) (by omega) (by omega) (by omega) (by omega)
      rw [w0, w1, w2, w3, scr_mv k, e41, e11, sz.1, sz.2.1, ← (inv_all h yg.1 yg.2).1] at s2
      have bp := mv_le (inv_mx h) (inv_mba h) (inv_mt h) yg.1 yg.2 r1 r3 r4 r6
      have ba := inv_all h yg.1 yg.2
      have ba0 := mv_le (inv_mx h) (inv_mba h) (inv_mt h) (g := g) (x1 := 0) (y1 := 0) (x2 := F 53 1 - 1) (y2 := F 53 2 - 1) yg.1 yg.2 (by omega) (by omega) (by omega) (by omega)
      rw [← ba.1] at ba0
      have mono := aS_mono (f := mv F G g) (x1 := x1) (y1 := y1) (x2 := x2) (y2 := y2) (a1 := 0) (b1 := 0) (a2 := F 53 1 - 1) (b2 := F 53 2 - 1) (fun x y x0 x1' y0 y1' => (mv_in (inv_mx h) (inv_mba h) (by omega) yg.2 x0 (by omega) y0 (by omega)).1) r1 r4 (by omega) (by omega)
      rw [← ba.1] at mono
      generalize hp : aS (mv F G g) x1 y1 x2 y2 = P at *
      have eP : ((P.toNat : Nat) : Int) = P := by omega
      have eA : (((G 59 g).toNat : Nat) : Int) = G 59 g := by omega
      have pc := pu_commonDivisor (d := d - 1) (S := S) (F := setR F 51 x1 y1 x2 y2) (G := G) hsh (a := P.toNat) (c := (G 59 g).toNat) (by omega) (by omega)
      rw [eP, eA] at pc
      refine ⟨_, s1, _, s2, _, pc, fun y => ?_, fun y => ?_⟩
      · have ne : ¬ G 59 g = 0 := by
          intro z
          have p0 : P = 0 := by omega
          rw [z, p0] at y
          simp at y
        rw [if_neg ne] at hq
        have dle : ∀ u : Int, 0 ≤ u → 0 ≤ u / ((Nat.gcd P.toNat (G 59 g).toNat : Nat) : Int) ∧ u / ((Nat.gcd P.toNat (G 59 g).toNat : Nat) : Int) ≤ u := fun u u0 => ⟨Int.ediv_nonneg u0 (by omega), Int.ediv_le_self _ u0⟩
        refine ⟨fun y2 => ⟨by omega, ?_, ?_⟩, fun y2 => ⟨by omega, ?_, ?_⟩⟩
        · rw [tdiv_pos ba0.1]
          have := dle (G 59 g) ba0.1
          omega
        · rw [if_neg y2] at hq
          rw [tdiv_pos ba0.1]; exact hq
        · rw [tdiv_pos bp.1]
          have := dle P bp.1
          omega
        · rw [if_pos y2] at hq
          rw [tdiv_pos bp.1]; exact hq
      · have z : G 59 g = 0 := by
          by_cases z : G 59 g = 0
          · exact z
          · have : 0 < Nat.gcd P.toNat (G 59 g).toNat := Nat.gcd_pos_of_pos_right _ (by omega)
            omega
        rw [if_pos z] at hq; exact hq
    · rw [if_neg (fun z => by omega)] at hq
      exact hq _ G (scr_51 _ _ _ _)
  · have hsm := inv_shm h
    refine ok_go rfl (by decide) (Nat.le_of_ble_eq_true rfl) (R_X10_share_0 hsm ?_)
    unfold V_X10_share_0
    intro F1 e1
    subst e1
    have h1 := inv_scr h scr_thrown
    rw [← aShr_scr scr_thrown] at hq
    have hq := hq _ G scr_thrown
    unfold aShr at hq
    generalize hF1 : fu F 53 0 0 = F1 at *
    have sz := inv_sz h1
    refine ⟨by omega, _, pu_isGood (by omega) hsm g, fun q => ?_, fun q => ⟨_, pu_isRectangle hsm _ _ _ _, fun q2 => ?_, fun q2 => ⟨_, pu_isIn hsm _ _ _, fun q3 => ?_, fun q3 => ?_⟩⟩⟩
    · rw [if_neg (fun z => bI_0.mp q z.1)] at hq; exact hq
    · rw [if_neg (fun z => bI_0.mp q2 z.2.1)] at hq; exact hq
    · have yg : 0 ≤ g ∧ g ≤ 2 := Classical.byContradiction (fun z => q (bI_f z))
      have yr : recOK F1 x1 y1 x2 y2 := Classical.byContradiction (fun z => q2 (bI_f z))
      have yw : 0 ≤ w ∧ w ≤ 1 := Classical.byContradiction (fun z => q3 (bI_f z))
      rw [if_pos ⟨yg, yr, yw⟩] at hq
      obtain ⟨r1, r2, r3, r4, r5, r6⟩ := id yr
      have s1 := pu_msum (d := d - 1) (by omega) hsm (inv_mx h1) (inv_mba h1) (inv_mt h1) (g := g) (by omega) yg.2 r1 r3 r4 r6 (by omega) (by omega) (by omega) (by omega)
      have bp := mv_le (inv_mx h1) (inv_mba h1) (inv_mt h1) yg.1 yg.2 r1 r3 r4 r6
      have ba := inv_all h1 yg.1 yg.2
      have ba0 := mv_le (inv_mx h1) (inv_mba h1) (inv_mt h1) (g := g) (x1 := 0) (y1 := 0) (x2 := F1 53 1 - 1) (y2 := F1 53 2 - 1) yg.1 yg.2 (by omega) (by omega) (by omega) (by omega)
      rw [← ba.1] at ba0
      generalize hp : aS (mv F1 G g) x1 y1 x2 y2 = P at *
      have eP : ((P.toNat : Nat) : Int) = P := by omega
      have eA : (((G 59 g).toNat : Nat) : Int) = G 59 g := by omega
      have pc := pu_common (S := S) (F := F1) (G := G) hsm 63 (d - 1) (G 59 g).toNat P.toNat (by omega) (by omega) (by omega) (by omega)
      rw [eP, eA, Nat.gcd_comm] at pc
      refine ⟨_, s1, yg.1, by omega, fun y => ⟨_, pc, ?_⟩, fun y => ?_⟩
      · rw [if_neg y] at hq
        have gp : 0 < Nat.gcd P.toNat (G 59 g).toNat := Nat.gcd_pos_of_pos_right _ (by omega)
        have dle : ∀ u : Int, 0 ≤ u → 0 ≤ u / ((Nat.gcd P.toNat (G 59 g).toNat : Nat) : Int) ∧ u / ((Nat.gcd P.toNat (G 59 g).toNat : Nat) : Int) ≤ u := fun u u0 => ⟨Int.ediv_nonneg u0 (by omega), Int.ediv_le_self _ u0⟩
        refine ⟨fun y2 => ⟨by omega, ?_, ?_⟩, fun y2 => ⟨by omega, ?_, ?_⟩⟩
        · rw [tdiv_pos ba0.1]
          have := dle (G 59 g) ba0.1
          omega
        · rw [if_neg y2] at hq
          rw [tdiv_pos ba0.1]; exact hq
        · rw [tdiv_pos bp.1]
          have := dle P bp.1
          omega
        · rw [if_pos y2] at hq
          rw [tdiv_pos bp.1]; exact hq
      · rw [if_pos y] at hq; exact hq
    · rw [if_neg (fun z => bI_0.mp q3 z.2.2)] at hq; exact hq
