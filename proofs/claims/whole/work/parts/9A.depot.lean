/-! THE DEPOT -/
def Md (F : AF) (G : AG) (g a p : Int) : Prop := ∃ i l : Int, Loc (mLN F G g a) (WD (me F G a)) (G 55 a) ((G 59 g + 1) / 2) i l ∧ p = me F G a i + (l - 1) / mLN F G g a i
theorem wd_pos {F : AF} {G : AG} (hx : MX F G) {a i : Int} (a0 : 0 ≤ a) (a1 : a ≤ 1) (i0 : 0 ≤ i) (i1 : i < G 55 a) : 0 ≤ WD (me F G a) i := by
  have := (hx a a0 a1).2.2.2.2.2 i i0 i1
  unfold WD
  omega
theorem md_uniq {S : AS} {F : AF} {G : AG} {b : Int} (h : Inv S F G b) {g a p p' : Int} (g0 : 0 ≤ g) (g1 : g ≤ 2) (a0 : 0 ≤ a) (a1 : a ≤ 1) (m : Md F G g a p) (m' : Md F G g a p') : p = p' := by
  obtain ⟨i, l, f, e⟩ := m
  obtain ⟨i', l', f', e'⟩ := m'
  have u := loc_uniq (fun j j0 j1 => Int.mul_nonneg (mln_pos (inv_mx h) (inv_mba h) (by omega) g1 a0 a1 j0 j1) (wd_pos (inv_mx h) a0 a1 j0 j1)) f f'
  rw [e, e', u.1, u.2]
noncomputable def mdQ (P : Int → Prop) : Int := by
  classical exact if h : ∃ p : Int, P p then Classical.choose h else 0
noncomputable def mdP (F : AF) (G : AG) (g a : Int) : Int := mdQ (Md F G g a)
theorem md_P {S : AS} {F : AF} {G : AG} {b : Int} (h : Inv S F G b) {g a p : Int} (g0 : 0 ≤ g) (g1 : g ≤ 2) (a0 : 0 ≤ a) (a1 : a ≤ 1) (m : Md F G g a p) : p = mdP F G g a := by
  have ex : ∃ p : Int, Md F G g a p := ⟨p, m⟩
  unfold mdP mdQ
  rw [dif_pos ex]
  exact md_uniq h g0 g1 a0 a1 m (Classical.choose_spec ex)
theorem scr_md {F F' : AF} {G G' : AG} (k : Scr F F' G G') : Md F' G' = Md F G := by
  funext g a p
  unfold Md
  rw [scr_mln k, (scr_g k).2.1, (scr_g k).2.2.2.2.2.1]
  simp only [scr_me k]
theorem scr_mdP {F F' : AF} {G G' : AG} (k : Scr F F' G G') (g a : Int) : mdP F' G' g a = mdP F G g a := by
  unfold mdP
  rw [scr_md k]
def hSum (F : AF) (G : AG) (g a p : Int) : Int := sI (fun i => mLN F G g a i * farS (me F G a i) (me F G a (i + 1) - 1) p) (G 55 a)
theorem scr_hS {F F' : AF} {G G' : AG} (k : Scr F F' G G') (g a p : Int) : hSum F' G' g a p = hSum F G g a p := by
  unfold hSum
  rw [scr_mln k, (scr_g k).2.1, scr_me k]
noncomputable def aDep (g w : Int) (F : AF) (G : AG) : Int := if (0 ≤ g ∧ g ≤ 2) ∧ 0 ≤ w ∧ w ≤ 2 then (if G 59 g = 0 then -1 else if w = 0 then mdP F G g 0 else if w = 1 then mdP F G g 1 else if hSum F G g 0 (mdP F G g 0) + hSum F G g 1 (mdP F G g 1) ≤ 3000000000000000000 then hSum F G g 0 (mdP F G g 0) + hSum F G g 1 (mdP F G g 1) else -6) else -2
theorem aDep_scr {g w : Int} {F F1 : AF} {G G1 : AG} (k : Scr F F1 G G1) : aDep g w F1 G1 = aDep g w F G := by
  simp only [aDep, scr_mdP k, scr_hS k, (scr_g k).2.2.2.2.2.1]
theorem hs_pos {S : AS} {F : AF} {G : AG} {b : Int} (h : Inv S F G b) {g a p : Int} (g0 : 0 ≤ g) (g1 : g ≤ 2) (a0 : 0 ≤ a) (a1 : a ≤ 1) (p0 : 0 ≤ p) (p1 : p ≤ 10000) : 0 ≤ hSum F G g a p := by
  have hx := inv_mx h
  have m := hx a a0 a1
  have s := sq_mx hx a0 a1
  have l1 := fun i (i0 : 0 ≤ i) (i1 : i ≤ G 55 a) => rise_le s.2.2.2 (i := 0) (j := i) (by omega) i0 i1
  have l2 := fun i (i0 : 0 ≤ i) (i1 : i ≤ G 55 a) => rise_le s.2.2.2 (i := i) (j := G 55 a) i0 i1 (Int.le_refl _)
  rw [s.2.1] at l1
  rw [s.2.2.1] at l2
  refine sI_pos (fun i i0 i1 => Int.mul_nonneg (mln_pos hx (inv_mba h) (by omega) g1 a0 a1 i0 i1) (far_bd ?_ ?_ ?_ p0 p1).1)
  · exact l1 i i0 (by omega)
  · have := m.2.2.2.2.2 i i0 i1
    omega
  · have := l2 (i + 1) (by omega) (by omega)
    omega
/-- the middle and the hauling of the system, told by the reference's rows -/
theorem mid_inv {d : Nat} {S : AS} {F : AF} {G : AG} {b : Int} (hd : 3 ≤ d) (h : Inv S F G b) {g a : Int} (g0 : 0 ≤ g) (g1 : g ≤ 2) (a0 : 0 ≤ a) (a1 : a ≤ 1) (u : 1 ≤ G 59 g) {Q : AQ} (hq : ∀ F' : AF, Scr F F' G G → 0 ≤ mdP F G g a → mdP F G g a ≤ 10000 → Q (some (vI (mdP F G g a))) S F' G) : Ok d MX7_middle [vR 34, vI g, vI (1 - a), vJ (G 59 g)] S F G Q := by
  have hsh := inv_shc h
  obtain ⟨n1, n2, n3, n4⟩ := ln_ax h (g := g) (by omega) g1 a0 a1
  have tt : sI (fun i => LN F G (1 - a) g i * WD (G (out (1 - a) + 1)) i) (F (out (1 - a)) 1) = G 59 g := by
    rw [← mln_tot h g0 g1 a0 a1, n1]
    refine sI_congr (fun i i0 i1 => ?_)
    unfold WD
    rw [n4 i i0 i1, n3 i i0 (by omega), n3 (i + 1) (by omega) (by omega)]
  have ba := inv_all h g0 g1
  have m := inv_mx h a a0 a1
  refine ok_middle hd hsh (inv_cc h) (inv_pba h) (by omega) g1 u (by rw [tt]; omega) (by rw [tt]; omega) (fun F' i l s f z0 z1 => ?_)
  rw [n1] at f
  have f1 := f.1
  have f2 := f.2.1
  have e : G 59 g - G 59 g / 2 = (G 59 g + 1) / 2 := by omega
  rw [e] at f
  have f' : Loc (mLN F G g a) (WD (me F G a)) (G 55 a) ((G 59 g + 1) / 2) i l := loc_cg n4 (fun j j0 j1 => by unfold WD; rw [n3 j j0 (by omega), n3 (j + 1) (by omega) (by omega)]) f
  rw [n3 i f1 (by omega), n4 i f1 f2] at z0 z1 ⊢
  have ep := md_P h g0 g1 a0 a1 ⟨i, l, f', rfl⟩
  rw [ep] at z0 z1 ⊢
  exact hq F' (scr_34 s) z0 (by omega)
theorem haul_inv {d : Nat} {S : AS} {F : AF} {G : AG} {b : Int} (hd : 3 ≤ d) (h : Inv S F G b) {g a p r0 t0 : Int} (g0 : 0 ≤ g) (g1 : g ≤ 2) (a0 : 0 ≤ a) (a1 : a ≤ 1) (p0 : 0 ≤ p) (p1 : p ≤ 10000) (hr : Hl r0 t0) (ht : 0 ≤ t0) {Q : AQ} (hq : ∀ (F' : AF) (r : Int), Scr F F' G G → Hl r (t0 + hSum F G g a p) → Q (some (vJ r)) S F' G) : Ok d MX7_haulAcross [vR 34, vI g, vI (1 - a), vI p, vJ r0] S F G Q := by
  have hsh := inv_shc h
  obtain ⟨n1, n2, n3, n4⟩ := ln_ax h (g := g) (by omega) g1 a0 a1
  refine ok_haulAcross hd hsh (inv_cc h) (inv_pba h) (by omega) g1 p0 p1 hr ht (fun F' r s hl => hq F' r (scr_34 s) ?_)
  have e : sI (fun i => LN F G (1 - a) g i * farS (G (out (1 - a) + 1) i) (G (out (1 - a) + 1) (i + 1) - 1) p) (F (out (1 - a)) 1) = hSum F G g a p := by
    unfold hSum
    rw [n1]
    exact sI_congr (fun i i0 i1 => by rw [n4 i i0 i1, n3 i i0 (by omega), n3 (i + 1) (by omega) (by omega)])
  rw [e] at hl
  exact hl
theorem pr_depot {d : Nat} {S : AS} {F : AF} {G : AG} {b : Int} (hd : 7 ≤ d) (h : Inv S F G b) (g w : Int) : Pr d MX9_depot MX10_depot [vR 1, vI g, vI w] [vR 53, vI g, vI w] vJ S F G b := by
  refine pr_gen (A := aDep g w) h (fun F1 G1 k => aDep_scr k) (fun Q hq => ?_) (fun F G h Q hq => ?_)
  · unfold aDep at hq
    have hsh := inv_shc h
    have sz := inv_sz h
    refine ok_go rfl (by decide) (Nat.le_of_ble_eq_true rfl) (R_X9_depot_0 hsh ?_)
    unfold V_X9_depot_0
    refine ⟨by omega, _, pu_cisGood hsh g, fun q => ?_, fun q => ⟨fun q2 => ?_, fun q2 => ⟨fun q3 => ?_, fun q3 => ?_⟩⟩⟩
    · rw [if_neg (fun z => bI_0.mp q z.1)] at hq
      exact hq F G (scr_rf F G)
    · rw [if_neg (fun z => by omega)] at hq
      exact hq F G (scr_rf F G)
    · have yg : 0 ≤ g ∧ g ≤ 2 := Classical.byContradiction (fun z => q (bI_f z))
      rw [if_pos ⟨yg, by omega, q3⟩] at hq
      obtain ⟨-, -, w0, w1, w2, w3⟩ := inv_cc h
      have s2 := sum_re (d := d - 1) (by omega) h (at_17 hsh) (g := g) (by omega) yg.2 (by omega) (by omega) (by omega) (by omega) (by omega) (by omega) (by omega) (by omega)
      rw [w0, w1, w2, w3, sz.1, sz.2.1, ← (inv_all h yg.1 yg.2).1] at s2
      have ba0 := mv_le (inv_mx h) (inv_mba h) (inv_mt h) (g := g) (x1 := 0) (y1 := 0) (x2 := F 53 1 - 1) (y2 := F 53 2 - 1) yg.1 yg.2 (by omega) (by omega) (by omega) (by omega)
      rw [← (inv_all h yg.1 yg.2).1] at ba0
      refine ⟨_, s2, fun u => ?_, fun u => ?_⟩
      · rw [if_neg (by omega)] at hq
        refine ⟨fun q4 => ⟨fun q5 => ?_, fun q5 => ?_⟩, fun q4 => ?_⟩
        · rw [if_neg q4, if_neg q5] at hq
          refine mid_inv (a := 0) (by omega) h yg.1 yg.2 (by omega) (by omega) u (fun F' k1 z0 z1 => ⟨rfl, _, rfl, ?_⟩)
          have h1 := inv_scr h k1
          refine haul_inv (a := 0) (t0 := 0) (by omega) h1 yg.1 yg.2 (by omega) (by omega) z0 z1 (Or.inl ⟨by omega, rfl⟩) (by omega) (fun F2 r k2 hl => ⟨rfl, _, rfl, ?_⟩)
          have h2 := inv_scr h1 k2
          refine mid_inv (a := 1) (by omega) h2 yg.1 yg.2 (by omega) (by omega) u (fun F3 k3 z2 z3 => ⟨rfl, _, rfl, ?_⟩)
          have h3 := inv_scr h2 k3
          have k12 := scr_tr k1 k2
          rw [scr_mdP k12] at z2 z3 ⊢
          rw [scr_hS k1, Int.zero_add] at hl
          have p1 := hs_pos h yg.1 yg.2 (a := 0) (by omega) (by omega) z0 z1
          have p2 := hs_pos h yg.1 yg.2 (a := 1) (by omega) (by omega) z2 z3
          refine haul_inv (a := 1) (by omega) h3 yg.1 yg.2 (by omega) (by omega) z2 z3 hl p1 (fun F4 r4 k4 hl4 => ⟨rfl, _, rfl, ?_⟩)
          have k14 := scr_tr k12 (scr_tr k3 k4)
          rw [scr_hS (scr_tr k12 k3)] at hl4
          have hq := hq F4 G k14
          rcases hl4 with ⟨t1, t2⟩ | ⟨t1, t2⟩
          · rw [if_pos t1] at hq
            exact ⟨fun _ => by rw [t2]; exact hq, fun z => absurd t1 (by rw [← t2]; exact z)⟩
          · rw [if_neg (by omega)] at hq
            exact ⟨fun z => absurd z (by omega), fun _ => hq⟩
        · rw [if_neg q4, if_pos q5] at hq
          exact mid_inv (a := 1) (by omega) h yg.1 yg.2 (by omega) (by omega) u (fun F' k1 z0 z1 => ⟨rfl, _, rfl, hq F' G k1⟩)
        · rw [if_pos q4] at hq
          exact mid_inv (a := 0) (by omega) h yg.1 yg.2 (by omega) (by omega) u (fun F' k1 z0 z1 => ⟨rfl, _, rfl, hq F' G k1⟩)
      · rw [if_pos (by omega)] at hq
        exact hq F G (scr_rf F G)
    · rw [if_neg (fun z => by omega)] at hq
      exact hq F G (scr_rf F G)
  · have hsm := inv_shm h
    refine ok_go rfl (by decide) (Nat.le_of_ble_eq_true rfl) (R_X10_depot_0 hsm ?_)
    unfold V_X10_depot_0
    intro F1 e1
    subst e1
    have h1 := inv_scr h scr_thrown
    rw [← aDep_scr scr_thrown] at hq
    have hq := hq _ G scr_thrown
    unfold aDep at hq
    generalize hF1 : fu F 53 0 0 = F1 at *
    have sz := inv_sz h1
    have hx := inv_mx h1
    refine ⟨by omega, _, pu_isGood (by omega) hsm g, fun q => ?_, fun q => ⟨_, pu_isIn hsm _ _ _, fun q2 => ?_, fun q2 => ?_⟩⟩
    · rw [if_neg (fun z => bI_0.mp q z.1)] at hq; exact hq
    · have yg : 0 ≤ g ∧ g ≤ 2 := Classical.byContradiction (fun z => q (bI_f z))
      have yw : 0 ≤ w ∧ w ≤ 2 := Classical.byContradiction (fun z => q2 (bI_f z))
      rw [if_pos ⟨yg, yw⟩] at hq
      have ba := inv_all h1 yg.1 yg.2
      have ba0 := mv_le (inv_mx h1) (inv_mba h1) (inv_mt h1) (g := g) (x1 := 0) (y1 := 0) (x2 := F1 53 1 - 1) (y2 := F1 53 2 - 1) yg.1 yg.2 (by omega) (by omega) (by omega) (by omega)
      rw [← ba.1] at ba0
      refine ⟨yg.1, by omega, fun u => ?_, fun u => ?_⟩
      · rw [if_neg u] at hq
        have t0 := mln_tot h1 yg.1 yg.2 (a := 0) (by omega) (by omega)
        have t1 := mln_tot h1 yg.1 yg.2 (a := 1) (by omega) (by omega)
        obtain ⟨i0, l0, f0, c0, c1, m0⟩ := pu_mmiddle (d := d - 1) (S := S) (by omega) hsm hx (inv_mba h1) (g := g) (a := 0) yg.1 yg.2 (by omega) (by omega) (by omega) (by omega) (by omega)
        obtain ⟨i1, l1, f1, c2, c3, m1⟩ := pu_mmiddle (d := d - 1) (S := S) (by omega) hsm hx (inv_mba h1) (g := g) (a := 1) yg.1 yg.2 (by omega) (by omega) (by omega) (by omega) (by omega)
        have e0 := md_P h1 yg.1 yg.2 (a := 0) (by omega) (by omega) ⟨i0, l0, f0, rfl⟩
        have e1 := md_P h1 yg.1 yg.2 (a := 1) (by omega) (by omega) ⟨i1, l1, f1, rfl⟩
        rw [e0] at c0 c1 m0
        rw [e1] at c2 c3 m1
        have w0 := (hx 0 (by omega) (by omega)).2.2.2.1
        have w1 := (hx 1 (by omega) (by omega)).2.2.2.1
        have p1 := hs_pos h1 yg.1 yg.2 (a := 0) (p := mdP F1 G g 0) (by omega) (by omega) c0 (by omega)
        have p2 := hs_pos h1 yg.1 yg.2 (a := 1) (p := mdP F1 G g 1) (by omega) (by omega) c2 (by omega)
        have H0 := pu_mhaul (d := d - 1) (S := S) (by omega) hsm hx (inv_mba h1) (g := g) (a := 0) (p := mdP F1 G g 0) yg.1 yg.2 (by omega) (by omega) c0 (by omega)
        have H1 := pu_mhaul (d := d - 1) (S := S) (by omega) hsm hx (inv_mba h1) (g := g) (a := 1) (p := mdP F1 G g 1) yg.1 yg.2 (by omega) (by omega) c2 (by omega)
        refine ⟨_, m0, _, m1, fun q3 => ⟨_, H0, _, H1, ?_⟩, fun q3 => ⟨fun q4 => ?_, fun q4 => ?_⟩⟩
        · rw [if_neg (by omega), if_neg (by omega)] at hq
          show r64 (hlv (hSum F1 G g 0 (mdP F1 G g 0)) + hlv (hSum F1 G g 1 (mdP F1 G g 1))) ∧ ∀ x42 : Int, x42 = hlv (hSum F1 G g 0 (mdP F1 G g 0)) + hlv (hSum F1 G g 1 (mdP F1 G g 1)) → (x42 ≤ 3000000000000000000 → Q (some (vJ x42)) S F1 G) ∧ (¬ x42 ≤ 3000000000000000000 → Q (some (vJ (-6))) S F1 G)
          generalize hSum F1 G g 0 (mdP F1 G g 0) = A at *
          generalize hSum F1 G g 1 (mdP F1 G g 1) = B at *
          have key : ∀ t : Int, 0 ≤ t → 0 ≤ hlv t ∧ hlv t ≤ 3000000000000000001 ∧ (t ≤ 3000000000000000000 → hlv t = t) ∧ (¬ t ≤ 3000000000000000000 → hlv t = 3000000000000000001) := by
            intro t t0
            unfold hlv
            split <;> omega
          have kA := key A p1
          have kB := key B p2
          refine ⟨by omega, fun x e => ⟨fun z => ?_, fun z => ?_⟩⟩
          · rw [if_pos (by omega)] at hq
            have : x = A + B := by omega
            rw [this]; exact hq
          · rw [if_neg (by omega)] at hq
            exact hq
        · rw [if_neg q4, if_pos (by omega)] at hq; exact hq
        · rw [if_pos q4] at hq; exact hq
      · rw [if_pos u] at hq; exact hq
    · rw [if_neg (fun z => bI_0.mp q2 z.2)] at hq; exact hq
