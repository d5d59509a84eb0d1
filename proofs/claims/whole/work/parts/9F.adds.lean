section
/-! THE SYSTEM'S ADD -/
noncomputable def tAdd (F : AF) (G : AG) (g x1 y1 x2 y2 v x y : Int) : Int := if inR x1 y1 x2 y2 x y then vC F G 18 g x y + v else vC F G 18 g x y
noncomputable def adS (F : AF) (G : AG) (g x1 y1 x2 y2 v : Int) : Int := adR (setR F 51 x1 y1 x2 y2) G 51 g v
abbrev PAx (x1 x2 q : Int) : Prop := q = x1 ∨ q = x2 + 1
def AddS (F F1 : AF) (G G1 : AG) (g x1 y1 x2 y2 v z : Int) : Prop :=
  (¬ ((0 ≤ g ∧ g ≤ 2) ∧ recS F x1 y1 x2 y2) → z = -2 ∧ SS F F1 G G1) ∧
  ((0 ≤ g ∧ g ≤ 2) ∧ recS F x1 y1 x2 y2 → (¬ (¬ v = 0 ∧ -1000000000 ≤ v ∧ v ≤ 1000000000) → z = -3 ∧ SS F F1 G G1) ∧
  (¬ v = 0 ∧ -1000000000 ≤ v ∧ v ≤ 1000000000 → (¬ adS F G g x1 y1 x2 y2 v = 0 → z = adS F G g x1 y1 x2 y2 v ∧ SS F F1 G G1) ∧
  (adS F G g x1 y1 x2 y2 v = 0 → (¬ (RgB (NB F G 4 (PAx x1 x2)) (F 4 2) ∧ RgB (NB F G 11 (PAx y1 y2)) (F 11 2)) → z = -4 ∧ SS F F1 G G1) ∧
  (RgB (NB F G 4 (PAx x1 x2)) (F 4 2) ∧ RgB (NB F G 11 (PAx y1 y2)) (F 11 2) → z = aS (tAdd F G g x1 y1 x2 y2 v) 0 0 (F 4 2 - 1) (F 11 2 - 1) ∧ SDn F F1 G G1 g (tAdd F G g x1 y1 x2 y2 v) (PAx x1 x2) (PAx y1 y2) (nv 0 g x1 y1 x2 y2 v)))))
theorem adR_0 {F : AF} {G : AG} {re : Nat} {g v : Int} (h : adR F G re g v = 0) : (∀ x y : Int, inR (F re 0) (F re 1) (F re 2) (F re 3) x y → 0 ≤ vu F G 18 g x y + v) ∧ (0 ≤ v → (∀ x y : Int, inR (F re 0) (F re 1) (F re 2) (F re 3) x y → vu F G 18 (-1) x y + v ≤ F 2 7) ∧ aS (vu F G 18 g) 0 0 (F 4 2 - 1) (F 11 2 - 1) + (F re 2 - F re 0 + 1) * (F re 3 - F re 1 + 1) * v ≤ 3000000000000000000) := by
  classical
  simp only [adR] at h
  split at h
  · exact absurd h (by decide)
  · rename_i n5
    refine ⟨fun x y r => Classical.byContradiction (fun z => n5 ⟨x, y, r, by omega⟩), fun v0 => ?_⟩
    rw [if_neg (by omega)] at h
    split at h
    · exact absurd h (by decide)
    · rename_i n7
      split at h
      · exact absurd h (by decide)
      · split at h
        · exact absurd h (by decide)
        · rename_i n9 n6
          exact ⟨fun x y r => Classical.byContradiction (fun z => n7 ⟨x, y, r, by omega⟩), by omega⟩
theorem aS_tAdd {F : AF} {G : AG} {g x1 y1 x2 y2 v : Int} (r : recS F x1 y1 x2 y2) : aS (tAdd F G g x1 y1 x2 y2 v) 0 0 (F 4 2 - 1) (F 11 2 - 1) = aS (vC F G 18 g) 0 0 (F 4 2 - 1) (F 11 2 - 1) + (x2 - x1 + 1) * (y2 - y1 + 1) * v := by
  obtain ⟨r1, r2, r3, r4, r5, r6⟩ := r
  have e : aS (tAdd F G g x1 y1 x2 y2 v) 0 0 (F 4 2 - 1) (F 11 2 - 1) = aS (fun x y => vC F G 18 g x y + (if x1 ≤ x ∧ x ≤ x2 ∧ y1 ≤ y ∧ y ≤ y2 then (fun _ _ => v) x y else 0)) 0 0 (F 4 2 - 1) (F 11 2 - 1) := by
    refine aS_congr (fun x y _ _ _ _ => ?_)
    unfold tAdd
    by_cases c : x1 ≤ x ∧ x ≤ x2 ∧ y1 ≤ y ∧ y ≤ y2
    · rw [if_pos c, if_pos c]
    · rw [if_neg c, if_neg c, Int.add_zero]
  rw [e, aS_add, aS_in]
  congr 1
  have m1 : max x1 0 = x1 := by omega
  have m2 : max y1 0 = y1 := by omega
  have m3 : min x2 (F 4 2 - 1) = x2 := by omega
  have m4 : min y2 (F 11 2 - 1) = y2 := by omega
  rw [m1, m2, m3, m4]
  exact aS_const v (by omega) (by omega)
theorem cs_add {d : Nat} {S : AS} {F : AF} {G : AG} {b : Int} (hd : 6 ≤ d) (h : CI S F G b) (hb : b ≤ 1000000) (g x1 y1 x2 y2 v : Int) {Q : AQ} (hq : ∀ F1 G1 z, AddS F F1 G G1 g x1 y1 x2 y2 v z → SFr F F1 G G1 → CI S F1 G1 (b + 1) → Q (some (vJ z)) S F1 G1) : Ok d MX9_add [vR 1, vI g, vI x1, vI y1, vI x2, vI y2, vI v] S F G Q := by
  have hsh := h.1.1
  have hq0 : ∀ F1 G1 z, SS F F1 G G1 → AddS F F1 G G1 g x1 y1 x2 y2 v z → Q (some (vJ z)) S F1 G1 := fun F1 G1 z s a => hq F1 G1 z a (sfr_ss s) (ci_up (ci_ss h s) (by omega))
  refine ok_go rfl (by decide) (Nat.le_of_ble_eq_true rfl) (R_X9_add_0 hsh ?_)
  unfold V_X9_add_0
  refine ⟨by omega, _, pu_cisGood hsh g, fun y => ?_, fun y => ok_askC (by omega) h _ _ _ _ ⟨rfl, _, rfl, fun q2 => ?_, fun q2 => ?_⟩⟩
  · exact hq0 F G _ (ss_rf F G) ⟨fun _ => ⟨rfl, ss_rf F G⟩, fun z => absurd z.1 (bI_0.mp y)⟩
  · have yg : 0 ≤ g ∧ g ≤ 2 := Classical.byContradiction (fun z => y (bI_f z))
    have yr : recS F x1 y1 x2 y2 := Classical.byContradiction (fun z => q2 (bI_f z))
    have s51 := ss_51 (F := F) (G := G) x1 y1 x2 y2
    have bad : ¬ (¬ v = 0 ∧ -1000000000 ≤ v ∧ v ≤ 1000000000) → Q (some (vJ (-3))) S (setR F 51 x1 y1 x2 y2) G := fun z => hq0 _ _ _ s51 ⟨fun n => absurd ⟨yg, yr⟩ n, fun _ => ⟨fun _ => ⟨rfl, s51⟩, fun n => absurd n z⟩⟩
    refine ⟨fun z => bad (fun n => n.1 z), fun z => ⟨fun z1 => bad (fun n => by omega), fun z1 => ⟨fun z2 => ?_, fun z2 => bad (fun n => by omega)⟩⟩⟩
    have vk : ¬ v = 0 ∧ -1000000000 ≤ v ∧ v ≤ 1000000000 := ⟨z, by omega, z2⟩
    obtain ⟨hI, r1, r2, r3⟩ := ask_inC h yr
    have hc := hI.2.1
    refine ⟨_, pu_addRefusal (by omega) hsh hc (ci_pba hI) (ci_ct hI) (ci_zi hI) hI.2.2.2.1.2.1 (at_51 hsh) r1 yg.1 yg.2 vk.2.1 vk.2.2, fun a0 => ?_, fun a0 => ?_⟩
    · refine ok_plan (by omega) hsh hc (at_51 hsh) (by decide) (by decide) r3 (fun F21 G22 pl => ⟨rfl, rfl, ?_⟩)
      rw [setR_0, setR_1, setR_2, setR_3] at pl
      have sp := ss_tr s51 (pln_ss pl)
      have rm := pln_room pl
      have w4 : setR F 51 x1 y1 x2 y2 4 = F 4 := setR_c (by decide)
      have w11 : setR F 51 x1 y1 x2 y2 11 = F 11 := setR_c (by decide)
      have nb4 : ∀ q : Int, NB (setR F 51 x1 y1 x2 y2) G 4 (fun q => q = x1 ∨ q = x2 + 1) q ↔ NB F G 4 (PAx x1 x2) q := fun q => by
        unfold NB
        rw [isC_cg w4 rfl, w4]
      have nb11 : ∀ q : Int, NB (setR F 51 x1 y1 x2 y2) G 11 (fun q => q = y1 ∨ q = y2 + 1) q ↔ NB F G 11 (PAx y1 y2) q := fun q => by
        unfold NB
        rw [isC_cg w11 rfl, w11]
      rw [rgb_c nb4, rgb_c nb11, w4, w11] at rm
      refine ⟨_, pu_plansTooMany (by omega) hsh, fun t => ?_, fun t => ?_⟩
      · have nt := bI_0.mp t
        have n6 : F21 6 1 ≤ 48 := by omega
        have n13 : F21 13 1 ≤ 48 := by omega
        have yrm := And.intro (rm.1.mp n6) (rm.2.mp n13)
        refine ok_stP (by omega) hsh hc pl n6 n13 yg.1 yg.2 (fun G32 k32 ts => ⟨rfl, rfl, ?_⟩)
        have f51 : F21 51 = setR F 51 x1 y1 x2 y2 51 := pl.1 51 (by decide) (by decide)
        have v18 : vC (setR F 51 x1 y1 x2 y2) G 18 g = vC F G 18 g := by rw [ss_vC s51 rfl]
        rw [v18] at ts
        have k7 : G32 7 = G22 7 := k32 7 (by decide) (by decide) (by decide)
        have k14 : G32 14 = G22 14 := k32 14 (by decide) (by decide) (by decide)
        have u4 : F21 4 = F 4 := (pl.1 4 (by decide) (by decide)).trans w4
        have u11 : F21 11 = F 11 := (pl.1 11 (by decide) (by decide)).trans w11
        have z0 : F21 51 0 = x1 := by rw [f51, setR_0]
        have z1' : F21 51 1 = y1 := by rw [f51, setR_1]
        have z2' : F21 51 2 = x2 := by rw [f51, setR_2]
        have z3 : F21 51 3 = y2 := by rw [f51, setR_3]
        obtain ⟨q1, q2', q3, q4, q5, q6⟩ := id yr
        have sd : Sid F21 G32 (F21 51 0) (F21 51 1) (F21 51 2) (F21 51 3) := by
          unfold Sid
          rw [z0, z1', z2', z3, u4, u11, k7, k14]
          exact ⟨q1, q2', q3, q4, q5, q6, pln_dx pl q1 (by rw [w4]; omega) (Or.inl rfl), pln_dx pl (by omega) (by rw [w4]; omega) (Or.inr rfl), pln_dy pl q4 (by rw [w11]; omega) (Or.inl rfl), pln_dy pl (by omega) (by rw [w11]; omega) (Or.inr rfl)⟩
        refine ok_raiseC (by omega) hsh (at_51 hsh) ts vk.2.1 vk.2.2 sd (fun x y x0 xw y0 yw => ?_) (fun G36 k36 ts2 => ⟨rfl, rfl, ?_⟩)
        · rw [u4] at xw
          rw [u11] at yw
          have := ci_vC h yg.1 yg.2 x0 xw y0 yw
          omega
        · rw [z0, z1', z2', z3] at ts2
          have s36 : SS F F21 G G36 := ss_tr sp (ss_tr (ss_G (fun c _ a8 _ _ a15 _ a19 => k32 c a8 a15 a19)) (ss_G (fun c _ _ _ _ _ _ a19 => k36 c a19)))
          have k36' : G36 7 = G22 7 := (k36 7 (by decide)).trans k7
          have k36'' : G36 14 = G22 14 := (k36 14 (by decide)).trans k14
          refine ok_keepC (PX := PAx x1 x2) (PY := PAx y1 y2) (by omega) h hb s36 ts2 (fun q => ?_) (fun q => ?_) yg.1 yg.2 (fun F39 G40 dn => ⟨rfl, rfl, ?_⟩)
          · have := pl.2.2.2.2.2.2.2.2.1 q
            rw [isC_cg w4 rfl, w4] at this
            rw [← this]
            exact isC_cg rfl k36' q
          · have := pl.2.2.2.2.2.2.2.2.2 q
            rw [isC_cg w11 rfl, w11] at this
            rw [← this]
            exact isC_cg rfl k36'' q
          · rw [z0, z1', z2', z3] at dn
            have ar := adR_0 a0
            rw [setR_0, setR_1, setR_2, setR_3] at ar
            have vu' : ∀ g : Int, vu (setR F 51 x1 y1 x2 y2) G 18 g = vu F G 18 g := by
              intro g
              funext x y
              unfold vu cv
              rw [w4, w11]
            have f2 : setR F 51 x1 y1 x2 y2 2 = F 2 := setR_c (by decide)
            rw [vu', vu', w4, w11, f2] at ar
            have hvu : aS (vu F G 18 g) 0 0 (F 4 2 - 1) (F 11 2 - 1) = aS (vC F G 18 g) 0 0 (F 4 2 - 1) (F 11 2 - 1) := aS_congr (fun x y _ _ _ _ => vu_g yg.1)
            rw [hvu] at ar
            have tot := aS_tAdd (G := G) (g := g) (v := v) yr
            have cellp := mul_bd (a := x2 - x1 + 1) (b := y2 - y1 + 1) (A := 10000) (B := 10000) (by omega) (by have := h.2.1.1.2.2.2.1; omega) (by omega) (by have := h.2.1.2.1.2.2.2.1; omega)
            have hci : CI S F39 G40 (b + 1) := by
              refine ci_done h dn yg.1 yg.2 (fun x y x0 xw y0 yw => ?_) ?_
              · obtain ⟨c1, c2, c3, c4⟩ := ci_vC h yg.1 yg.2 x0 xw y0 yw
                rw [vu_g yg.1]
                split
                · rename_i ri
                  have a1 := ar.1 x y ri
                  rw [vu_g yg.1] at a1
                  refine ⟨a1, ?_⟩
                  by_cases v0 : 0 ≤ v
                  · have := (ar.2 v0).1 x y ri
                    omega
                  · omega
                · exact ⟨c1, by omega⟩
              · have t0 := h.2.2.2.2.1.2 g yg.1 yg.2
                show aS (tAdd F G g x1 y1 x2 y2 v) 0 0 (F 4 2 - 1) (F 11 2 - 1) ≤ _
                rw [tot]
                by_cases v0 : 0 ≤ v
                · have := (ar.2 v0).2
                  omega
                · have : (x2 - x1 + 1) * (y2 - y1 + 1) * v ≤ 0 := Int.mul_nonpos_of_nonneg_of_nonpos cellp.1 (by omega)
                  omega
            have hc9 := hci.2.1
            have R17 : RI F39 17 := by
              obtain ⟨⟨m1, m2, m3, m4, -⟩, ⟨n1, n2, n3, n4, -⟩, w0, w1, w2, w3⟩ := id hc9
              exact ⟨by omega, by omega, by omega, by omega, by omega, by omega, by omega, by omega⟩
            have pw := pu_csumOf (d := d - 1) (by omega) hsh hc9 (at_17 hsh) (ci_pba hci) (ci_ct hci) (g := g) (by omega) yg.2 R17
            rw [hc9.2.2.1, hc9.2.2.2.1, hc9.2.2.2.2.1, hc9.2.2.2.2.2, csum_aS hc9 18 g (by omega) (by omega) (by omega) (by omega)] at pw
            have ez : aS (vu F39 G40 18 g) 0 0 (F39 4 2 - 1) (F39 11 2 - 1) = aS (tAdd F G g x1 y1 x2 y2 v) 0 0 (F 4 2 - 1) (F 11 2 - 1) := by
              obtain ⟨-, -, ⟨-, dw, dh⟩, -, -, -, -, d8, -⟩ := id dn
              rw [dw, dh]
              exact aS_congr (fun x y x0 x1' y0 y1' => by rw [vu_g yg.1, d8 g x y yg.1 yg.2 x0 (by omega) y0 (by omega), if_pos rfl]; rfl)
            rw [ez] at pw
            refine ⟨_, pw, hq F39 G40 _ ⟨fun n => absurd ⟨yg, yr⟩ n, fun _ => ⟨fun n => absurd vk n, fun _ => ⟨fun n => absurd a0 n, fun _ => ⟨fun n => absurd yrm n, fun _ => ⟨rfl, dn⟩⟩⟩⟩⟩ (sfr_dn dn) hci⟩
      · have nt : ¬ (F21 6 1 ≤ 48 ∧ F21 13 1 ≤ 48) := fun z => t (bI_f (by omega))
        exact hq0 _ _ _ sp ⟨fun n => absurd ⟨yg, yr⟩ n, fun _ => ⟨fun n => absurd vk n, fun _ => ⟨fun n => absurd a0 n, fun _ => ⟨fun _ => ⟨rfl, sp⟩, fun n => absurd ⟨rm.1.mpr n.1, rm.2.mpr n.2⟩ nt⟩⟩⟩⟩
    · exact hq0 _ _ _ s51 ⟨fun n => absurd ⟨yg, yr⟩ n, fun _ => ⟨fun n => absurd vk n, fun _ => ⟨fun _ => ⟨rfl, s51⟩, fun n => absurd n a0⟩⟩⟩
  · exact hq0 _ _ _ (ss_51 x1 y1 x2 y2) ⟨fun _ => ⟨rfl, ss_51 x1 y1 x2 y2⟩, fun z => absurd z.2 (bI_0.mp q2)⟩
end
