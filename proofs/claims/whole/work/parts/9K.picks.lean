section
/-! THE SYSTEM'S PICK -/
abbrev PPx (x1 x2 x q : Int) : Prop := (q = x1 ∨ q = x2 + 1) ∨ (q = x ∨ q = x + 1)
def PickS (F F1 : AF) (G G1 : AG) (g x1 y1 x2 y2 n z : Int) : Prop :=
  (¬ ((0 ≤ g ∧ g ≤ 2) ∧ recS F x1 y1 x2 y2) → z = -2 ∧ SS F F1 G G1) ∧
  ((0 ≤ g ∧ g ≤ 2) ∧ recS F x1 y1 x2 y2 → (¬ (1 ≤ n ∧ n ≤ 3000000000000000000) → z = -3 ∧ SS F F1 G G1) ∧
  (1 ≤ n ∧ n ≤ 3000000000000000000 → (aS (vC F G 18 g) x1 y1 x2 y2 < n → z = -5 ∧ SS F F1 G G1) ∧
  (∀ x y r : Int, FC (vC F G 18 g) x1 y1 x2 y2 n x y r → (¬ (RgB (NB F G 4 (PPx x1 x2 x)) (F 4 2) ∧ RgB (NB F G 11 (PPx y1 y2 y)) (F 11 2)) → z = -4 ∧ SS F F1 G G1) ∧
  (RgB (NB F G 4 (PPx x1 x2 x)) (F 4 2) ∧ RgB (NB F G 11 (PPx y1 y2 y)) (F 11 2) → z = F 4 2 * y + x ∧ SDn F F1 G G1 g (tPick (vC F G 18 g) x1 y1 x2 x y r) (PPx x1 x2 x) (PPx y1 y2 y) (nv 1 g x1 y1 x2 y2 n)))))
theorem sid_of {F : AF} {G : AG} {x1 y1 x2 y2 : Int} (q1 : 0 ≤ x1) (q2 : x1 ≤ x2) (q3 : x2 < F 4 2) (q4 : 0 ≤ y1) (q5 : y1 ≤ y2) (q6 : y2 < F 11 2) (a : isD (G 7) (F 6 1) x1) (b : isD (G 7) (F 6 1) (x2 + 1)) (c : isD (G 14) (F 13 1) y1) (d : isD (G 14) (F 13 1) (y2 + 1)) : Sid F G x1 y1 x2 y2 := ⟨q1, q2, q3, q4, q5, q6, a, b, c, d⟩
theorem cs_pick {d : Nat} {S : AS} {F : AF} {G : AG} {b : Int} (hd : 6 ≤ d) (h : CI S F G b) (hb : b ≤ 1000000) {n : Int} (hn : r64 n) (g x1 y1 x2 y2 : Int) {Q : AQ} (hq : ∀ F1 G1 z, PickS F F1 G G1 g x1 y1 x2 y2 n z → SFr F F1 G G1 → CI S F1 G1 (b + 1) → Q (some (vJ z)) S F1 G1) : Ok d MX9_pick [vR 1, vI g, vI x1, vI y1, vI x2, vI y2, vJ n] S F G Q := by
  have hsh := h.1.1
  have hq0 : ∀ F1 G1 z, SS F F1 G G1 → PickS F F1 G G1 g x1 y1 x2 y2 n z → Q (some (vJ z)) S F1 G1 := fun F1 G1 z s a => hq F1 G1 z a (sfr_ss s) (ci_up (ci_ss h s) (by omega))
  refine ok_go rfl (by decide) (Nat.le_of_ble_eq_true rfl) (R_X9_pick_0 hsh ?_)
  unfold V_X9_pick_0
  refine ⟨by omega, _, pu_cisGood hsh g, fun y => ?_, fun y => ok_askC (by omega) h _ _ _ _ ⟨rfl, _, rfl, fun q2 => ?_, fun q2 => ?_⟩⟩
  · exact hq0 F G _ (ss_rf F G) ⟨fun _ => ⟨rfl, ss_rf F G⟩, fun z => absurd z.1 (bI_0.mp y)⟩
  · have yg : 0 ≤ g ∧ g ≤ 2 := Classical.byContradiction (fun z => y (bI_f z))
    have yr : recS F x1 y1 x2 y2 := Classical.byContradiction (fun z => q2 (bI_f z))
    have s51 := ss_51 (F := F) (G := G) x1 y1 x2 y2
    have bad : ¬ (1 ≤ n ∧ n ≤ 3000000000000000000) → Q (some (vJ (-3))) S (setR F 51 x1 y1 x2 y2) G := fun z => hq0 _ _ _ s51 ⟨fun m => absurd ⟨yg, yr⟩ m, fun _ => ⟨fun _ => ⟨rfl, s51⟩, fun m => absurd m z⟩⟩
    refine ⟨fun z => bad (fun m => by omega), fun z => ⟨fun z2 => ?_, fun z2 => bad (fun m => by omega)⟩⟩
    have vk : 1 ≤ n ∧ n ≤ 3000000000000000000 := ⟨by omega, z2⟩
    obtain ⟨hI, t1, t2, t3⟩ := ask_inC h yr
    have w4 : setR F 51 x1 y1 x2 y2 4 = F 4 := setR_c (by decide)
    have w11 : setR F 51 x1 y1 x2 y2 11 = F 11 := setR_c (by decide)
    have v18 : vC (setR F 51 x1 y1 x2 y2) G 18 g = vC F G 18 g := by rw [ss_vC s51 rfl]
    obtain ⟨q1, q2', q3, q4, q5, q6⟩ := id yr
    have hpos : ∀ x y : Int, x1 ≤ x → x ≤ x2 → y1 ≤ y → y ≤ y2 → 0 ≤ vC F G 18 g x y := fun x y a b c e => (ci_vC h yg.1 yg.2 (by omega) (by omega) (by omega) (by omega)).1
    have c4 := h.2.1.1.2.2.2.1
    have c11 := h.2.1.2.1.2.2.2.1
    refine ok_locC (by omega) hI (at_51 hsh) yg.1 yg.2 vk.1 hn setR_0 setR_1 setR_2 setR_3 (by unfold recS; rw [w4, w11]; exact yr) (fun F15 x y' r s34 fc e4 e5 e6 => ⟨rfl, _, rfl, fun _ => ?_, fun z => absurd z (by decide)⟩) (fun F15 s34 lt => ⟨rfl, _, rfl, fun z => absurd rfl z, fun _ => ?_⟩)
    · rw [v18] at fc e6
      obtain ⟨f1, f2, f3, f4, f5, f6, f7⟩ := id fc
      intro x18 ex y19 ey
      rw [e4] at ex
      rw [e5] at ey
      subst ex ey
      have s15 : SS F F15 G G := ss_tr s51 (ss_34 s34)
      have h15 := ci_ss h s15
      have f51 : F15 51 = setR F 51 x1 y1 x2 y2 51 := s34 51 (by decide)
      have u4 : F15 4 = F 4 := (s34 4 (by decide)).trans w4
      have u11 : F15 11 = F 11 := (s34 11 (by decide)).trans w11
      have z0 : F15 51 0 = x1 := by rw [f51, setR_0]
      have z1' : F15 51 1 = y1 := by rw [f51, setR_1]
      have z2' : F15 51 2 = x2 := by rw [f51, setR_2]
      have z3 : F15 51 3 = y2 := by rw [f51, setR_3]
      refine ok_plan (by omega) hsh h15.2.1 (at_51 hsh) (by decide) (by decide) (by unfold RO; rw [z0, z1', z2', z3]; omega) (fun F22 G23 pl0 => ⟨rfl, rfl, ?_⟩)
      rw [z0, z1', z2', z3] at pl0
      have n4 := h15.2.1.1.2.1
      have n11 := h15.2.1.2.1.2.1
      refine ok_planSpan (by omega) (at_3 hsh) (co_up pl0.2.2.1 (by omega)) (by omega) (fun F26 G27 gr => ⟨rfl, rfl, ?_⟩)
      have pl1 := pln_x pl0 gr
      refine ok_planSpan (by omega) (at_10 hsh) (co_up pl1.2.2.2.1 (by omega)) (by omega) (fun F30 G31 gr2 => ⟨rfl, rfl, ?_⟩)
      have pl := pln_y pl1 gr2
      clear pl0 pl1 gr gr2
      have sp := ss_tr s15 (pln_ss pl)
      have rm := pln_room pl
      have nb4 : ∀ q : Int, NB F15 G 4 (fun q => (q = x1 ∨ q = x2 + 1) ∨ (q = x18 ∨ q = x18 + 1)) q ↔ NB F G 4 (PPx x1 x2 x18) q := fun q => by
        unfold NB
        rw [isC_cg u4 rfl, u4]
      have nb11 : ∀ q : Int, NB F15 G 11 (fun q => (q = y1 ∨ q = y2 + 1) ∨ (q = y19 ∨ q = y19 + 1)) q ↔ NB F G 11 (PPx y1 y2 y19) q := fun q => by
        unfold NB
        rw [isC_cg u11 rfl, u11]
      rw [rgb_c nb4, rgb_c nb11, u4, u11] at rm
      have spec : ∀ F1 G1 z, (¬ (RgB (NB F G 4 (PPx x1 x2 x18)) (F 4 2) ∧ RgB (NB F G 11 (PPx y1 y2 y19)) (F 11 2)) → z = -4 ∧ SS F F1 G G1) → (RgB (NB F G 4 (PPx x1 x2 x18)) (F 4 2) ∧ RgB (NB F G 11 (PPx y1 y2 y19)) (F 11 2) → z = F 4 2 * y19 + x18 ∧ SDn F F1 G G1 g (tPick (vC F G 18 g) x1 y1 x2 x18 y19 r) (PPx x1 x2 x18) (PPx y1 y2 y19) (nv 1 g x1 y1 x2 y2 n)) → PickS F F1 G G1 g x1 y1 x2 y2 n z := by
        intro F1 G1 z p1 p2
        refine ⟨fun m => absurd ⟨yg, yr⟩ m, fun _ => ⟨fun m => absurd vk m, fun _ => ⟨fun m => absurd (fc_le hpos fc) (by omega), fun x y r fc' => ?_⟩⟩⟩
        obtain ⟨ea, eb, ec⟩ := fc_uniq hpos fc' fc
        subst ea eb ec
        exact ⟨p1, p2⟩
      refine ⟨_, pu_plansTooMany (by omega) hsh, fun t => ?_, fun t => ?_⟩
      · have nt := bI_0.mp t
        have n6 : F30 6 1 ≤ 48 := by omega
        have n13 : F30 13 1 ≤ 48 := by omega
        have yrm := And.intro (rm.1.mp n6) (rm.2.mp n13)
        refine ok_stP (by omega) hsh h15.2.1 pl n6 n13 yg.1 yg.2 (fun G41 k41 ts => ⟨rfl, rfl, by omega, ?_⟩)
        rw [ss_vC s15 rfl] at ts
        have k7 : G41 7 = G31 7 := k41 7 (by decide) (by decide) (by decide)
        have k14 : G41 14 = G31 14 := k41 14 (by decide) (by decide) (by decide)
        have o4 : F30 4 = F 4 := (pl.1 4 (by decide) (by decide)).trans u4
        have o11 : F30 11 = F 11 := (pl.1 11 (by decide) (by decide)).trans u11
        have o34 : F30 34 = F15 34 := pl.1 34 (by decide) (by decide)
        have dX : ∀ q : Int, 0 ≤ q → q ≤ F 4 2 → PPx x1 x2 x18 q → isD (G31 7) (F30 6 1) q := fun q a c e => pln_dx pl a (by rw [u4]; exact c) e
        have dY : ∀ q : Int, 0 ≤ q → q ≤ F 11 2 → PPx y1 y2 y19 q → isD (G31 14) (F30 13 1) q := fun q a c e => pln_dy pl a (by rw [u11]; exact c) e
        refine ok_fillC (by omega) hsh ts q1 q4 (fun a1 a2 => sid_of q1 q2' (by rw [o4]; exact q3) q4 a2 (by rw [o11]; omega) (by rw [k7]; exact dX _ q1 (by omega) (Or.inl (Or.inl rfl))) (by rw [k7]; exact dX _ (by omega) (by omega) (Or.inl (Or.inr rfl))) (by rw [k14]; exact dY _ q4 (by omega) (Or.inl (Or.inl rfl))) (by rw [k14]; exact dY _ (by omega) (by omega) (Or.inr (Or.inl (by omega))))) (fun G46 k46 ts1 => ⟨rfl, rfl, by omega, ?_⟩)
        refine ok_fillC (by omega) hsh ts1 q1 (by omega) (fun a1 a2 => sid_of q1 a1 (by rw [o4]; omega) (by omega) a2 (by rw [o11]; omega) (by rw [k46 7 (by decide), k7]; exact dX _ q1 (by omega) (Or.inl (Or.inl rfl))) (by rw [k46 7 (by decide), k7]; exact dX _ (by omega) (by omega) (Or.inr (Or.inl (by omega)))) (by rw [k46 14 (by decide), k14]; exact dY _ (by omega) (by omega) (Or.inr (Or.inl rfl))) (by rw [k46 14 (by decide), k14]; exact dY _ (by omega) (by omega) (Or.inr (Or.inr rfl)))) (fun G51 k51 ts2 => ⟨rfl, rfl, ?_⟩)
        have l6 : F30 34 6 = vC F G 18 g x18 y19 - r := by rw [o34]; exact e6
        rw [l6]
        refine ok_fillC (by omega) hsh ts2 (by omega) (by omega) (fun a1 a2 => sid_of (by omega) a1 (by rw [o4]; omega) (by omega) a2 (by rw [o11]; omega) (by rw [k51 7 (by decide), k46 7 (by decide), k7]; exact dX _ (by omega) (by omega) (Or.inr (Or.inl rfl))) (by rw [k51 7 (by decide), k46 7 (by decide), k7]; exact dX _ (by omega) (by omega) (Or.inr (Or.inr rfl))) (by rw [k51 14 (by decide), k46 14 (by decide), k14]; exact dY _ (by omega) (by omega) (Or.inr (Or.inl rfl))) (by rw [k51 14 (by decide), k46 14 (by decide), k14]; exact dY _ (by omega) (by omega) (Or.inr (Or.inr rfl)))) (fun G55 k55 ts3 => ⟨rfl, rfl, ?_⟩)
        have s55 : SS F F30 G G55 := ss_tr sp (ss_tr (ss_G (fun c _ a8 _ _ a15 _ a19 => k41 c a8 a15 a19)) (ss_G (fun c _ _ _ _ _ _ a19 => (k55 c a19).trans ((k51 c a19).trans (k46 c a19)))))
        have k55' : G55 7 = G31 7 := by rw [k55 7 (by decide), k51 7 (by decide), k46 7 (by decide), k7]
        have k55'' : G55 14 = G31 14 := by rw [k55 14 (by decide), k51 14 (by decide), k46 14 (by decide), k14]
        have o51 : F30 51 = F15 51 := pl.1 51 (by decide) (by decide)
        refine ok_keepC (PX := PPx x1 x2 x18) (PY := PPx y1 y2 y19) (by omega) h hb s55 ts3 (fun q => ?_) (fun q => ?_) yg.1 yg.2 (fun F58 G59 dn => ⟨rfl, rfl, ?_⟩)
        · have := pl.2.2.2.2.2.2.2.2.1 q
          rw [isC_cg u4 rfl, u4] at this
          rw [← this]
          exact isC_cg rfl k55' q
        · have := pl.2.2.2.2.2.2.2.2.2 q
          rw [isC_cg u11 rfl, u11] at this
          rw [← this]
          exact isC_cg rfl k55'' q
        · rw [o51, z0, z1', z2', z3] at dn
          have dn' : SDn F F58 G G59 g (tPick (vC F G 18 g) x1 y1 x2 x18 y19 r) (PPx x1 x2 x18) (PPx y1 y2 y19) (nv 1 g x1 y1 x2 y2 n) := dn
          clear dn
          have hci : CI S F58 G59 (b + 1) := by
            refine ci_done h dn' yg.1 yg.2 (fun x y x0 xw y0 yw => ?_) ?_
            · obtain ⟨p1, p2, p3, p4⟩ := ci_vC h yg.1 yg.2 x0 xw y0 yw
              have := tPick_in fc p1
              rw [vu_g yg.1]
              omega
            · rw [aS_tPick fc q1 (by omega) q4 (by omega)]
              have := h.2.2.2.2.1.2 g yg.1 yg.2
              omega
          have pn := pu_cnumber (d := d - 1) (S := S) (by omega) hsh hci.2.1 (x := x18) (y := y19) (by omega) (by omega) (by omega) (by omega)
          rw [dn'.2.2.1.2.1] at pn
          exact ⟨_, pn, hq F58 G59 _ (spec _ _ _ (fun m => absurd yrm m) (fun _ => ⟨rfl, dn'⟩)) (sfr_dn dn') hci⟩
      · have nt : ¬ (F30 6 1 ≤ 48 ∧ F30 13 1 ≤ 48) := fun z => t (bI_f (by omega))
        exact hq0 _ _ _ sp (spec _ _ _ (fun _ => ⟨rfl, sp⟩) (fun m => absurd ⟨rm.1.mpr m.1, rm.2.mpr m.2⟩ nt))
    · rw [v18] at lt
      have s15 : SS F F15 G G := ss_tr s51 (ss_34 s34)
      refine hq0 _ _ _ s15 ⟨fun m => absurd ⟨yg, yr⟩ m, fun _ => ⟨fun m => absurd vk m, fun _ => ⟨fun _ => ⟨rfl, s15⟩, fun x y r fc => absurd (fc_le hpos fc) (by omega)⟩⟩⟩
  · exact hq0 _ _ _ (ss_51 x1 y1 x2 y2) ⟨fun _ => ⟨rfl, ss_51 x1 y1 x2 y2⟩, fun z => absurd z.2 (bI_0.mp q2)⟩
end
