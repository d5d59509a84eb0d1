section
/-! THE SYSTEM'S MOVE -/
theorem aS_e {f : Int → Int → Int} {x1 y1 x2 y2 : Int} (h : x2 < x1 ∨ y2 < y1) : aS f x1 y1 x2 y2 = 0 := by
  unfold aS
  rcases h with h | h
  · have : (fun y => dS (fun x => f x y) x1 x2) = fun _ => 0 := by
      funext y
      exact dS_0 _ h
    rw [this, dS_z]
  · exact dS_0 _ h
noncomputable def tMov (f : Int → Int → Int) (x1 y1 x2 y2 dx dy x y : Int) : Int := if inR (x1 + dx) (y1 + dy) (x2 + dx) (y2 + dy) x y then (if inR x1 y1 x2 y2 x y then 0 else f x y) + f (x - dx) (y - dy) else (if inR x1 y1 x2 y2 x y then 0 else f x y)
theorem aS_sub (f g : Int → Int → Int) (x1 y1 x2 y2 : Int) : aS (fun x y => f x y - g x y) x1 y1 x2 y2 = aS f x1 y1 x2 y2 - aS g x1 y1 x2 y2 := by
  have := aS_add (fun x y => f x y - g x y) g x1 y1 x2 y2
  have e : (fun x y => f x y - g x y + g x y) = f := by
    funext x y
    omega
  rw [e] at this
  omega
theorem aS_tMov {f : Int → Int → Int} (x1 y1 x2 y2 dx dy a b c d : Int) : aS (tMov f x1 y1 x2 y2 dx dy) a b c d = aS f a b c d - aS f (max x1 a) (max y1 b) (min x2 c) (min y2 d) + aS f (max (x1 + dx) a - dx) (max (y1 + dy) b - dy) (min (x2 + dx) c - dx) (min (y2 + dy) d - dy) := by
  have e : aS (tMov f x1 y1 x2 y2 dx dy) a b c d = aS (fun x y => (f x y - (if x1 ≤ x ∧ x ≤ x2 ∧ y1 ≤ y ∧ y ≤ y2 then f x y else 0)) + (if x1 + dx ≤ x ∧ x ≤ x2 + dx ∧ y1 + dy ≤ y ∧ y ≤ y2 + dy then (fun x y => f (x - dx) (y - dy)) x y else 0)) a b c d := by
    refine aS_congr (fun x y _ _ _ _ => ?_)
    unfold tMov
    by_cases p : inR (x1 + dx) (y1 + dy) (x2 + dx) (y2 + dy) x y
    · rw [if_pos p, if_pos p]
      dsimp only
      by_cases q : inR x1 y1 x2 y2 x y
      · rw [if_pos q, if_pos q]; omega
      · rw [if_neg q, if_neg q]; omega
    · rw [if_neg p, if_neg p]
      by_cases q : inR x1 y1 x2 y2 x y
      · rw [if_pos q, if_pos q]; omega
      · rw [if_neg q, if_neg q]; omega
  rw [e, aS_add, aS_sub, aS_in, aS_in]
  have sh := aS_shift f (max (x1 + dx) a) (max (y1 + dy) b) (min (x2 + dx) c) (min (y2 + dy) d) (-dx) (-dy)
  have e2 : (fun x y => f (x - dx) (y - dy)) = fun x y => f (x + -dx) (y + -dy) := by
    funext x y
    rw [Int.sub_eq_add_neg, Int.sub_eq_add_neg]
  rw [e2, sh]
  rfl
theorem aS_tMovW {f : Int → Int → Int} {x1 y1 x2 y2 dx dy w h : Int} (r1 : 0 ≤ x1) (r3 : x2 < w) (r4 : 0 ≤ y1) (r6 : y2 < h) (s1 : 0 ≤ x1 + dx) (s3 : x2 + dx < w) (s4 : 0 ≤ y1 + dy) (s6 : y2 + dy < h) : aS (tMov f x1 y1 x2 y2 dx dy) 0 0 (w - 1) (h - 1) = aS f 0 0 (w - 1) (h - 1) := by
  rw [aS_tMov]
  have m1 : max x1 0 = x1 := by omega
  have m2 : max y1 0 = y1 := by omega
  have m3 : min x2 (w - 1) = x2 := by omega
  have m4 : min y2 (h - 1) = y2 := by omega
  have m5 : max (x1 + dx) 0 - dx = x1 := by omega
  have m6 : max (y1 + dy) 0 - dy = y1 := by omega
  have m7 : min (x2 + dx) (w - 1) - dx = x2 := by omega
  have m8 : min (y2 + dy) (h - 1) - dy = y2 := by omega
  rw [m1, m2, m3, m4, m5, m6, m7, m8]
  omega
abbrev PMx (B : Int → Prop) (x1 x2 dx q : Int) : Prop := ((q = x1 ∨ q = x2 + 1) ∨ (q = x1 + dx ∨ q = x2 + dx + 1)) ∨ ∃ c : Int, B c ∧ x1 < c ∧ c ≤ x2 ∧ q = c + dx
/-- alike on the fields of the planned borders -/
def CstT (F : AF) (G : AG) (PX PY : Int → Prop) (T : Int → Int → Int) : Prop := ∀ (e e1 : Int → Int) (n n1 : Int), Sq e n (F 4 2) → (∀ q : Int, isB e n q ↔ NB F G 4 PX q) → Sq e1 n1 (F 11 2) → (∀ q : Int, isB e1 n1 q ↔ NB F G 11 PY q) → ∀ x y : Int, 0 ≤ x → x < F 4 2 → 0 ≤ y → y < F 11 2 → T (e (blk e n x)) (e1 (blk e1 n1 y)) = T x y
theorem ts_cst {F F0 : AF} {G G0 : AG} {T : Int → Int → Int} {PX PY : Int → Prop} (h : TS F G T) (w4 : F 4 2 = F0 4 2) (w11 : F 11 2 = F0 11 2) (h6 : ∀ q : Int, isC F G 6 q ↔ NB F0 G0 4 PX q) (h13 : ∀ q : Int, isC F G 13 q ↔ NB F0 G0 11 PY q) : CstT F0 G0 PX PY T := by
  obtain ⟨t1, t2, t3, t4, t5, t6, t7, t8, t9, t10⟩ := h
  intro e e1 n n1 s hb s1 hb1 x y x0 xw y0 yw
  have s6 : Sq (G 7) (F 6 1) (F0 4 2) := by rw [← w4, ← t4]; exact sq_co t2
  have s13 : Sq (G 14) (F 13 1) (F0 11 2) := by rw [← w11, ← t5]; exact sq_co t3
  obtain ⟨en, ee⟩ := sq_uniq s s6 (fun q => (hb q).trans (h6 q).symm)
  obtain ⟨en1, ee1⟩ := sq_uniq s1 s13 (fun q => (hb1 q).trans (h13 q).symm)
  have b := blk_cg s s6 en ee x0 xw
  have b1 := blk_cg s1 s13 en1 ee1 y0 yw
  have bx := bl_spec s x0 xw
  have by' := bl_spec s1 y0 yw
  have cx := isB_in s ⟨_, bx.1, bx.2.1, rfl⟩
  have cy := isB_in s1 ⟨_, by'.1, by'.2.1, rfl⟩
  rw [← t10 x y x0 (by omega) y0 (by omega), ← t10 _ _ cx.1 (by omega) cy.1 (by omega)]
  have bb := blk_cg s s6 en ee cx.1 cx.2
  have bb1 := blk_cg s1 s13 en1 ee1 cy.1 cy.2
  unfold vT cv
  rw [← bb, ← bb1, bl_at s bx.1 bx.2.1, bl_at s1 by'.1 by'.2.1, b, b1]
theorem tR_0 {F : AF} {G : AG} {g : Int} {T : Int → Int → Int} (h : tR F G g T = 0) : ¬ OvC F G g T ∧ ¬ OvL F G g T := by
  classical
  simp only [tR] at h
  split at h
  · exact absurd h (by decide)
  · rename_i n1
    split at h
    · exact absurd h (by decide)
    · rename_i n2
      exact ⟨n1, n2⟩
theorem vu_ss {F F' : AF} {G G' : AG} (h : SS F F' G G') (g : Int) : vu F' G' 18 g = vu F G 18 g := by
  obtain ⟨⟨-, -, -, e4, -, e11, -⟩, -, ⟨g5, g12, g18, -⟩, -⟩ := ss_f h
  funext x y
  unfold vu cv cu
  rw [e4, e11, g5, g12, g18]
theorem tR_ss {F F' : AF} {G G' : AG} (h : SS F F' G G') (g : Int) (T : Int → Int → Int) : tR F' G' g T = tR F G g T := by
  classical
  obtain ⟨⟨-, e2, -, e4, -, e11, -⟩, ez, -, -⟩ := ss_f h
  have a : OvC F' G' g T ↔ OvC F G g T := by
    unfold OvC
    rw [vu_ss h, vu_ss h, e4, e11, e2]
  have b : OvL F' G' g T ↔ OvL F G g T := by
    unfold OvL aR
    rw [vu_ss h, vu_ss h]
    constructor
    · rintro ⟨z, z0, z1, q⟩
      rw [ez (22 + 2 * z.toNat) (by omega) (by omega), ez (22 + 2 * z.toNat + 1) (by omega) (by omega)] at q
      exact ⟨z, z0, z1, q⟩
    · rintro ⟨z, z0, z1, q⟩
      refine ⟨z, z0, z1, ?_⟩
      rw [ez (22 + 2 * z.toNat) (by omega) (by omega), ez (22 + 2 * z.toNat + 1) (by omega) (by omega)]
      exact q
  simp only [tR]
  by_cases c : OvC F G g T
  · rw [if_pos c, if_pos (a.mpr c)]
  · rw [if_neg c, if_neg (fun z => c (a.mp z))]
    by_cases c2 : OvL F G g T
    · rw [if_pos c2, if_pos (b.mpr c2)]
    · rw [if_neg c2, if_neg (fun z => c2 (b.mp z))]
def MoveS (F F1 : AF) (G G1 : AG) (g x1 y1 x2 y2 dx dy z : Int) : Prop :=
  (¬ ((0 ≤ g ∧ g ≤ 2) ∧ recS F x1 y1 x2 y2) → z = -2 ∧ SS F F1 G G1) ∧
  ((0 ≤ g ∧ g ≤ 2) ∧ recS F x1 y1 x2 y2 → (¬ ((-9999 ≤ dx ∧ dx ≤ 9999) ∧ (-9999 ≤ dy ∧ dy ≤ 9999) ∧ ¬ (dx = 0 ∧ dy = 0)) → z = -3 ∧ SS F F1 G G1) ∧
  ((-9999 ≤ dx ∧ dx ≤ 9999) ∧ (-9999 ≤ dy ∧ dy ≤ 9999) ∧ ¬ (dx = 0 ∧ dy = 0) → (¬ recS F (x1 + dx) (y1 + dy) (x2 + dx) (y2 + dy) → z = -2 ∧ SS F F1 G G1) ∧
  (recS F (x1 + dx) (y1 + dy) (x2 + dx) (y2 + dy) → (¬ (RgB (NB F G 4 (PMx (isC F G 4) x1 x2 dx)) (F 4 2) ∧ RgB (NB F G 11 (PMx (isC F G 11) y1 y2 dy)) (F 11 2)) → z = -4 ∧ SS F F1 G G1) ∧
  (RgB (NB F G 4 (PMx (isC F G 4) x1 x2 dx)) (F 4 2) ∧ RgB (NB F G 11 (PMx (isC F G 11) y1 y2 dy)) (F 11 2) → CstT F G (PMx (isC F G 4) x1 x2 dx) (PMx (isC F G 11) y1 y2 dy) (tMov (vC F G 18 g) x1 y1 x2 y2 dx dy) ∧ (¬ tR F G g (tMov (vC F G 18 g) x1 y1 x2 y2 dx dy) = 0 → z = tR F G g (tMov (vC F G 18 g) x1 y1 x2 y2 dx dy) ∧ SS F F1 G G1) ∧
  (tR F G g (tMov (vC F G 18 g) x1 y1 x2 y2 dx dy) = 0 → z = aS (vC F G 18 g) x1 y1 x2 y2 ∧ SDn F F1 G G1 g (tMov (vC F G 18 g) x1 y1 x2 y2 dx dy) (PMx (isC F G 4) x1 x2 dx) (PMx (isC F G 11) y1 y2 dy) (nv 2 g x1 y1 x2 y2 (100000 * dx + dy)))))))
theorem cs_move {d : Nat} {S : AS} {F : AF} {G : AG} {b : Int} (hd : 6 ≤ d) (h : CI S F G b) (hb : b ≤ 1000000) (g x1 y1 x2 y2 dx dy : Int) {Q : AQ} (hq : ∀ F1 G1 z, MoveS F F1 G G1 g x1 y1 x2 y2 dx dy z → SFr F F1 G G1 → CI S F1 G1 (b + 1) → Q (some (vJ z)) S F1 G1) : Ok d MX9_move [vR 1, vI g, vI x1, vI y1, vI x2, vI y2, vI dx, vI dy] S F G Q := by
  have hsh := h.1.1
  have hq0 : ∀ F1 G1 z, SS F F1 G G1 → MoveS F F1 G G1 g x1 y1 x2 y2 dx dy z → Q (some (vJ z)) S F1 G1 := fun F1 G1 z s a => hq F1 G1 z a (sfr_ss s) (ci_up (ci_ss h s) (by omega))
  refine ok_go rfl (by decide) (Nat.le_of_ble_eq_true rfl) (R_X9_move_0 hsh ?_)
  unfold V_X9_move_0
  refine ⟨by omega, _, pu_cisGood hsh g, fun y => ?_, fun y => ok_askC (by omega) h _ _ _ _ ⟨rfl, _, rfl, fun q2 => ?_, fun q2 => ?_⟩⟩
  · exact hq0 F G _ (ss_rf F G) ⟨fun _ => ⟨rfl, ss_rf F G⟩, fun z => absurd z.1 (bI_0.mp y)⟩
  · have yg : 0 ≤ g ∧ g ≤ 2 := Classical.byContradiction (fun z => y (bI_f z))
    have yr : recS F x1 y1 x2 y2 := Classical.byContradiction (fun z => q2 (bI_f z))
    have s51 := ss_51 (F := F) (G := G) x1 y1 x2 y2
    have bad : ¬ ((-9999 ≤ dx ∧ dx ≤ 9999) ∧ (-9999 ≤ dy ∧ dy ≤ 9999) ∧ ¬ (dx = 0 ∧ dy = 0)) → Q (some (vJ (-3))) S (setR F 51 x1 y1 x2 y2) G := fun z => hq0 _ _ _ s51 ⟨fun n => absurd ⟨yg, yr⟩ n, fun _ => ⟨fun _ => ⟨rfl, s51⟩, fun n => absurd n z⟩⟩
    suffices main : (-9999 ≤ dx ∧ dx ≤ 9999) ∧ (-9999 ≤ dy ∧ dy ≤ 9999) ∧ ¬ (dx = 0 ∧ dy = 0) → V_X9_move_54 d S (setR F 51 x1 y1 x2 y2) G Q g x1 y1 x2 y2 dx dy by
      refine ⟨_, pu_isShift hsh dx, fun p => bad (fun n => bI_0.mp p n.1), fun p => ⟨_, pu_isShift hsh dy, fun p2 => bad (fun n => bI_0.mp p2 n.2.1), fun p2 => ⟨fun p3 => main ⟨Classical.byContradiction (fun z => p (bI_f z)), Classical.byContradiction (fun z => p2 (bI_f z)), fun n => p3 n.1⟩, fun p3 => ⟨fun p4 => main ⟨Classical.byContradiction (fun z => p (bI_f z)), Classical.byContradiction (fun z => p2 (bI_f z)), fun n => p4 n.2⟩, fun p4 => bad (fun n => n.2.2 ⟨p3, p4⟩)⟩⟩⟩⟩
    intro vk
    obtain ⟨q1, q2', q3, q4, q5, q6⟩ := id yr
    have c4 := h.2.1.1.2.2.2.1
    have c11 := h.2.1.2.1.2.2.2.1
    have n4 := h.2.1.1.2.1
    have n11 := h.2.1.2.1.2.1
    have s52 : SS F (setR (setR F 51 x1 y1 x2 y2) 52 (x1 + dx) (y1 + dy) (x2 + dx) (y2 + dy)) G G := ss_tr s51 (ss_52 _ _ _ _)
    have z0 : setR (setR F 51 x1 y1 x2 y2) 52 (x1 + dx) (y1 + dy) (x2 + dx) (y2 + dy) 51 = setR F 51 x1 y1 x2 y2 51 := setR_c (by decide)
    unfold V_X9_move_54
    refine ⟨by omega, by omega, by omega, by omega, by omega, ok_set (at_52 hsh) _ _ _ _ ⟨rfl, rfl, ?_⟩⟩
    have ph := pu_holds (d := d - 1) (S := S) hsh (at_52 hsh) (ci_ss h s52).2.1
    rw [setR_0, setR_1, setR_2, setR_3] at ph
    generalize hA : setR (setR F 51 x1 y1 x2 y2) 52 (x1 + dx) (y1 + dy) (x2 + dx) (y2 + dy) = A at s52 z0 ph ⊢
    have a0 : A 51 0 = x1 := by rw [z0, setR_0]
    have a1 : A 51 1 = y1 := by rw [z0, setR_1]
    have a2 : A 51 2 = x2 := by rw [z0, setR_2]
    have a3 : A 51 3 = y2 := by rw [z0, setR_3]
    have b0 : A 52 0 = x1 + dx := by rw [← hA, setR_0]
    have b1 : A 52 1 = y1 + dy := by rw [← hA, setR_1]
    have b2 : A 52 2 = x2 + dx := by rw [← hA, setR_2]
    have b3 : A 52 3 = y2 + dy := by rw [← hA, setR_3]
    obtain ⟨⟨-, e2, -, u4, -, u11, -⟩, -, -, -⟩ := ss_f s52
    rw [u4, u11] at ph
    refine ⟨_, ph, fun p => ?_, fun p => hq0 _ _ _ s52 ⟨fun n => absurd ⟨yg, yr⟩ n, fun _ => ⟨fun n => absurd vk n, fun _ => ⟨fun _ => ⟨rfl, s52⟩, fun n => absurd n (bI_0.mp p)⟩⟩⟩⟩
    have yo : recS F (x1 + dx) (y1 + dy) (x2 + dx) (y2 + dy) := Classical.byContradiction (fun z => p (bI_f z))
    have hA' := ci_ss h s52
    refine ok_plan (by omega) hsh hA'.2.1 (at_51 hsh) (by decide) (by decide) (by unfold RO; rw [a0, a1, a2, a3]; omega) (fun F18 G19 pl0 => ⟨rfl, rfl, ?_⟩)
    rw [a0, a1, a2, a3] at pl0
    refine ok_planMore (by omega) hsh (at_52 hsh) (by decide) (by decide) pl0 (by rw [u4]; omega) (by rw [u11]; omega) (by unfold RO; rw [b0, b1, b2, b3]; omega) (fun F22 G23 pl1 => ⟨rfl, rfl, ?_⟩)
    rw [b0, b1, b2, b3] at pl1
    have v4 : F22 4 = F 4 := (pl1.1 4 (by decide) (by decide)).trans u4
    have v11 : F22 11 = F 11 := (pl1.1 11 (by decide) (by decide)).trans u11
    have v5 : G23 5 = G 5 := pl1.2.1 5 (by decide) (by decide)
    have v12 : G23 12 = G 12 := pl1.2.1 12 (by decide) (by decide)
    refine ok_planShifted (by omega) (at_3 hsh) (co_cg v4 v5 h.2.1.1) (co_up pl1.2.2.1 (by rw [u4]; omega)) vk.1.1 vk.1.2 (fun F26 G27 gr => ⟨rfl, rfl, ?_⟩)
    have pl2 := pln_x pl1 gr
    have v11' : F26 11 = F 11 := (gr.1.1 11 (by decide)).trans v11
    have v12' : G27 12 = G 12 := (gr.1.2.1 12 (by decide)).trans v12
    refine ok_planShifted (by omega) (at_10 hsh) (co_cg v11' v12' h.2.1.2.1) (co_up pl2.2.2.2.1 (by rw [u11]; omega)) vk.2.1.1 vk.2.1.2 (fun F30 G31 gr2 => ⟨rfl, rfl, ?_⟩)
    have pl := pln_y pl2 gr2
    have sp := ss_tr s52 (pln_ss pl)
    have rm := pln_room pl
    have is4 : ∀ q : Int, isC F22 G23 4 q ↔ isC F G 4 q := fun q => isC_cg v4 v5 q
    have is11 : ∀ q : Int, isC F26 G27 11 q ↔ isC F G 11 q := fun q => isC_cg v11' v12' q
    have pm4 : ∀ q : Int, (((q = x1 ∨ q = x2 + 1) ∨ q = x1 + dx ∨ q = x2 + dx + 1) ∨ ∃ c : Int, isC F22 G23 4 c ∧ x1 < c ∧ c ≤ x2 ∧ q = c + dx) ↔ PMx (isC F G 4) x1 x2 dx q := fun q => ⟨fun z => z.imp id (fun ⟨c, p, r⟩ => ⟨c, (is4 c).mp p, r⟩), fun z => z.imp id (fun ⟨c, p, r⟩ => ⟨c, (is4 c).mpr p, r⟩)⟩
    have pm11 : ∀ q : Int, (((q = y1 ∨ q = y2 + 1) ∨ q = y1 + dy ∨ q = y2 + dy + 1) ∨ ∃ c : Int, isC F26 G27 11 c ∧ y1 < c ∧ c ≤ y2 ∧ q = c + dy) ↔ PMx (isC F G 11) y1 y2 dy q := fun q => ⟨fun z => z.imp id (fun ⟨c, p, r⟩ => ⟨c, (is11 c).mp p, r⟩), fun z => z.imp id (fun ⟨c, p, r⟩ => ⟨c, (is11 c).mpr p, r⟩)⟩
    have nb4 : ∀ q : Int, NB A G 4 (fun q => ((q = x1 ∨ q = x2 + 1) ∨ q = x1 + dx ∨ q = x2 + dx + 1) ∨ ∃ c : Int, isC F22 G23 4 c ∧ x1 < c ∧ c ≤ x2 ∧ q = c + dx) q ↔ NB F G 4 (PMx (isC F G 4) x1 x2 dx) q := fun q => by
      unfold NB
      rw [isC_cg u4 rfl, u4]
      exact ⟨fun z => z.imp id (fun y => ⟨(pm4 q).mp y.1, y.2⟩), fun z => z.imp id (fun y => ⟨(pm4 q).mpr y.1, y.2⟩)⟩
    have nb11 : ∀ q : Int, NB A G 11 (fun q => ((q = y1 ∨ q = y2 + 1) ∨ q = y1 + dy ∨ q = y2 + dy + 1) ∨ ∃ c : Int, isC F26 G27 11 c ∧ y1 < c ∧ c ≤ y2 ∧ q = c + dy) q ↔ NB F G 11 (PMx (isC F G 11) y1 y2 dy) q := fun q => by
      unfold NB
      rw [isC_cg u11 rfl, u11]
      exact ⟨fun z => z.imp id (fun y => ⟨(pm11 q).mp y.1, y.2⟩), fun z => z.imp id (fun y => ⟨(pm11 q).mpr y.1, y.2⟩)⟩
    have ic6 : ∀ q : Int, isC F30 G31 6 q ↔ NB F G 4 (PMx (isC F G 4) x1 x2 dx) q := fun q => (pl.2.2.2.2.2.2.2.2.1 q).trans (nb4 q)
    have ic13 : ∀ q : Int, isC F30 G31 13 q ↔ NB F G 11 (PMx (isC F G 11) y1 y2 dy) q := fun q => (pl.2.2.2.2.2.2.2.2.2 q).trans (nb11 q)
    rw [rgb_c nb4, rgb_c nb11, u4, u11] at rm
    have dX : ∀ q : Int, 0 ≤ q → q ≤ F 4 2 → PMx (isC F G 4) x1 x2 dx q → isD (G31 7) (F30 6 1) q := fun q a c e => pln_dx pl a (by rw [u4]; exact c) ((pm4 q).mpr e)
    have dY : ∀ q : Int, 0 ≤ q → q ≤ F 11 2 → PMx (isC F G 11) y1 y2 dy q → isD (G31 14) (F30 13 1) q := fun q a c e => pln_dy pl a (by rw [u11]; exact c) ((pm11 q).mpr e)
    have hp := ci_ss h sp
    have cc30 := hp.2.1
    obtain ⟨⟨-, -, -, o4, -, o11, -⟩, -, ⟨o5, o12, -⟩, -⟩ := ss_f sp
    have o51 : F30 51 = A 51 := pl.1 51 (by decide) (by decide)
    have o52 : F30 52 = A 52 := pl.1 52 (by decide) (by decide)
    refine ⟨_, pu_plansTooMany (by omega) hsh, fun t => ?_, fun t => ?_⟩
    · have nt := bI_0.mp t
      have n6 : F30 6 1 ≤ 48 := by clear pm4 pm11 nb4 nb11 ic6 ic13 is4 is11 rm dX dY; omega
      have n13 : F30 13 1 ≤ 48 := by clear pm4 pm11 nb4 nb11 ic6 ic13 is4 is11 rm dX dY; omega
      have yrm := And.intro (rm.1.mp n6) (rm.2.mp n13)
      have c6 : CO F30 G31 6 48 := ⟨pl.2.2.1.1, n6, pl.2.2.1.2.2⟩
      have c13 : CO F30 G31 13 48 := ⟨pl.2.2.2.1.1, n13, pl.2.2.2.1.2.2⟩
      have psum := pu_csumOf (d := d - 1) (by omega) hsh cc30 (at_51 hsh) (ci_pba hp) (ci_ct hp) (g := g) (by omega) yg.2 (by unfold RI; rw [o51, a0, a1, a2, a3, o4, o11]; exact ⟨q1, q3, q4, q6, by omega, by omega, by omega, by omega⟩)
      rw [o51, a0, a1, a2, a3, csum_aS cc30 18 g q1 (by rw [o4]; exact q3) q4 (by rw [o11]; exact q6), vu_ss sp, aS_vu yg.1] at psum
      refine ⟨_, psum, ok_stP (by omega) hsh hA'.2.1 pl n6 n13 yg.1 yg.2 (fun G47 k47 ts => ⟨rfl, rfl, ?_⟩)⟩
      rw [ss_vC s52 rfl] at ts
      have k7 : G47 7 = G31 7 := k47 7 (by decide) (by decide) (by decide)
      have k14 : G47 14 = G31 14 := k47 14 (by decide) (by decide) (by decide)
      refine ok_fillC (by omega) hsh ts q1 q4 (fun _ _ => sid_of q1 q2' (by rw [o4]; exact q3) q4 q5 (by rw [o11]; exact q6) (by rw [k7]; exact dX _ q1 (by omega) (Or.inl (Or.inl (Or.inl rfl)))) (by rw [k7]; exact dX _ (by omega) (by omega) (Or.inl (Or.inl (Or.inr rfl)))) (by rw [k14]; exact dY _ q4 (by omega) (Or.inl (Or.inl (Or.inl rfl)))) (by rw [k14]; exact dY _ (by omega) (by omega) (Or.inl (Or.inl (Or.inr rfl))))) (fun G51 k51 ts1 => ⟨rfl, rfl, ?_⟩)
      have j : ∀ c : Nat, c ≠ 8 → c ≠ 15 → c ≠ 19 → G51 c = G31 c := fun c p q r => (k51 c r).trans (k47 c p q r)
      refine ok_traceSources (by omega) (at_3 hsh) (co_cg o4 ((j 5 (by decide) (by decide) (by decide)).trans o5) h.2.1.1) (co_cg rfl (j 7 (by decide) (by decide) (by decide)) c6) vk.1.1 vk.1.2 q1 (fun G55 k55 s55 => ⟨rfl, rfl, ?_⟩)
      refine ok_traceSources (by omega) (at_10 hsh) (co_cg o11 ((k55 12 (by decide)).trans ((j 12 (by decide) (by decide) (by decide)).trans o12)) h.2.1.2.1) (co_cg rfl ((k55 14 (by decide)).trans (j 14 (by decide) (by decide) (by decide))) c13) vk.2.1.1 vk.2.1.2 q4 (fun G59 k59 s59 => ⟨rfl, rfl, ?_⟩)
      have m : ∀ c : Nat, c ≠ 9 → c ≠ 16 → G59 c = G51 c := fun c p q => (k59 c q).trans (k55 c p)
      have ts2 : TS F30 G59 (fun x y => if inR x1 y1 x2 y2 x y then 0 else vC F G 18 g x y) := by
        obtain ⟨t1, t2, t3, t4, t5, t6, t7, t8, t9, t10⟩ := ts1
        refine ⟨cc_cg rfl rfl rfl (m 5 (by decide) (by decide)) (m 12 (by decide) (by decide)) t1, co_cg rfl (m 7 (by decide) (by decide)) t2, co_cg rfl (m 14 (by decide) (by decide)) t3, t4, t5, by rw [m 5 (by decide) (by decide), m 7 (by decide) (by decide)]; exact t6, by rw [m 12 (by decide) (by decide), m 14 (by decide) (by decide)]; exact t7, by rw [m 8 (by decide) (by decide), m 5 (by decide) (by decide), m 7 (by decide) (by decide)]; exact t8, by rw [m 15 (by decide) (by decide), m 12 (by decide) (by decide), m 14 (by decide) (by decide)]; exact t9, ?_⟩
        have e : vT F30 G59 = vT F30 G51 := by
          funext x y
          unfold vT cv
          rw [m 7 (by decide) (by decide), m 14 (by decide) (by decide), m 19 (by decide) (by decide)]
        rw [e]
        exact t10
      have g7 : G59 7 = G31 7 := (m 7 (by decide) (by decide)).trans (j 7 (by decide) (by decide) (by decide))
      have g14 : G59 14 = G31 14 := (m 14 (by decide) (by decide)).trans (j 14 (by decide) (by decide) (by decide))
      have g5 : G59 5 = G31 5 := (m 5 (by decide) (by decide)).trans (j 5 (by decide) (by decide) (by decide))
      have g12 : G59 12 = G31 12 := (m 12 (by decide) (by decide)).trans (j 12 (by decide) (by decide) (by decide))
      have ss59 : SS F F30 G G59 := ss_tr sp (ss_G (fun c _ a8 a9 _ a15 a16 a19 => (m c a9 a16).trans (j c a8 a15 a19)))
      have v18 : vC F30 G59 18 g = vC F G 18 g := by rw [ss_vC ss59 ((ss_f ss59).2.2.1.2.2.1)]
      have bnd : ∀ x y : Int, 0 ≤ x → x < F30 4 2 → 0 ≤ y → y < F30 11 2 → 0 ≤ vC F G 18 g x y ∧ vC F G 18 g x y ≤ 1000000000000 := fun x y x0 xw y0 yw => by
        rw [o4] at xw
        rw [o11] at yw
        have := ci_vC h yg.1 yg.2 x0 xw y0 yw
        exact ⟨this.1, this.2.1⟩
      refine ok_bringC (x1 := x1) (y1 := y1) (x2 := x2) (y2 := y2) (dx := dx) (dy := dy) (by omega) hsh (at_52 hsh) ts2 yg.1 yg.2 (by rw [o52]; exact b0) (by rw [o52]; exact b1) (by rw [o52]; exact b2) (by rw [o52]; exact b3) q1 q4 (by rw [o4]; exact q3) (by rw [o11]; exact q6) ?_ (fun c hc l1 l2 => ?_) (fun c hc l1 l2 => ?_) (fun i i0 i1 => ?_) (fun i i0 i1 => ?_) (fun x y x0 xw y0 yw => ?_) (by rw [v18]; exact bnd) (fun G63 k63 ts3 => ⟨rfl, rfl, ?_⟩)
      · rw [o52, b0, b1, b2, b3]
        obtain ⟨y1', y2', y3', y4', y5', y6'⟩ := id yo
        exact sid_of y1' y2' (by rw [o4]; exact y3') y4' y5' (by rw [o11]; exact y6') (by rw [g7]; exact dX _ y1' (by omega) (Or.inl (Or.inr (Or.inl rfl)))) (by rw [g7]; exact dX _ (by omega) (by omega) (Or.inl (Or.inr (Or.inr rfl)))) (by rw [g14]; exact dY _ y4' (by omega) (Or.inl (Or.inr (Or.inl rfl)))) (by rw [g14]; exact dY _ (by omega) (by omega) (Or.inl (Or.inr (Or.inr rfl))))
      · rw [g5, o5, o4] at hc
        have hc' : isC F G 4 c := hc
        rw [g7]
        exact (ic6 (c + dx)).mpr (Or.inr ⟨Or.inr ⟨c, hc', l1, l2, rfl⟩, by have := yo.1; omega, by have := yo.2.2.1; omega⟩)
      · rw [g12, o12, o11] at hc
        have hc' : isC F G 11 c := hc
        rw [g14]
        exact (ic13 (c + dy)).mpr (Or.inr ⟨Or.inr ⟨c, hc', l1, l2, rfl⟩, by have := yo.2.2.2.1; omega, by have := yo.2.2.2.2.2; omega⟩)
      · have := s55 i i0 i1
        rw [k59 9 (by decide), g7, cb_cg rfl (m 5 (by decide) (by decide))]
        rw [show G51 (3 + 3 + 1) = G31 7 from j 7 (by decide) (by decide) (by decide)] at this
        exact this
      · have := s59 i i0 i1
        rw [g14, cb_cg rfl (m 12 (by decide) (by decide))]
        rw [show G55 (10 + 3 + 1) = G31 14 from (k55 14 (by decide)).trans (j 14 (by decide) (by decide) (by decide)), cb_cg rfl (k55 12 (by decide))] at this
        exact this
      · have := bnd x y x0 xw y0 yw
        split <;> omega
      · have e18 : vC F30 G59 18 g = vC F G 18 g := v18
        rw [e18] at ts3
        have ts4 : TS F30 G63 (tMov (vC F G 18 g) x1 y1 x2 y2 dx dy) := ts3
        clear ts3
        have ss63 : SS F F30 G G63 := ss_tr ss59 (ss_G (fun c _ _ _ _ _ _ a19 => k63 c a19))
        have h63 := ci_ss h ss63
        obtain ⟨y1', y2', y3', y4', y5', y6'⟩ := id yo
        have tot := aS_tMovW (f := vC F G 18 g) (w := F 4 2) (h := F 11 2) q1 q3 q4 q6 y1' y3' y4' y6'
        have i6 : ∀ q : Int, isC F30 G63 6 q ↔ NB F G 4 (PMx (isC F G 4) x1 x2 dx) q := fun q => (isC_cg rfl ((k63 7 (by decide)).trans g7) q).trans (ic6 q)
        have i13 : ∀ q : Int, isC F30 G63 13 q ↔ NB F G 11 (PMx (isC F G 11) y1 y2 dy) q := fun q => (isC_cg rfl ((k63 14 (by decide)).trans g14) q).trans (ic13 q)
        have cst := ts_cst ts4 (by rw [o4]) (by rw [o11]) i6 i13
        have tb : ∀ x y : Int, 0 ≤ x → x < F 4 2 → 0 ≤ y → y < F 11 2 → 0 ≤ tMov (vC F G 18 g) x1 y1 x2 y2 dx dy x y ∧ tMov (vC F G 18 g) x1 y1 x2 y2 dx dy x y ≤ 10000000000000 := by
          intro x y x0 xw y0 yw
          have c1 := ci_vC h yg.1 yg.2 x0 xw y0 yw
          unfold tMov
          by_cases p : inR (x1 + dx) (y1 + dy) (x2 + dx) (y2 + dy) x y
          · have c2 := ci_vC h yg.1 yg.2 (x := x - dx) (y := y - dy) (by omega) (by omega) (by omega) (by omega)
            rw [if_pos p]
            by_cases q : inR x1 y1 x2 y2 x y
            · rw [if_pos q]; omega
            · rw [if_neg q]; omega
          · rw [if_neg p]
            by_cases q : inR x1 y1 x2 y2 x y
            · rw [if_pos q]; omega
            · rw [if_neg q]; omega
        have totc : aS (vC F G 18 g) 0 0 (F 4 2 - 1) (F 11 2 - 1) ≤ 3000000000000000000 := h.2.2.2.2.1.2 g yg.1 yg.2
        have ptr := pu_trialRefusal (d := d - 1) (by omega) hsh ts4 (ci_pba h63) (ci_ct h63) (ci_zi h63) h63.2.2.2.1.2.1 yg.1 yg.2 (by rw [o4, o11]; exact tb) (by rw [o4, o11, tot]; exact totc)
        rw [tR_ss ss63] at ptr
        have spec : ∀ F1 G1 z, (¬ tR F G g (tMov (vC F G 18 g) x1 y1 x2 y2 dx dy) = 0 → z = tR F G g (tMov (vC F G 18 g) x1 y1 x2 y2 dx dy) ∧ SS F F1 G G1) → (tR F G g (tMov (vC F G 18 g) x1 y1 x2 y2 dx dy) = 0 → z = aS (vC F G 18 g) x1 y1 x2 y2 ∧ SDn F F1 G G1 g (tMov (vC F G 18 g) x1 y1 x2 y2 dx dy) (PMx (isC F G 4) x1 x2 dx) (PMx (isC F G 11) y1 y2 dy) (nv 2 g x1 y1 x2 y2 (100000 * dx + dy))) → MoveS F F1 G G1 g x1 y1 x2 y2 dx dy z := fun F1 G1 z p1 p2 => ⟨fun n => absurd ⟨yg, yr⟩ n, fun _ => ⟨fun n => absurd vk n, fun _ => ⟨fun n => absurd yo n, fun _ => ⟨fun n => absurd yrm n, fun _ => ⟨cst, p1, p2⟩⟩⟩⟩⟩
        refine ⟨_, ptr, fun tz => ⟨by omega, by omega, ?_⟩, fun tz => hq0 _ _ _ ss63 (spec _ _ _ (fun _ => ⟨rfl, ss63⟩) (fun n => absurd n tz))⟩
        refine ok_keepC (PX := PMx (isC F G 4) x1 x2 dx) (PY := PMx (isC F G 11) y1 y2 dy) (by omega) h hb ss63 ts4 i6 i13 yg.1 yg.2 (fun F74 G75 dn => ⟨rfl, rfl, ?_⟩)
        rw [o51, a0, a1, a2, a3] at dn
        have nt := tR_0 tz
        refine hq F74 G75 _ (spec _ _ _ (fun n => absurd tz n) (fun _ => ⟨rfl, dn⟩)) (sfr_dn dn) (ci_done h dn yg.1 yg.2 (fun x y x0 xw y0 yw => ⟨(tb x y x0 xw y0 yw).1, Classical.byContradiction (fun z => nt.1 ⟨x, y, x0, xw, y0, yw, by omega⟩)⟩) (by rw [tot]; exact totc))
    · have nt : ¬ (F30 6 1 ≤ 48 ∧ F30 13 1 ≤ 48) := fun z => t (bI_f (by have := z.1; have := z.2; clear pm4 pm11 nb4 nb11 ic6 ic13 is4 is11 rm dX dY; omega))
      exact hq0 _ _ _ sp ⟨fun n => absurd ⟨yg, yr⟩ n, fun _ => ⟨fun n => absurd vk n, fun _ => ⟨fun n => absurd yo n, fun _ => ⟨fun _ => ⟨rfl, sp⟩, fun n => absurd ⟨rm.1.mpr n.1, rm.2.mpr n.2⟩ nt⟩⟩⟩⟩
  · exact hq0 _ _ _ (ss_51 x1 y1 x2 y2) ⟨fun _ => ⟨rfl, ss_51 x1 y1 x2 y2⟩, fun z => absurd z.2 (bI_0.mp q2)⟩
end
