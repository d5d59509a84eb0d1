section
/-! THE SYSTEM'S LEVEL -/
noncomputable def tLev (f : Int → Int → Int) (x1 y1 x2 y2 e X Y x y : Int) : Int := if inR x1 y1 x2 y2 x y then e + upTo X Y x y else f x y
def lX (x1 x2 o : Int) : Int := if o = 0 then x1 - 1 else x1 + (o - 1) % (x2 - x1 + 1)
def lY (x1 y1 x2 o : Int) : Int := if o = 0 then y1 else y1 + (o - 1) / (x2 - x1 + 1)
theorem upTo_in (X Y x y : Int) : 0 ≤ upTo X Y x y ∧ upTo X Y x y ≤ 1 := by
  unfold upTo
  split <;> omega
theorem aS_tLev {f : Int → Int → Int} (x1 y1 x2 y2 e X Y a b c d : Int) : aS (tLev f x1 y1 x2 y2 e X Y) a b c d = aS f a b c d - aS f (max x1 a) (max y1 b) (min x2 c) (min y2 d) + aS (fun x y => e + upTo X Y x y) (max x1 a) (max y1 b) (min x2 c) (min y2 d) := by
  have q : aS (tLev f x1 y1 x2 y2 e X Y) a b c d = aS (fun x y => (f x y - (if x1 ≤ x ∧ x ≤ x2 ∧ y1 ≤ y ∧ y ≤ y2 then f x y else 0)) + (if x1 ≤ x ∧ x ≤ x2 ∧ y1 ≤ y ∧ y ≤ y2 then (fun x y => e + upTo X Y x y) x y else 0)) a b c d := by
    refine aS_congr (fun x y _ _ _ _ => ?_)
    unfold tLev
    by_cases p : inR x1 y1 x2 y2 x y
    · rw [if_pos p, if_pos p, if_pos p]
      dsimp only
      omega
    · rw [if_neg p, if_neg p, if_neg p]
      omega
  rw [q, aS_add, aS_sub, aS_in, aS_in]
theorem lv_at' {x1 y1 x2 y2 o : Int} (h1 : x1 ≤ x2) (h2 : y1 ≤ y2) (o0 : 0 ≤ o) (o1 : o < (x2 - x1 + 1) * (y2 - y1 + 1)) : (o = 0 → lX x1 x2 o = x1 - 1 ∧ lY x1 y1 x2 o = y1) ∧ (0 < o → x1 ≤ lX x1 x2 o ∧ lX x1 x2 o ≤ x2 ∧ y1 ≤ lY x1 y1 x2 o ∧ lY x1 y1 x2 o ≤ y2 ∧ 0 ≤ (o - 1) % (x2 - x1 + 1) ∧ (o - 1) % (x2 - x1 + 1) < x2 - x1 + 1 ∧ 0 ≤ (o - 1) / (x2 - x1 + 1) ∧ (o - 1) / (x2 - x1 + 1) < y2 - y1 + 1 ∧ lX x1 x2 o = x1 + (o - 1) % (x2 - x1 + 1) ∧ lY x1 y1 x2 o = y1 + (o - 1) / (x2 - x1 + 1)) := by
  constructor
  · intro e
    unfold lX lY
    rw [if_pos e, if_pos e]
    exact ⟨rfl, rfl⟩
  · intro e
    have w0 : 0 < x2 - x1 + 1 := by omega
    have a1 := Int.emod_nonneg (o - 1) (by omega : x2 - x1 + 1 ≠ 0)
    have a2 := Int.emod_lt_of_pos (o - 1) w0
    have a3 : 0 ≤ (o - 1) / (x2 - x1 + 1) := Int.ediv_nonneg (by omega) (by omega)
    have a4 : (o - 1) / (x2 - x1 + 1) < y2 - y1 + 1 := Int.ediv_lt_of_lt_mul w0 (by rw [Int.mul_comm]; omega)
    unfold lX lY
    rw [if_neg (by omega), if_neg (by omega)]
    exact ⟨by omega, by omega, by omega, by omega, a1, a2, a3, a4, rfl, rfl⟩
theorem aS_upTo {x1 y1 x2 y2 o : Int} (h1 : x1 ≤ x2) (h2 : y1 ≤ y2) (o0 : 0 ≤ o) (o1 : o < (x2 - x1 + 1) * (y2 - y1 + 1)) : aS (upTo (lX x1 x2 o) (lY x1 y1 x2 o)) x1 y1 x2 y2 = o := by
  rw [← fo_aS h1 h2]
  obtain ⟨p, q⟩ := lv_at' h1 h2 o0 o1
  by_cases e : o = 0
  · obtain ⟨p1, p2⟩ := p e
    unfold fo
    rw [p1, p2, if_neg (by omega : ¬ y2 < y1), if_neg (by omega), if_neg (by omega)]
    omega
  · obtain ⟨q1, q2, q3, q4, q5, q6, q7, q8, q9, q10⟩ := q (by omega)
    have d := Int.mul_ediv_add_emod (o - 1) (x2 - x1 + 1)
    have c : (x2 - x1 + 1) * ((o - 1) / (x2 - x1 + 1)) = (o - 1) / (x2 - x1 + 1) * (x2 - x1 + 1) := Int.mul_comm _ _
    unfold fo
    rw [if_neg (by omega : ¬ y2 < lY x1 y1 x2 o), if_pos (by omega : y1 ≤ lY x1 y1 x2 o ∧ lY x1 y1 x2 o ≤ y2 ∧ x1 ≤ lX x1 x2 o)]
    have m : min x2 (lX x1 x2 o) = lX x1 x2 o := by omega
    have e2 : lY x1 y1 x2 o - y1 = (o - 1) / (x2 - x1 + 1) := by omega
    rw [m, e2]
    by_cases z : 0 < (o - 1) / (x2 - x1 + 1)
    · rw [if_pos z]
      omega
    · rw [if_neg z]
      have z0 : (o - 1) / (x2 - x1 + 1) = 0 := by omega
      have c0 : (x2 - x1 + 1) * ((o - 1) / (x2 - x1 + 1)) = 0 := by rw [z0, Int.mul_zero]
      omega
theorem lev_div {S : AS} {F : AF} {G : AG} {b g x1 y1 x2 y2 : Int} (ci : CI S F G b) (g0 : 0 ≤ g) (g1 : g ≤ 2) (r : recS F x1 y1 x2 y2) : 0 ≤ aS (vC F G 18 g) x1 y1 x2 y2 ∧ aS (vC F G 18 g) x1 y1 x2 y2 ≤ 3000000000000000000 ∧ 1 ≤ (x2 - x1 + 1) * (y2 - y1 + 1) ∧ (x2 - x1 + 1) * (y2 - y1 + 1) ≤ 100000000 ∧ 0 ≤ aS (vC F G 18 g) x1 y1 x2 y2 / ((x2 - x1 + 1) * (y2 - y1 + 1)) ∧ aS (vC F G 18 g) x1 y1 x2 y2 / ((x2 - x1 + 1) * (y2 - y1 + 1)) ≤ 1000000000000 ∧ 0 ≤ aS (vC F G 18 g) x1 y1 x2 y2 % ((x2 - x1 + 1) * (y2 - y1 + 1)) ∧ aS (vC F G 18 g) x1 y1 x2 y2 % ((x2 - x1 + 1) * (y2 - y1 + 1)) < (x2 - x1 + 1) * (y2 - y1 + 1) ∧ (x2 - x1 + 1) * (y2 - y1 + 1) * (aS (vC F G 18 g) x1 y1 x2 y2 / ((x2 - x1 + 1) * (y2 - y1 + 1))) + aS (vC F G 18 g) x1 y1 x2 y2 % ((x2 - x1 + 1) * (y2 - y1 + 1)) = aS (vC F G 18 g) x1 y1 x2 y2 := by
  obtain ⟨r1, r2, r3, r4, r5, r6⟩ := r
  have c4 := ci.2.1.1.2.2.2.1
  have c11 := ci.2.1.2.1.2.2.2.1
  have hp : ∀ x y : Int, x1 ≤ x → x ≤ x2 → y1 ≤ y → y ≤ y2 → 0 ≤ vC F G 18 g x y ∧ vC F G 18 g x y ≤ 1000000000000 := fun x y a b c e => by
    have := ci_vC ci g0 g1 (x := x) (y := y) (by omega) (by omega) (by omega) (by omega)
    exact ⟨this.1, this.2.1⟩
  have u0 : 0 ≤ aS (vC F G 18 g) x1 y1 x2 y2 := aS_pos (fun x y a b c e => (hp x y a b c e).1)
  have u1 := aS_mono (f := vC F G 18 g) (x1 := x1) (y1 := y1) (x2 := x2) (y2 := y2) (a1 := 0) (b1 := 0) (a2 := F 4 2 - 1) (b2 := F 11 2 - 1) (fun x y x0 xw y0 yw => (ci_vC ci g0 g1 x0 (by omega) y0 (by omega)).1) r1 r4 (by omega) (by omega)
  have u2 := ci.2.2.2.2.1.2 g g0 g1
  have u3 := aS_le (f := vC F G 18 g) (g := fun _ _ => 1000000000000) (x1 := x1) (y1 := y1) (x2 := x2) (y2 := y2) (fun x y a b c e => (hp x y a b c e).2)
  rw [aS_const _ (by omega) (by omega)] at u3
  have n := mul_bd (a := x2 - x1 + 1) (b := y2 - y1 + 1) (A := 10000) (B := 10000) (by omega) (by omega) (by omega) (by omega)
  have n1 : 1 ≤ (x2 - x1 + 1) * (y2 - y1 + 1) := Int.mul_pos (by omega) (by omega)
  generalize (x2 - x1 + 1) * (y2 - y1 + 1) = N at *
  generalize aS (vC F G 18 g) x1 y1 x2 y2 = U at *
  have d := Int.mul_ediv_add_emod U N
  have m0 := Int.emod_nonneg U (by omega : N ≠ 0)
  have m1 := Int.emod_lt_of_pos U (by omega : 0 < N)
  have e0 : 0 ≤ U / N := Int.ediv_nonneg u0 (by omega)
  have e1 : U / N < 1000000000001 := Int.ediv_lt_of_lt_mul (by omega) (by omega)
  exact ⟨u0, by omega, n1, n.2, e0, by omega, m0, m1, d⟩
abbrev PLx (x1 x2 o X q : Int) : Prop := (q = x1 ∨ q = x2 + 1) ∨ (0 < o ∧ q = X + 1)
abbrev PLy (y1 y2 o Y q : Int) : Prop := (q = y1 ∨ q = y2 + 1) ∨ (0 < o ∧ (q = Y ∨ q = Y + 1))
theorem ts_cgT {F : AF} {G : AG} {T T' : Int → Int → Int} (h : TS F G T) (e : ∀ x y : Int, 0 ≤ x → x < F 4 2 → 0 ≤ y → y < F 11 2 → T x y = T' x y) : TS F G T' := by
  obtain ⟨t1, t2, t3, t4, t5, t6, t7, t8, t9, t10⟩ := h
  exact ⟨t1, t2, t3, t4, t5, t6, t7, t8, t9, fun x y a b c f => (t10 x y a b c f).trans (e x y a b c f)⟩
def LevS (F F1 : AF) (G G1 : AG) (g x1 y1 x2 y2 z : Int) : Prop :=
  (¬ ((0 ≤ g ∧ g ≤ 2) ∧ recS F x1 y1 x2 y2) → z = -2 ∧ SS F F1 G G1) ∧
  ((0 ≤ g ∧ g ≤ 2) ∧ recS F x1 y1 x2 y2 → ∀ N U e o : Int, N = (x2 - x1 + 1) * (y2 - y1 + 1) → U = aS (vC F G 18 g) x1 y1 x2 y2 → e = U / N → o = U % N →
    (¬ (RgB (NB F G 4 (PLx x1 x2 o (lX x1 x2 o))) (F 4 2) ∧ RgB (NB F G 11 (PLy y1 y2 o (lY x1 y1 x2 o))) (F 11 2)) → z = -4 ∧ SS F F1 G G1) ∧
    (RgB (NB F G 4 (PLx x1 x2 o (lX x1 x2 o))) (F 4 2) ∧ RgB (NB F G 11 (PLy y1 y2 o (lY x1 y1 x2 o))) (F 11 2) → CstT F G (PLx x1 x2 o (lX x1 x2 o)) (PLy y1 y2 o (lY x1 y1 x2 o)) (tLev (vC F G 18 g) x1 y1 x2 y2 e (lX x1 x2 o) (lY x1 y1 x2 o)) ∧ (¬ tR F G g (tLev (vC F G 18 g) x1 y1 x2 y2 e (lX x1 x2 o) (lY x1 y1 x2 o)) = 0 → z = tR F G g (tLev (vC F G 18 g) x1 y1 x2 y2 e (lX x1 x2 o) (lY x1 y1 x2 o)) ∧ SS F F1 G G1) ∧
    (tR F G g (tLev (vC F G 18 g) x1 y1 x2 y2 e (lX x1 x2 o) (lY x1 y1 x2 o)) = 0 → z = e ∧ SDn F F1 G G1 g (tLev (vC F G 18 g) x1 y1 x2 y2 e (lX x1 x2 o) (lY x1 y1 x2 o)) (PLx x1 x2 o (lX x1 x2 o)) (PLy y1 y2 o (lY x1 y1 x2 o)) (nv 3 g x1 y1 x2 y2 U))))
theorem aS_tLevW {S : AS} {F : AF} {G : AG} {b g x1 y1 x2 y2 : Int} (ci : CI S F G b) (g0 : 0 ≤ g) (g1 : g ≤ 2) (r : recS F x1 y1 x2 y2) {N U e o : Int} (eN : N = (x2 - x1 + 1) * (y2 - y1 + 1)) (eU : U = aS (vC F G 18 g) x1 y1 x2 y2) (ee : e = U / N) (eo : o = U % N) : aS (tLev (vC F G 18 g) x1 y1 x2 y2 e (lX x1 x2 o) (lY x1 y1 x2 o)) 0 0 (F 4 2 - 1) (F 11 2 - 1) = aS (vC F G 18 g) 0 0 (F 4 2 - 1) (F 11 2 - 1) := by
  obtain ⟨u0, u1, n1, n2, e0, e1, m0, m1, d⟩ := lev_div ci g0 g1 r
  obtain ⟨r1, r2, r3, r4, r5, r6⟩ := r
  rw [← eN] at n1 n2 e0 e1 m0 m1 d
  rw [← eU] at e0 e1 m0 m1 d
  rw [← ee] at e0 e1 d
  rw [← eo] at m0 m1 d
  rw [aS_tLev]
  have a1 : max x1 0 = x1 := by omega
  have a2 : max y1 0 = y1 := by omega
  have a3 : min x2 (F 4 2 - 1) = x2 := by omega
  have a4 : min y2 (F 11 2 - 1) = y2 := by omega
  rw [a1, a2, a3, a4, aS_add, aS_const e (by omega) (by omega), aS_upTo r2 r5 m0 (by omega), ← eN, ← eU]
  omega
theorem cs_level {d : Nat} {S : AS} {F : AF} {G : AG} {b : Int} (hd : 6 ≤ d) (h : CI S F G b) (hb : b ≤ 1000000) (g x1 y1 x2 y2 : Int) {Q : AQ} (hq : ∀ F1 G1 z, LevS F F1 G G1 g x1 y1 x2 y2 z → SFr F F1 G G1 → CI S F1 G1 (b + 1) → Q (some (vJ z)) S F1 G1) : Ok d MX9_level [vR 1, vI g, vI x1, vI y1, vI x2, vI y2] S F G Q := by
  have hsh := h.1.1
  have hq0 : ∀ F1 G1 z, SS F F1 G G1 → LevS F F1 G G1 g x1 y1 x2 y2 z → Q (some (vJ z)) S F1 G1 := fun F1 G1 z s a => hq F1 G1 z a (sfr_ss s) (ci_up (ci_ss h s) (by omega))
  refine ok_go rfl (by decide) (Nat.le_of_ble_eq_true rfl) (R_X9_level_0 hsh ?_)
  unfold V_X9_level_0
  refine ⟨by omega, _, pu_cisGood hsh g, fun y => ?_, fun y => ok_askC (by omega) h _ _ _ _ ⟨rfl, _, rfl, fun q2 => ?_, fun q2 => ?_⟩⟩
  · exact hq0 F G _ (ss_rf F G) ⟨fun _ => ⟨rfl, ss_rf F G⟩, fun z => absurd z.1 (bI_0.mp y)⟩
  · have yg : 0 ≤ g ∧ g ≤ 2 := Classical.byContradiction (fun z => y (bI_f z))
    have yr : recS F x1 y1 x2 y2 := Classical.byContradiction (fun z => q2 (bI_f z))
    have s51 := ss_51 (F := F) (G := G) x1 y1 x2 y2
    obtain ⟨hI, t1, t2, t3⟩ := ask_inC h yr
    obtain ⟨q1, q2', q3, q4, q5, q6⟩ := id yr
    have w4 : setR F 51 x1 y1 x2 y2 4 = F 4 := setR_c (by decide)
    have w11 : setR F 51 x1 y1 x2 y2 11 = F 11 := setR_c (by decide)
    have c4 := h.2.1.1.2.2.2.1
    have c11 := h.2.1.2.1.2.2.2.1
    have n4 := h.2.1.1.2.1
    have n11 := h.2.1.2.1.2.1
    have psum := pu_csumOf (d := d - 1) (by omega) hsh hI.2.1 (at_51 hsh) (ci_pba hI) (ci_ct hI) (g := g) (by omega) yg.2 t2
    rw [setR_0, setR_1, setR_2, setR_3, csum_aS hI.2.1 18 g q1 (by rw [w4]; exact q3) q4 (by rw [w11]; exact q6), vu_ss s51, aS_vu yg.1] at psum
    have pcel := pu_cells (d := d - 1) (S := S) (G := G) (by omega) (at_51 hsh) t3
    rw [setR_0, setR_1, setR_2, setR_3] at pcel
    have pwid := pu_width (d := d - 1) (S := S) (F := setR F 51 x1 y1 x2 y2) (G := G) (at_51 hsh) (by rw [setR_0, setR_2]; omega) (by rw [setR_0, setR_2]; omega)
    rw [setR_0, setR_2] at pwid
    obtain ⟨u0, u1, m1, m2, e0, e1, o0, o1, dm⟩ := lev_div h yg.1 yg.2 yr
    have up := fun o0 o1 => aS_upTo (x1 := x1) (y1 := y1) (x2 := x2) (y2 := y2) (o := aS (vC F G 18 g) x1 y1 x2 y2 % ((x2 - x1 + 1) * (y2 - y1 + 1))) q2' q5 o0 o1
    have at' := lv_at' q2' q5 o0 o1
    have totW := aS_tLevW h yg.1 yg.2 yr rfl rfl rfl rfl
    refine ⟨_, psum, _, pcel, fun x25 e25 => ⟨_, pwid, fun x32 e32 => ?_⟩⟩
    have hN : x25 = (x2 - x1 + 1) * (y2 - y1 + 1) := by omega
    have hW : x32 = x2 - x1 + 1 := by omega
    clear e25 e32
    rw [← hN] at m1 m2 e0 e1 o0 o1 dm at' totW
    subst hW
    have sp0 : ∀ F1 G1 z, (∀ e o : Int, e = aS (vC F G 18 g) x1 y1 x2 y2 / x25 → o = aS (vC F G 18 g) x1 y1 x2 y2 % x25 → (¬ (RgB (NB F G 4 (PLx x1 x2 o (lX x1 x2 o))) (F 4 2) ∧ RgB (NB F G 11 (PLy y1 y2 o (lY x1 y1 x2 o))) (F 11 2)) → z = -4 ∧ SS F F1 G G1) ∧
    (RgB (NB F G 4 (PLx x1 x2 o (lX x1 x2 o))) (F 4 2) ∧ RgB (NB F G 11 (PLy y1 y2 o (lY x1 y1 x2 o))) (F 11 2) → CstT F G (PLx x1 x2 o (lX x1 x2 o)) (PLy y1 y2 o (lY x1 y1 x2 o)) (tLev (vC F G 18 g) x1 y1 x2 y2 e (lX x1 x2 o) (lY x1 y1 x2 o)) ∧ (¬ tR F G g (tLev (vC F G 18 g) x1 y1 x2 y2 e (lX x1 x2 o) (lY x1 y1 x2 o)) = 0 → z = tR F G g (tLev (vC F G 18 g) x1 y1 x2 y2 e (lX x1 x2 o) (lY x1 y1 x2 o)) ∧ SS F F1 G G1) ∧
    (tR F G g (tLev (vC F G 18 g) x1 y1 x2 y2 e (lX x1 x2 o) (lY x1 y1 x2 o)) = 0 → z = e ∧ SDn F F1 G G1 g (tLev (vC F G 18 g) x1 y1 x2 y2 e (lX x1 x2 o) (lY x1 y1 x2 o)) (PLx x1 x2 o (lX x1 x2 o)) (PLy y1 y2 o (lY x1 y1 x2 o)) (nv 3 g x1 y1 x2 y2 (aS (vC F G 18 g) x1 y1 x2 y2))))) → LevS F F1 G G1 g x1 y1 x2 y2 z := by
      intro F1 G1 z p
      refine ⟨fun n => absurd ⟨yg, yr⟩ n, fun _ N U e o eN eU ee eo => ?_⟩
      rw [← hN] at eN
      subst eN eU
      exact p e o ee eo
    refine ⟨by omega, ?_, fun x35 e35 => ?_⟩
    · rw [tdiv_pos u0]; omega
    rw [tdiv_pos u0] at e35
    rw [← e35] at e0 e1 dm totW
    refine ⟨?_, fun x37 e37 => ?_⟩
    · rw [tmod_pos u0]; omega
    rw [tmod_pos u0] at e37
    rw [← e37] at o0 o1 dm at' totW
    generalize hU : aS (vC F G 18 g) x1 y1 x2 y2 = U at *
    have s0' : SS F (setR F 51 x1 y1 x2 y2) G G := s51
    generalize hA : setR F 51 x1 y1 x2 y2 = A at *
    have a0 : A 51 0 = x1 := by rw [← hA, setR_0]
    have a1 : A 51 1 = y1 := by rw [← hA, setR_1]
    have a2 : A 51 2 = x2 := by rw [← hA, setR_2]
    have a3 : A 51 3 = y2 := by rw [← hA, setR_3]
    generalize hX : lX x1 x2 x37 = X at *
    generalize hY : lY x1 y1 x2 x37 = Y at *
    have spec : ∀ F1 G1 z, ((¬ (RgB (NB F G 4 (PLx x1 x2 x37 X)) (F 4 2) ∧ RgB (NB F G 11 (PLy y1 y2 x37 Y)) (F 11 2)) → z = -4 ∧ SS F F1 G G1) ∧
    (RgB (NB F G 4 (PLx x1 x2 x37 X)) (F 4 2) ∧ RgB (NB F G 11 (PLy y1 y2 x37 Y)) (F 11 2) → CstT F G (PLx x1 x2 x37 X) (PLy y1 y2 x37 Y) (tLev (vC F G 18 g) x1 y1 x2 y2 x35 X Y) ∧ (¬ tR F G g (tLev (vC F G 18 g) x1 y1 x2 y2 x35 X Y) = 0 → z = tR F G g (tLev (vC F G 18 g) x1 y1 x2 y2 x35 X Y) ∧ SS F F1 G G1) ∧
    (tR F G g (tLev (vC F G 18 g) x1 y1 x2 y2 x35 X Y) = 0 → z = x35 ∧ SDn F F1 G G1 g (tLev (vC F G 18 g) x1 y1 x2 y2 x35 X Y) (PLx x1 x2 x37 X) (PLy y1 y2 x37 Y) (nv 3 g x1 y1 x2 y2 U)))) → LevS F F1 G G1 g x1 y1 x2 y2 z := by
      intro F1 G1 z p
      refine sp0 F1 G1 z (fun e o ee eo => ?_)
      rw [← e35] at ee
      rw [← e37] at eo
      subst ee eo
      rw [hX, hY]
      exact p
    -- behind the trial
    have l259 : ∀ (F30 : AF) (G63 : AG) (xx yy : Int), SS F F30 G G63 → F30 51 = A 51 → TS F30 G63 (tLev (vC F G 18 g) x1 y1 x2 y2 x35 X Y) → (∀ q : Int, isC F30 G63 6 q ↔ NB F G 4 (PLx x1 x2 x37 X) q) → (∀ q : Int, isC F30 G63 13 q ↔ NB F G 11 (PLy y1 y2 x37 Y) q) → RgB (NB F G 4 (PLx x1 x2 x37 X)) (F 4 2) ∧ RgB (NB F G 11 (PLy y1 y2 x37 Y)) (F 11 2) → V_X9_level_259 d S F30 G63 Q g x1 y1 x2 y2 U x25 (x2 - x1 + 1) x35 x37 xx yy := by
      intro F30 G63 xx yy ss63 o51 ts4 i6 i13 yrm
      have h63 := ci_ss h ss63
      obtain ⟨⟨-, -, -, o4, -, o11, -⟩, -, -, -⟩ := ss_f ss63
      have cst := ts_cst ts4 (by rw [o4]) (by rw [o11]) i6 i13
      have tb : ∀ x y : Int, 0 ≤ x → x < F 4 2 → 0 ≤ y → y < F 11 2 → 0 ≤ tLev (vC F G 18 g) x1 y1 x2 y2 x35 X Y x y ∧ tLev (vC F G 18 g) x1 y1 x2 y2 x35 X Y x y ≤ 10000000000000 := by
        intro x y x0 xw y0 yw
        have c1 := ci_vC h yg.1 yg.2 x0 xw y0 yw
        have u := upTo_in X Y x y
        unfold tLev
        split <;> omega
      have totc : aS (vC F G 18 g) 0 0 (F 4 2 - 1) (F 11 2 - 1) ≤ 3000000000000000000 := h.2.2.2.2.1.2 g yg.1 yg.2
      have ptr := pu_trialRefusal (d := d - 1) (by omega) hsh ts4 (ci_pba h63) (ci_ct h63) (ci_zi h63) h63.2.2.2.1.2.1 yg.1 yg.2 (by rw [o4, o11]; exact tb) (by rw [o4, o11, totW]; exact totc)
      rw [tR_ss ss63] at ptr
      unfold V_X9_level_259
      refine ⟨by omega, _, ptr, fun tz => ?_, fun tz => hq0 _ _ _ ss63 (spec _ _ _ ⟨fun n => absurd yrm n, fun _ => ⟨cst, fun _ => ⟨rfl, ss63⟩, fun n => absurd n tz⟩⟩)⟩
      refine ok_keepC (PX := PLx x1 x2 x37 X) (PY := PLy y1 y2 x37 Y) (by omega) h hb ss63 ts4 i6 i13 yg.1 yg.2 (fun F74 G75 dn => ⟨rfl, rfl, ?_⟩)
      rw [o51, a0, a1, a2, a3] at dn
      have nt := tR_0 tz
      exact hq F74 G75 _ (spec _ _ _ ⟨fun n => absurd yrm n, fun _ => ⟨cst, fun n => absurd tz n, fun _ => ⟨rfl, dn⟩⟩⟩) (sfr_dn dn) (ci_done h dn yg.1 yg.2 (fun x y x0 xw y0 yw => ⟨(tb x y x0 xw y0 yw).1, Classical.byContradiction (fun z => nt.1 ⟨x, y, x0, xw, y0, yw, by omega⟩)⟩) (by rw [totW]; exact totc))
    -- behind the plan
    have l178 : ∀ (F30 : AF) (G31 : AG) (n m : Int) (P' R' : Int → Prop) (xx yy : Int), Pln A F30 G G31 n m P' R' → (∀ q : Int, P' q ↔ PLx x1 x2 x37 X q) → (∀ q : Int, R' q ↔ PLy y1 y2 x37 Y q) → (0 < x37 → xx = X ∧ yy = Y) → V_X9_level_178 d S F30 G31 Q g x1 y1 x2 y2 U x25 (x2 - x1 + 1) x35 x37 xx yy := by
      intro F30 G31 n m P' R' xx yy pl eP eR exy
      have sp := ss_tr s0' (pln_ss pl)
      have rm := pln_room pl
      have nb4 : ∀ q : Int, NB A G 4 P' q ↔ NB F G 4 (PLx x1 x2 x37 X) q := fun q => by
        unfold NB
        rw [isC_cg w4 rfl, w4, eP q]
      have nb11 : ∀ q : Int, NB A G 11 R' q ↔ NB F G 11 (PLy y1 y2 x37 Y) q := fun q => by
        unfold NB
        rw [isC_cg w11 rfl, w11, eR q]
      have ic6 : ∀ q : Int, isC F30 G31 6 q ↔ NB F G 4 (PLx x1 x2 x37 X) q := fun q => (pl.2.2.2.2.2.2.2.2.1 q).trans (nb4 q)
      have ic13 : ∀ q : Int, isC F30 G31 13 q ↔ NB F G 11 (PLy y1 y2 x37 Y) q := fun q => (pl.2.2.2.2.2.2.2.2.2 q).trans (nb11 q)
      rw [rgb_c nb4, rgb_c nb11, w4, w11] at rm
      have dX : ∀ q : Int, 0 ≤ q → q ≤ F 4 2 → PLx x1 x2 x37 X q → isD (G31 7) (F30 6 1) q := fun q a c e => pln_dx pl a (by rw [w4]; exact c) ((eP q).mpr e)
      have dY : ∀ q : Int, 0 ≤ q → q ≤ F 11 2 → PLy y1 y2 x37 Y q → isD (G31 14) (F30 13 1) q := fun q a c e => pln_dy pl a (by rw [w11]; exact c) ((eR q).mpr e)
      obtain ⟨⟨-, -, -, o4, -, o11, -⟩, -, -, -⟩ := ss_f sp
      have o51 : F30 51 = A 51 := pl.1 51 (by decide) (by decide)
      unfold V_X9_level_178
      refine ⟨by omega, _, pu_plansTooMany (by omega) hsh, fun t => ?_, fun t => ?_⟩
      · have nt := bI_0.mp t
        have n6 : F30 6 1 ≤ 48 := by clear eP eR nb4 nb11 ic6 ic13 rm dX dY; omega
        have n13 : F30 13 1 ≤ 48 := by clear eP eR nb4 nb11 ic6 ic13 rm dX dY; omega
        have yrm := And.intro (rm.1.mp n6) (rm.2.mp n13)
        refine ok_stP (by omega) hsh hI.2.1 pl n6 n13 yg.1 yg.2 (fun G41 k41 ts => ⟨rfl, rfl, ?_⟩)
        rw [ss_vC s0' rfl] at ts
        have k7 : G41 7 = G31 7 := k41 7 (by decide) (by decide) (by decide)
        have k14 : G41 14 = G31 14 := k41 14 (by decide) (by decide) (by decide)
        refine ok_fillC (by omega) hsh ts q1 q4 (fun _ _ => sid_of q1 q2' (by rw [o4]; exact q3) q4 q5 (by rw [o11]; exact q6) (by rw [k7]; exact dX _ q1 (by omega) (Or.inl (Or.inl rfl))) (by rw [k7]; exact dX _ (by omega) (by omega) (Or.inl (Or.inr rfl))) (by rw [k14]; exact dY _ q4 (by omega) (Or.inl (Or.inl rfl))) (by rw [k14]; exact dY _ (by omega) (by omega) (Or.inl (Or.inr rfl)))) (fun G46 k46 ts1 => ⟨rfl, rfl, fun q => ?_, fun q => ?_⟩)
        · obtain ⟨eX, eY⟩ := at'.1 (by omega)
          refine l259 F30 G46 xx yy (ss_tr sp (ss_G (fun c _ a8 _ _ a15 _ a19 => (k46 c a19).trans (k41 c a8 a15 a19)))) o51 (ts_cgT ts1 (fun x y _ _ _ _ => ?_)) (fun q => (isC_cg rfl ((k46 7 (by decide)).trans k7) q).trans (ic6 q)) (fun q => (isC_cg rfl ((k46 14 (by decide)).trans k14) q).trans (ic13 q)) yrm
          unfold tLev
          by_cases i : inR x1 y1 x2 y2 x y
          · rw [if_pos i, if_pos i]
            unfold upTo
            rw [if_neg (by omega)]
            omega
          · rw [if_neg i, if_neg i]
        · obtain ⟨p1, p2, p3, p4, p5, p6, p7, p8, p9, p10⟩ := at'.2 (by omega)
          obtain ⟨ex, ey⟩ := exy (by omega)
          subst ex ey
          have op : 0 < x37 := by omega
          refine ⟨by omega, by omega, ok_fillC (by omega) hsh ts1 q1 q4 (fun b1 b2 => sid_of q1 q2' (by rw [o4]; exact q3) q4 b2 (by rw [o11]; omega) (by rw [k46 7 (by decide), k7]; exact dX _ q1 (by omega) (Or.inl (Or.inl rfl))) (by rw [k46 7 (by decide), k7]; exact dX _ (by omega) (by omega) (Or.inl (Or.inr rfl))) (by rw [k46 14 (by decide), k14]; exact dY _ q4 (by omega) (Or.inl (Or.inl rfl))) (by rw [k46 14 (by decide), k14]; exact dY _ (by omega) (by omega) (Or.inr ⟨op, Or.inl (by omega)⟩))) (fun G51 k51 ts2 => ⟨rfl, rfl, ?_⟩)⟩
          refine ok_fillC (by omega) hsh ts2 q1 (by omega) (fun b1 b2 => sid_of q1 b1 (by rw [o4]; omega) (by omega) b2 (by rw [o11]; omega) (by rw [k51 7 (by decide), k46 7 (by decide), k7]; exact dX _ q1 (by omega) (Or.inl (Or.inl rfl))) (by rw [k51 7 (by decide), k46 7 (by decide), k7]; exact dX _ (by omega) (by omega) (Or.inr ⟨op, rfl⟩)) (by rw [k51 14 (by decide), k46 14 (by decide), k14]; exact dY _ (by omega) (by omega) (Or.inr ⟨op, Or.inl rfl⟩)) (by rw [k51 14 (by decide), k46 14 (by decide), k14]; exact dY _ (by omega) (by omega) (Or.inr ⟨op, Or.inr rfl⟩))) (fun G55 k55 ts3 => ⟨rfl, rfl, ?_⟩)
          have kk : ∀ c : Nat, c ≠ 19 → G55 c = G41 c := fun c h => (k55 c h).trans ((k51 c h).trans (k46 c h))
          refine l259 F30 G55 xx yy (ss_tr sp (ss_G (fun c _ a8 _ _ a15 _ a19 => (kk c a19).trans (k41 c a8 a15 a19)))) o51 (ts_cgT ts3 (fun x y _ _ _ _ => ?_)) (fun q => (isC_cg rfl ((kk 7 (by decide)).trans k7) q).trans (ic6 q)) (fun q => (isC_cg rfl ((kk 14 (by decide)).trans k14) q).trans (ic13 q)) yrm
          unfold tLev upTo
          by_cases i : inR x1 y1 x2 y2 x y
          · rw [if_pos i]
            by_cases i2 : inR x1 yy xx yy x y
            · rw [if_pos i2, if_pos (show y < yy ∨ (y = yy ∧ x ≤ xx) by omega), if_pos i]
            · rw [if_neg i2]
              by_cases i3 : inR x1 y1 x2 (yy - 1) x y
              · rw [if_pos i3, if_pos (show y < yy ∨ (y = yy ∧ x ≤ xx) by omega), if_pos i]
              · rw [if_neg i3, if_pos i, if_neg (show ¬ (y < yy ∨ (y = yy ∧ x ≤ xx)) by omega)]
                omega
          · rw [if_neg i, if_neg (show ¬ inR x1 yy xx yy x y by omega), if_neg (show ¬ inR x1 y1 x2 (yy - 1) x y by omega), if_neg i]
      · have nt : ¬ (F30 6 1 ≤ 48 ∧ F30 13 1 ≤ 48) := fun z => t (bI_f (by have := z.1; have := z.2; clear eP eR nb4 nb11 ic6 ic13 rm dX dY; omega))
        exact hq0 _ _ _ sp (spec _ _ _ ⟨fun _ => ⟨rfl, sp⟩, fun n => absurd ⟨rm.1.mpr n.1, rm.2.mpr n.2⟩ nt⟩)
    -- the plan
    have l127 : ∀ xx yy : Int, (0 < x37 → xx = X ∧ yy = Y) → V_X9_level_127 d S A G Q g x1 y1 x2 y2 U x25 (x2 - x1 + 1) x35 x37 xx yy := by
      intro xx yy exy
      unfold V_X9_level_127
      refine ⟨by omega, ok_plan (by omega) hsh hI.2.1 (at_51 hsh) (by decide) (by decide) (by unfold RO; rw [a0, a1, a2, a3]; omega) (fun F18 G19 pl0 => ⟨rfl, rfl, fun q => ?_, fun q => ?_⟩)⟩
      · rw [a0, a1, a2, a3] at pl0
        exact l178 _ _ _ _ _ _ xx yy pl0 (fun q => by omega) (fun q => by omega) exy
      · rw [a0, a1, a2, a3] at pl0
        obtain ⟨ex, ey⟩ := exy (by omega)
        obtain ⟨p1, p2, p3, p4, -⟩ := at'.2 (by omega)
        refine ⟨by omega, ok_putG (by omega) (at_6 hsh) (co_up pl0.2.2.1 (by rw [w4]; omega)) (xx + 1) (fun F9 G10 gr => ⟨rfl, rfl, ?_⟩)⟩
        have pl1 := pln_x pl0 gr
        refine ok_planSpan (by omega) (at_10 hsh) (co_up pl1.2.2.2.1 (by rw [w11]; omega)) (by omega) (fun F13 G14 gr2 => ⟨rfl, rfl, ?_⟩)
        have pl := pln_y pl1 gr2
        clear pl0 pl1 gr gr2
        exact l178 _ _ _ _ _ _ xx yy pl (fun q => by subst ex; omega) (fun q => by subst ey; omega) exy
    have l102 : ∀ xx : Int, (0 < x37 → xx = X) → V_X9_level_102 d S A G Q g x1 y1 x2 y2 U x25 (x2 - x1 + 1) x35 x37 xx := by
      intro xx exx
      unfold V_X9_level_102
      refine ⟨fun q => l127 xx y2 (fun z => absurd z (by omega)), fun q => ?_⟩
      obtain ⟨p1, p2, p3, p4, p5, p6, p7, p8, p9, p10⟩ := at'.2 (by omega)
      rw [tdiv_pos (by omega)]
      exact ⟨by omega, by omega, by omega, by omega, by omega, l127 _ _ (fun z => ⟨exx z, by omega⟩)⟩
    refine ⟨fun q => l102 x2 (fun z => absurd z (by omega)), fun q => ?_⟩
    obtain ⟨p1, p2, p3, p4, p5, p6, p7, p8, p9, p10⟩ := at'.2 (by omega)
    rw [tdiv_pos (by omega), tmod_pos (by omega)]
    exact ⟨by omega, by omega, by omega, by omega, by omega, by omega, l102 _ (fun z => by omega)⟩
  · exact hq0 _ _ _ (ss_51 x1 y1 x2 y2) ⟨fun _ => ⟨rfl, ss_51 x1 y1 x2 y2⟩, fun z => absurd z.2 (bI_0.mp q2)⟩
end
