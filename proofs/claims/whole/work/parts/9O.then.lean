section
/-! BORDERS THAT WOULD COME, LAID BY THE REFERENCE -/
theorem gu_id {G : AG} {c : Nat} {i z : Int} (h : z = G c i) : gu G c i z = G := by
  funext a b
  unfold gu
  split
  · rename_i e
    rw [e.1, e.2, h]
  · rfl
theorem gu_gu {G : AG} {c : Nat} {i z z' : Int} : gu (gu G c i z) c i z' = gu G c i z' := by
  funext a b
  unfold gu
  split
  · rfl
  · rfl
def ThS (F' : AF) (G' : AG) (F : AF) (G : AG) (PX PY : Int → Prop) : Prop :=
  (0 ≤ G' 69 0 ∧ G' 69 0 ≤ 48 ∧ ∀ q : Int, isB (fun i => G' 68 i) (G' 69 0) q ↔ NB F G 4 PX q) ∧
  (0 ≤ G' 69 1 ∧ G' 69 1 ≤ 48 ∧ ∀ q : Int, isB (fun j => G' 68 (48 + j)) (G' 69 1) q ↔ NB F G 11 PY q) ∧
  (F' 53 32 ≤ 64 ∧ ∀ q : Int, CmA F' G' q ↔ (PX q ∧ 0 < q ∧ q < F 4 2 ∧ ¬ isC F G 4 q)) ∧
  (F' 53 20 ≤ 64 ∧ ∀ q : Int, Cmg F' G' q ↔ (PY q ∧ 0 < q ∧ q < F 11 2 ∧ ¬ isC F G 11 q)) ∧ Rm F' G' 0 PX ∧ Rm F' G' 1 PY
theorem rs_thn {F : AF} {G G' : AG} {a N : Int} {P : Int → Prop} (h : Thn G G' a N P) : RS F F G G' := rs_G (fun c hc => h.1 c (by omega) (by omega))
theorem rm_c {F : AF} {G : AG} {a : Int} {P P' : Int → Prop} (h : Rm F G a P) (e : ∀ q : Int, 0 < q → q < msz F a → (P q ↔ P' q)) : Rm F G a P' := by
  obtain ⟨er, nr, s, n, b⟩ := h
  refine ⟨er, nr, s, n, fun q => (b q).trans ⟨fun z => z.imp id (fun y => ⟨(e q y.2.1 y.2.2).mp y.1, y.2⟩), fun z => z.imp id (fun y => ⟨(e q y.2.1 y.2.2).mpr y.1, y.2⟩)⟩⟩
theorem th_mk {F Fz F14 F28 F32 : AF} {G Gz G15 G25 G29 G33 G43 : AG} {m m1 : Int} {P0 P1 PX PY : Int → Prop} (kz : KK F G Fz Gz) (e0 : ∀ q : Int, 0 < q → q < F 4 2 → (P0 q ↔ PX q)) (e1 : ∀ q : Int, 0 < q → q < F 11 2 → (P1 q ↔ PY q)) (hm : m ≤ 64) (hm1 : m1 ≤ 64) (wn : Wn Fz F14 Gz G15 0 m P0) (hr : Gz 55 0 + F14 53 20 ≤ 48) (th : Thn G15 G25 0 (Gz 55 0 + F14 53 20) (fun q => isB (me Fz Gz 0) (Gz 55 0) q ∨ (P0 q ∧ 0 < q ∧ q < msz Fz 0))) (kp : ∀ c : Nat, c ≠ 71 → G29 c = G25 c) (kp2 : ∀ j : Int, 0 ≤ j → j < F14 53 20 → G29 71 j = G25 67 j) (ef : F28 = fu F14 53 32 (F14 53 20)) (wn2 : Wn F28 F32 G29 G33 1 m1 P1) (hr2 : G29 55 1 + F32 53 20 ≤ 48) (th2 : Thn G33 G43 1 (G29 55 1 + F32 53 20) (fun q => isB (me F28 G29 1) (G29 55 1) q ∨ (P1 q ∧ 0 < q ∧ q < msz F28 1))) : ThS F32 G43 F G PX PY ∧ RS Fz F32 Gz G43 := by
  have rA : RS Fz F14 Gz G15 := rs_wn wn
  have rB : RS Fz F14 Gz G25 := rs_tr rA (rs_thn th)
  have rC : RS Fz F28 Gz G29 := rs_tr rB (by rw [ef]; exact rs_tr (rs_fu (Or.inr (Or.inr rfl))) (rs_G (fun c hc => kp c (by omega))))
  have rD : RS Fz F32 Gz G33 := rs_tr rC (rs_wn wn2)
  have rE : RS Fz F32 Gz G43 := rs_tr rD (rs_thn th2)
  have kC := kk_rs kz rC
  have kE := kk_rs kz rE
  obtain ⟨a1, a2, a3, a4, a5, a6, a7, a8⟩ := wn
  obtain ⟨b1, b2, b3, b4, b5, b6, b7, b8⟩ := id wn2
  obtain ⟨t1, t2, t3, t4, t5⟩ := th
  obtain ⟨u1, u2, u3, u4, u5⟩ := th2
  have n0 := (kz.1.1 0 (by omega) (by omega)).1
  have n1 := (kC.1.1 1 (by omega) (by omega)).1
  have c69 : G33 69 = G25 69 := (b3 69 (by decide)).trans (kp 69 (by decide))
  have c68 : G33 68 = G25 68 := (b3 68 (by decide)).trans (kp 68 (by decide))
  have x69 : G43 69 0 = Gz 55 0 + F14 53 20 := by rw [u3 0 (by decide), c69]; exact t2
  have x68 : ∀ i : Int, i < 48 → G43 68 i = G25 68 i := fun i hi => by rw [u4 i (Or.inl (by omega)), c68]
  refine ⟨⟨⟨by omega, by omega, fun q => ?_⟩, ⟨by omega, by omega, fun q => ?_⟩, ⟨?_, fun q => ?_⟩, ⟨by omega, fun q => ?_⟩, ?_, ?_⟩, rE⟩
  · have s := t5 q
    have z : isB (fun i => G43 68 i) (G43 69 0) q ↔ isB (fun i => G25 68 (48 * 0 + i)) (Gz 55 0 + F14 53 20) q := by
      rw [x69]
      constructor
      · rintro ⟨i, i0, i1, e⟩
        refine ⟨i, i0, i1, ?_⟩
        rw [← e]
        show G25 68 (48 * 0 + i) = G43 68 i
        rw [x68 i (by omega)]
        congr 1
        omega
      · rintro ⟨i, i0, i1, e⟩
        refine ⟨i, i0, i1, ?_⟩
        rw [← e]
        show G43 68 i = G25 68 (48 * 0 + i)
        rw [x68 i (by omega)]
        congr 1
        omega
    rw [z, s]
    dsimp only
    rw [msz_0, ← kz.1.2.1, ← kz.1.2.2.2.1 q]
    exact ⟨fun z => z.imp id (fun y => ⟨(e0 q y.2.1 y.2.2).mp y.1, y.2⟩), fun z => z.imp id (fun y => ⟨(e0 q y.2.1 y.2.2).mpr y.1, y.2⟩)⟩
  · have s := u5 q
    have z : isB (fun j => G43 68 (48 + j)) (G43 69 1) q ↔ isB (fun i => G43 68 (48 * 1 + i)) (G29 55 1 + F32 53 20) q := by
      rw [u2]
      exact Iff.rfl
    rw [z, s]
    dsimp only
    rw [msz_1, ← kC.1.2.2.1, ← kC.1.2.2.2.2 q]
    exact ⟨fun z => z.imp id (fun y => ⟨(e1 q y.2.1 y.2.2).mp y.1, y.2⟩), fun z => z.imp id (fun y => ⟨(e1 q y.2.1 y.2.2).mpr y.1, y.2⟩)⟩
  · have : F32 53 32 = F14 53 20 := by rw [b2 32 (by decide), ef, fu_s]
    omega
  · have e32 : F32 53 32 = F14 53 20 := by rw [b2 32 (by decide), ef, fu_s]
    have e71 : ∀ j : Int, 0 ≤ j → j < F14 53 20 → G43 71 j = G15 67 j := fun j j0 j1 => by
      rw [u1 71 (by decide) (by decide), b3 71 (by decide), kp2 j j0 j1, t1 67 (by decide) (by decide)]
    have z : CmA F32 G43 q ↔ Cmg F14 G15 q := by
      constructor
      · rintro ⟨j, j0, j1, e⟩
        exact ⟨j, j0, by omega, by rw [← e71 j j0 (by omega)]; exact e⟩
      · rintro ⟨j, j0, j1, e⟩
        exact ⟨j, j0, by omega, by rw [e71 j j0 (by omega)]; exact e⟩
    rw [z, a7 q, msz_0, ← kz.1.2.1, ← kz.1.2.2.2.1 q]
    exact ⟨fun y => ⟨(e0 q y.2.1 y.2.2.1).mp y.1, y.2⟩, fun y => ⟨(e0 q y.2.1 y.2.2.1).mpr y.1, y.2⟩⟩
  · have z : Cmg F32 G43 q ↔ Cmg F32 G33 q := by
      unfold Cmg
      rw [u1 67 (by decide) (by decide)]
    rw [z, b7 q, msz_1, ← kC.1.2.2.1, ← kC.1.2.2.2.2 q]
    exact ⟨fun y => ⟨(e1 q y.2.1 y.2.2.1).mp y.1, y.2⟩, fun y => ⟨(e1 q y.2.1 y.2.2.1).mpr y.1, y.2⟩⟩
  · have := rm_wn (F1 := F32) (G1 := G43) (⟨a1, a2, a3, a4, a5, a6, a7, a8⟩ : Wn Fz F14 Gz G15 0 m P0) hr (rs_k rE).1 (rs_k rE).2.1 (rE.2.2 54 (by omega)) (rE.2.2 55 (by omega))
    exact rm_c this (fun q q0 q1 => e0 q q0 (by rw [msz_0] at q1; have := kE.1.2.1; omega))
  · have e54 : G43 54 = G29 54 := by rw [rE.2.2 54 (by omega), rC.2.2 54 (by omega)]
    have e55 : G43 55 = G29 55 := by rw [rE.2.2 55 (by omega), rC.2.2 55 (by omega)]
    have := rm_wn (F1 := F32) (G1 := G43) wn2 hr2 (b2 1 (by decide)) (b2 2 (by decide)) e54 e55
    exact rm_c this (fun q q0 q1 => e1 q q0 (by rw [msz_1] at q1; have := kE.1.2.2.1; omega))
/-- every cell has one of the laid places that is like it -/
theorem th_pt {F F' : AF} {G G' : AG} {PX PY : Int → Prop} {T : Int → Int → Int} (hc : CC F G) (k : KK F G F' G') (h : ThS F' G' F G PX PY) (cst : CstT F G PX PY T) {x y : Int} (x0 : 0 ≤ x) (xw : x < F 4 2) (y0 : 0 ≤ y) (yw : y < F 11 2) : ∃ i j : Int, 0 ≤ i ∧ i < G' 69 0 ∧ 0 ≤ j ∧ j < G' 69 1 ∧ T (G' 68 i) (G' 68 (48 + j)) = T x y ∧ ∀ g : Int, vu F G 18 g (G' 68 i) (G' 68 (48 + j)) = vu F G 18 g x y := by
  obtain ⟨h1, h2, -, -, ⟨er, nr, s, -, b⟩, ⟨er1, nr1, s1, -, b1⟩⟩ := h
  have b' : ∀ q : Int, isB er nr q ↔ NB F G 4 PX q := fun q => by
    rw [b q, msz_0, ← k.1.2.1, ← k.1.2.2.2.1 q]
  have b1' : ∀ q : Int, isB er1 nr1 q ↔ NB F G 11 PY q := fun q => by
    rw [b1 q, msz_1, ← k.1.2.2.1, ← k.1.2.2.2.2 q]
  rw [msz_0, ← k.1.2.1] at s
  rw [msz_1, ← k.1.2.2.1] at s1
  have bx := bl_spec s x0 xw
  have by' := bl_spec s1 y0 yw
  obtain ⟨i, i0, i1, ei⟩ := (h1.2.2 _).mpr ((b' _).mp ⟨_, bx.1, bx.2.1, rfl⟩)
  obtain ⟨j, j0, j1, ej⟩ := (h2.2.2 _).mpr ((b1' _).mp ⟨_, by'.1, by'.2.1, rfl⟩)
  dsimp only at ei ej
  refine ⟨i, j, i0, i1, j0, j1, ?_, fun g => ?_⟩
  · rw [ei, ej]
    exact cst er er1 nr nr1 s b' s1 b1' x y x0 xw y0 yw
  · have s4 : Sq (G 5) (F 4 1) (F 4 2) := sq_co hc.1
    have s11 : Sq (G 12) (F 11 1) (F 11 2) := sq_co hc.2.1
    rw [ei, ej]
    unfold vu cv
    rw [bl_sub s4 s (fun q hq => (b' q).mpr (Or.inl hq)) x0 xw, bl_sub s11 s1 (fun q hq => (b1' q).mpr (Or.inl hq)) y0 yw]
theorem th_in {F F' : AF} {G G' : AG} {PX PY : Int → Prop} (hc : CC F G) (h : ThS F' G' F G PX PY) {i j : Int} (i0 : 0 ≤ i) (i1 : i < G' 69 0) (j0 : 0 ≤ j) (j1 : j < G' 69 1) : 0 ≤ G' 68 i ∧ G' 68 i < F 4 2 ∧ 0 ≤ G' 68 (48 + j) ∧ G' 68 (48 + j) < F 11 2 := by
  have s4 : Sq (G 5) (F 4 1) (F 4 2) := sq_co hc.1
  have s11 : Sq (G 12) (F 11 1) (F 11 2) := sq_co hc.2.1
  have a := (h.1.2.2 (G' 68 i)).mp ⟨i, i0, i1, rfl⟩
  have b := (h.2.1.2.2 (G' 68 (48 + j))).mp ⟨j, j0, j1, rfl⟩
  have a' : 0 ≤ G' 68 i ∧ G' 68 i < F 4 2 := by
    rcases a with a | a
    · exact isB_in s4 a
    · have := a.2
      omega
  have b' : 0 ≤ G' 68 (48 + j) ∧ G' 68 (48 + j) < F 11 2 := by
    rcases b with b | b
    · exact isB_in s11 b
    · have := b.2
      omega
  exact ⟨a'.1, a'.2, b'.1, b'.2⟩
theorem ok_thAcross {d : Nat} {S S' : AS} {F F' : AF} {G G' : AG} {b : Int} {PX PY : Int → Prop} (hd : 3 ≤ d) (hsm : ShM S') (ci : CI S F G b) (hb : b ≤ 1000000) (k : KK F G F' G') (h : ThS F' G' F G PX PY) {Q : AQ} (hq : ∀ G1 G2, (∀ c : Nat, c ≠ 66 → G1 c = G' c) → (∀ a : Int, 0 ≤ a → a ≤ 1 → G1 66 a = me F' G' a (G' 55 a - 1)) → Came F' G1 G2 (fun b q => b = 0 ∧ CmA F' G' q) → Q none S' F' G2) : Ok d MX10_comesAcross [vR 53] S' F' G' Q := by
  obtain ⟨-, ⟨to0, to8⟩, -⟩ := kk_tell ci hb k
  have w := k.1.2.1
  exact ok_comesAcross hd hsm k.1.1 (kk_lt ci k) to0 to8 h.2.2.2.2.1 h.2.2.1.1 (fun q hq' => by
    have z := (h.2.2.1.2 q).mp hq'
    refine ⟨z.1, by omega, ?_⟩
    rw [msz_0]
    omega) hq
theorem ok_thAll {d : Nat} {S S' : AS} {F F' : AF} {G G' G1 G2 : AG} {b : Int} {PX PY : Int → Prop} (hd : 3 ≤ d) (hsm : ShM S') (ci : CI S F G b) (hb : b ≤ 1000000) (k : KK F G F' G') (h : ThS F' G' F G PX PY) (c1 : ∀ c : Nat, c ≠ 66 → G1 c = G' c) (cm : Came F' G1 G2 (fun b q => b = 0 ∧ CmA F' G' q)) {Q : AQ} (hq : ∀ G3, Came F' G1 G3 (P2 PX PY) → Q none S' F' G3) : Ok d MX10_comesAll [vR 53, vI 1] S' F' G2 Q := by
  have rs : RS F' F' G' G1 := rs_G (fun c hc => c1 c (by omega))
  have k1 := kk_rs k rs
  obtain ⟨-, ⟨to0, to8⟩, -⟩ := kk_tell ci hb k
  have hw := k.1.2.2.1
  have ec : ∀ q : Int, Cmg F' G1 q ↔ Cmg F' G' q := fun q => by
    unfold Cmg
    rw [c1 67 (by decide)]
  have em := fun a => me_cg (F := F') (F' := F') (G := G') (G' := G1) rfl rfl (c1 54 (by decide)) (c1 55 (by decide)) a
  have rm : Rm F' G1 1 PY := by
    have := h.2.2.2.2.2
    unfold Rm at this ⊢
    rw [em, c1 55 (by decide)]
    exact this
  refine ok_comesAll hd hsm (kk_lt ci k1) to0 to8 (a := 1) (by omega) (by omega) cm rm (fun q z => absurd z.1 (by decide)) h.2.2.2.1.1 (fun q hq' => ?_) (fun G3 cm3 => hq G3 (came_w cm3 (fun a q a0 a1 q0 q1 nb => ?_)))
  · have z := (h.2.2.2.1.2 q).mp ((ec q).mp hq')
    refine ⟨z.1, by omega, ?_⟩
    rw [msz_1]
    omega
  · have : a = 0 ∨ a = 1 := by omega
    rcases this with e | e
    · subst e
      rw [msz_0, ← k.1.2.1] at q1
      have nb' : ¬ isC F G 4 q := fun z => nb ((k1.1.2.2.2.1 q).mp z)
      rw [p2_0]
      constructor
      · rintro (⟨-, z⟩ | ⟨z, -⟩)
        · exact ((h.2.2.1.2 q).mp z).1
        · exact absurd z (by decide)
      · exact fun z => Or.inl ⟨rfl, (h.2.2.1.2 q).mpr ⟨z, q0, q1, nb'⟩⟩
    · subst e
      rw [msz_1, ← k.1.2.2.1] at q1
      have nb' : ¬ isC F G 11 q := fun z => nb ((k1.1.2.2.2.2 q).mp z)
      rw [p2_1]
      constructor
      · rintro (⟨z, -⟩ | ⟨-, z⟩)
        · exact absurd z (by decide)
        · exact ((h.2.2.2.1.2 q).mp ((ec q).mp z)).1
      · exact fun z => Or.inr ⟨rfl, (ec q).mpr ((h.2.2.2.1.2 q).mpr ⟨z, q0, q1, nb'⟩)⟩
/-- fields written by their first cells -/
theorem fill_cells {F F' : AF} {G G1 G3 G4 : AG} {g : Int} {PX PY : Int → Prop} {T : Int → Int → Int} {P : Int → Int → Prop} (k1 : KK F G F' G1) (cm : Came F' G1 G3 (P2 PX PY)) (cst : CstT F G PX PY T) (g0 : 0 ≤ g) (g1 : g ≤ 2) (u : Upd G3 G4 57 (2304 * g) P (fun i j => T (me F' G3 0 i) (me F' G3 1 j))) (hP : ∀ i j : Int, 0 ≤ i → i < G3 55 0 → 0 ≤ j → j < G3 55 1 → ¬ P i j → T (me F' G3 0 i) (me F' G3 1 j) = vC F G 18 g (me F' G3 0 i) (me F' G3 1 j)) {g' x y : Int} (g0' : 0 ≤ g') (g1' : g' ≤ 2) (x0 : 0 ≤ x) (xw : x < F' 53 1) (y0 : 0 ≤ y) (yw : y < F' 53 2) : mC F' G4 57 0 g' x y = if g' = g then T x y else mC F' G3 57 0 g' x y := by
  have hx := cm.2.1
  have w := k1.1.2.1
  have hh := k1.1.2.2.1
  have sx : Sq (me F' G3 0) (G3 55 0) (F 4 2) := by rw [w]; exact sq_x hx
  have sy : Sq (me F' G3 1) (G3 55 1) (F 11 2) := by rw [hh]; exact sq_y hx
  have bx := mb_spec hx (a := 0) (p := x) (by omega) (by omega) x0 (by rw [msz_0]; exact xw)
  have by' := mb_spec hx (a := 1) (p := y) (by omega) (by omega) y0 (by rw [msz_1]; exact yw)
  have ib : ∀ q : Int, isB (me F' G3 0) (G3 55 0) q ↔ NB F G 4 PX q := fun q => by
    rw [(cm.2.2.1 0 (by omega) (by omega)).1 q, msz_0, ← w, ← k1.1.2.2.2.1 q, p2_0]
  have ib1 : ∀ q : Int, isB (me F' G3 1) (G3 55 1) q ↔ NB F G 11 PY q := fun q => by
    rw [(cm.2.2.1 1 (by omega) (by omega)).1 q, msz_1, ← hh, ← k1.1.2.2.2.2 q, p2_1]
  have ct := cst _ _ _ _ sx ib sy ib1 x y x0 (by omega) y0 (by omega)
  obtain ⟨u1, u2, u3⟩ := mc_upd hx g0 g1 u g0' g1' x0 xw y0 yw
  have ct' : T (me F' G3 0 (mb F' G3 0 x)) (me F' G3 1 (mb F' G3 1 y)) = T x y := ct
  by_cases eg : g' = g
  · rw [if_pos eg]
    by_cases p : P (mb F' G3 0 x) (mb F' G3 1 y)
    · rw [u1 eg p, ct']
    · rw [u2 eg p, ← ct', hP _ _ bx.1 bx.2.1 by'.1 by'.2.1 p, eg]
      have cx := isB_in sx ⟨_, bx.1, bx.2.1, rfl⟩
      have cy := isB_in sy ⟨_, by'.1, by'.2.1, rfl⟩
      have e1 := cm.2.2.2.1 g _ _ g0 g1 cx.1 (by omega) cy.1 (by omega)
      rw [k1.2.2.2.1 g _ _ g0 g1 cx.1 cx.2 cy.1 cy.2, ← e1]
      unfold mC
      have a1 := bl_at sx bx.1 bx.2.1
      have a2 := bl_at sy by'.1 by'.2.1
      unfold cv
      rw [a1, a2]
      rfl
  · rw [if_neg eg]
    exact u3 eg
end
