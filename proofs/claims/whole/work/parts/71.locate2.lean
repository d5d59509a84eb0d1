/-! THE SYSTEM LOCATES A UNIT, all of it -/
def Same34 (F F' : AF) : Prop := ∀ c : Nat, c ≠ 34 → F' c = F c
theorem s34_cc {F F' : AF} {G : AG} (h : Same34 F F') (hc : CC F G) : CC F' G := cc_cg (h 4 (by decide)) (h 11 (by decide)) (h 17 (by decide)) rfl rfl hc
theorem s34_pba {F F' : AF} {G : AG} {p : Nat} (h : Same34 F F') (hb : PBA F G p) : PBA F' G p := by
  intro i j i0 i1 j0 j1
  rw [h 4 (by decide)] at i1
  rw [h 11 (by decide)] at j1
  exact hb i j i0 i1 j0 j1
theorem s34_ct {F F' : AF} {G : AG} {p : Nat} (h : Same34 F F') (hb : CT F G p) : CT F' G p := by
  intro g g0 g1
  have := hb g g0 g1
  unfold csum at *
  rw [h 4 (by decide), h 11 (by decide)]
  exact this
theorem uo_pos {F : AF} {G : AG} (hb : PBA F G 18) {q g : Int} (hg : -1 ≤ g) (hg2 : g ≤ 2) : Upos (F (out q) 1) (F (inn q) 1) (uo G q g) := fun j i j0 j1 i0 i1 => (uo_in hb hg hg2 j0 j1 i0 i1).1
def LcQ (F F' : AF) (G : AG) (q g lo hi il ih k j l i m : Int) : Prop := Same34 F F' ∧ FdW (G (out q + 1)) (G (inn q + 1)) (F (out q) 1) (F (inn q) 1) (uo G q g) lo hi il ih k j l i m ∧ F' 34 (if q = 0 then 5 else 4) = max (G (out q + 1) j) lo + (l - 1) / rwS (G (inn q + 1)) (F (inn q) 1) (uo G q g) il ih j ∧ F' 34 (if q = 0 then 4 else 5) = max (G (inn q + 1) i) il + (m - 1) / uo G q g j i ∧ F' 34 6 = uo G q g j i * ((m - 1) / uo G q g j i + 1) - m ∧ F' 34 7 = sI (fun j => rwS (G (inn q + 1)) (F (inn q) 1) (idn (uo G q g)) il ih j * ov (G (out q + 1) j) (G (out q + 1) (j + 1)) lo hi) j + rwS (G (inn q + 1)) (F (inn q) 1) (idn (uo G q g)) il ih j * ((l - 1) / rwS (G (inn q + 1)) (F (inn q) 1) (uo G q g) il ih j) + sI (fun i => idn (uo G q g) j i * ov (G (inn q + 1) i) (G (inn q + 1) (i + 1)) il ih) i + ((m - 1) / uo G q g j i + 1)
theorem loc_81 {d : Nat} {S : AS} {F : AF} {G : AG} (hd : 2 ≤ d) (hsh : ShC S) (hc : CC F G) (hb : PBA F G 18) {q g k lo hi il ih a6 : Int} {re : Nat} (hre : AtRect S re) (q0 : 0 ≤ q) (q1 : q ≤ 1) (hg : -1 ≤ g) (hg2 : g ≤ 2) (hlo : 0 ≤ lo) (hlohi : lo ≤ hi) (hhi : hi < F (out q) 2) (hl : 0 ≤ il) (hlh : il ≤ ih) (hh : ih < F (inn q) 2) (k1 : 1 ≤ k) (k2 : r64 k) (hT : tot (G (out q + 1)) (G (inn q + 1)) (F (out q) 1) (F (inn q) 1) (uo G q g) lo hi il ih ≤ 3000000000000000000) {Q : AQ} (hq1 : ∀ (F' : AF) (j l i m : Int), LcQ F F' G q g lo hi il ih k j l i m → Q (some (vI 1)) S F' G) (hq0 : ∀ F' : AF, Same34 F F' → tot (G (out q + 1)) (G (inn q + 1)) (F (out q) 1) (F (inn q) 1) (uo G q g) lo hi il ih < k → Q (some (vI 0)) S F' G) : V_X7_locate_81 d S F G Q g q re k a6 lo hi il ih := by
  have hin := co_inn hc q
  have hou := co_out hc q
  have hou4 : CO F G (out q) 104 := co_up hou (by omega)
  have hk := at_out hsh q
  have hne := out_ne q
  have hni := inn_ne q
  have i10 := hin.2.2.2.1
  obtain ⟨c1, c2, c3, c4, c5, c6, c7⟩ := id hou
  have sqi := sq_co hin
  have p1 := cb_spec hou4 (p := lo) hlo
  have p2 := cb_spec hou4 (p := hi) (by omega)
  have p1' := p1.2.2.2 (by omega)
  have p2' := p2.2.2.2 hhi
  have m1 := cb_mono hou4 hlo hlohi hhi
  have z1 : ∀ i : Int, 0 ≤ i → i < cb F G (out q) lo → ov (G (out q + 1) i) (G (out q + 1) (i + 1)) lo hi = 0 := fun i i0 i1 => ov_lo c7 i0 i1 (by omega) p1.2.2.1
  have z2 : ∀ i : Int, cb F G (out q) hi + 1 ≤ i → i < F (out q) 1 → ov (G (out q + 1) i) (G (out q + 1) (i + 1)) lo hi = 0 := fun i i0 i1 => ov_hi c7 (b := cb F G (out q) hi) p2.1 (by omega) (by omega) p2'
  have hU := uo_pos hb (q := q) (g := g) hg hg2
  have eT : tot (G (out q + 1)) (G (inn q + 1)) (F (out q) 1) (F (inn q) 1) (uo G q g) lo hi il ih = sI (fun j => rwS (G (inn q + 1)) (F (inn q) 1) (uo G q g) il ih j * ov (G (out q + 1) j) (G (out q + 1) (j + 1)) lo hi) (cb F G (out q) hi + 1) := sI_end (by omega) (by omega) (fun i i0 i1 => by rw [z2 i i0 i1, Int.mul_zero])
  have pos : ∀ j : Int, 0 ≤ j → j < F (out q) 1 → 0 ≤ rwS (G (inn q + 1)) (F (inn q) 1) (uo G q g) il ih j * ov (G (out q + 1) j) (G (out q + 1) (j + 1)) lo hi := fun j j0 j1 => Int.mul_nonneg (rwS_pos hU _ _ _ j0 j1) (ov_pos _ _ _ _)
  unfold V_X7_locate_81
  refine ⟨by omega, _, pu_outer hsh q, hk, _, pu_bandOf hk hou4 (by omega), fun F15 e15 => ⟨_, pu_bandOf hk (co_cg (by rw [e15]; exact fu_row hne) rfl hou4) hlo, ?_⟩⟩
  have s15 : Same34 F F15 := fun c hc => by rw [e15]; exact fu_row hc
  have ecb : cb F15 G (out q) lo = cb F G (out q) lo := cb_congr (s15 _ hne) lo
  rw [ecb]
  refine up_ind (α := AF × Int) (cb F G (out q) hi) (fun j A => cb F G (out q) lo ≤ j ∧ j ≤ cb F G (out q) hi + 1 ∧ A.2 = k - sI (fun j => rwS (G (inn q + 1)) (F (inn q) 1) (uo G q g) il ih j * ov (G (out q + 1) j) (G (out q + 1) (j + 1)) lo hi) j ∧ 1 ≤ A.2 ∧ Same34 F A.1 ∧ A.1 34 7 = sI (fun j => rwS (G (inn q + 1)) (F (inn q) 1) (idn (uo G q g)) il ih j * ov (G (out q + 1) j) (G (out q + 1) (j + 1)) lo hi) j ∧ 0 ≤ A.1 34 7 ∧ A.1 34 7 ≤ 100000000 * j) (fun j A => Go d MX7_locate 117 [some (vR 34), some (vI g), some (vI q), some (vR re), some (vJ k), none, some (vI a6), some (vI lo), some (vI hi), some (vI il), some (vI ih), some (vR (out q)), some (vI (cb F G (out q) hi)), some (vJ A.2), none, some (vI j), none, none, none, none] [] S A.1 G Q) ?_ ?_ (cb F G (out q) lo) (F15, k) ⟨by omega, by omega, by show k = k - _; rw [sI_beg (fun i i0 i1 => by rw [z1 i i0 i1, Int.mul_zero])]; omega, k1, s15, by rw [sI_beg (fun i i0 i1 => by rw [z1 i i0 i1, Int.mul_zero])]; show F15 34 7 = 0; rw [e15, fu_s], by show 0 ≤ F15 34 7; rw [e15, fu_s]; omega, by show F15 34 7 ≤ _; rw [e15, fu_s]; omega⟩
  · rintro j ⟨F1, l⟩ ⟨j0, j1, el, l1, s1, r7, r70, r71⟩ hj ih2
    simp only at el l1 s1 r7 r70 r71
    have jj : 0 ≤ j := by omega
    have jN : j < F (out q) 1 := by omega
    have hc1 := s34_cc s1 hc
    have hb1 := s34_pba s1 hb
    have eo := s1 _ hne
    have ei := s1 _ hni
    have sle := sI_at (f := fun j => rwS (G (inn q + 1)) (F (inn q) 1) (uo G q g) il ih j * ov (G (out q + 1) j) (G (out q + 1) (j + 1)) lo hi) (n := F (out q) 1) (j := j) jj jN pos
    have sle' : rwS (G (inn q + 1)) (F (inn q) 1) (uo G q g) il ih j * ov (G (out q + 1) j) (G (out q + 1) (j + 1)) lo hi ≤ tot (G (out q + 1)) (G (inn q + 1)) (F (out q) 1) (F (inn q) 1) (uo G q g) lo hi il ih := sle
    have pj := pos j jj jN
    have sp := sI_pos (f := fun j => rwS (G (inn q + 1)) (F (inn q) 1) (uo G q g) il ih j * ov (G (out q + 1) j) (G (out q + 1) (j + 1)) lo hi) (n := j) (fun i i0 i1 => pos i i0 (by omega))
    have ssu := sI_1 (fun j => rwS (G (inn q + 1)) (F (inn q) 1) (uo G q g) il ih j * ov (G (out q + 1) j) (G (out q + 1) (j + 1)) lo hi) jj
    have ssn := sI_1 (fun j => rwS (G (inn q + 1)) (F (inn q) 1) (idn (uo G q g)) il ih j * ov (G (out q + 1) j) (G (out q + 1) (j + 1)) lo hi) jj
    have R0 := rwS_pos hU (G (inn q + 1)) il ih jj jN
    have N0 := rwI_bd sqi (uo G q g) hl hlh hh j
    have im := ov_mid c7 (i := j) (b := cb F G (out q) lo) (b2 := cb F G (out q) hi) p1.1 j0 (by omega) p2.2.1 p1' p2.2.2.1 hlohi
    have f1 := co_in hou (i := j) jj (by omega)
    have f2 := co_in hou (i := j + 1) (by omega) (by omega)
    have f3 := c7 j jj jN
    have ovl := ov_le (lo := G (out q + 1) j) (hi := G (out q + 1) (j + 1)) (a := lo) (b := hi) (by omega)
    have pov := pu_overlap (d := d - 1) (S := S) (F := F1) (G := G) hk (co_cg eo rfl hou4) (i := j) (lo := lo) (hi := hi) jj (by rw [eo]; exact jN) (by omega) (by omega) (by omega) (by omega)
    rw [im.1] at pov
    have NP := mul_bd (a := rwS (G (inn q + 1)) (F (inn q) 1) (idn (uo G q g)) il ih j) (b := ov (G (out q + 1) j) (G (out q + 1) (j + 1)) lo hi) (A := 10000) (B := 10000) N0.1 (by omega) (by omega) (by omega)
    refine R_X7_locate_117 hsh hre hk ?_
    unfold V_X7_locate_117
    refine ⟨fun y => absurd y (by omega), fun _ => ⟨by omega, _, pov, ok_measure (by omega) hsh hc1 hb1 hg hg2 jj (by rw [eo]; exact jN) hl hlh (by rw [ei]; exact hh) ⟨rfl, rfl, ?_⟩⟩⟩
    have eS : lineS F1 G q g j il ih = rwS (G (inn q + 1)) (F (inn q) 1) (uo G q g) il ih j := by rw [lineS_rw, ei]
    have eN : lineN F1 G q g j il ih = rwS (G (inn q + 1)) (F (inn q) 1) (idn (uo G q g)) il ih j := by rw [lineN_rw, ei]
    rw [eS, eN, msr_2]
    have s10 : Same34 F (msr F1 (rwS (G (inn q + 1)) (F (inn q) 1) (uo G q g) il ih j) (rwS (G (inn q + 1)) (F (inn q) 1) (idn (uo G q g)) il ih j)) := fun c hc => by rw [msr_c hc]; exact s1 c hc
    generalize hF10 : msr F1 (rwS (G (inn q + 1)) (F (inn q) 1) (uo G q g) il ih j) (rwS (G (inn q + 1)) (F (inn q) 1) (idn (uo G q g)) il ih j) = F10 at *
    have t2 : F10 34 2 = rwS (G (inn q + 1)) (F (inn q) 1) (uo G q g) il ih j := by rw [← hF10, msr_2]
    have t3 : F10 34 3 = rwS (G (inn q + 1)) (F (inn q) 1) (idn (uo G q g)) il ih j := by rw [← hF10, msr_3]
    have t7 : F10 34 7 = F1 34 7 := by rw [← hF10, msr_k (by decide) (by decide)]
    simp only [t2]
    have skip' : rwS (G (inn q + 1)) (F (inn q) 1) (uo G q g) il ih j * ov (G (out q + 1) j) (G (out q + 1) (j + 1)) lo hi < l → V_X7_locate_172 d S F10 G Q g q re k a6 lo hi il ih (out q) (cb F G (out q) hi) l j (ov (G (out q + 1) j) (G (out q + 1) (j + 1)) lo hi) := by
      intro lt
      unfold V_X7_locate_172
      rw [t2, t3, t7]
      refine ⟨by omega, by omega, fun x3 e3 => ⟨by omega, by omega, fun F6 e6 => ⟨by omega, ih2 (F6, x3) ⟨by omega, by omega, by show x3 = _; rw [ssu]; omega, by show 1 ≤ x3; omega, fun c hc => ?_, ?_, ?_, ?_⟩⟩⟩⟩
      · show F6 c = F c
        rw [e6, fu_row hc]; exact s10 c hc
      · show F6 34 7 = _
        rw [e6, fu_s, ssn, r7]
      · show 0 ≤ F6 34 7
        rw [e6, fu_s]; omega
      · show F6 34 7 ≤ _
        rw [e6, fu_s]; omega
    refine ⟨fun u => skip' ?_, fun u => ⟨by omega, fun y => ?_, fun y => skip' (by omega)⟩⟩
    · have : rwS (G (inn q + 1)) (F (inn q) 1) (uo G q g) il ih j = 0 := by omega
      rw [this, Int.zero_mul]; omega
    · have hLoc : Loc (rwS (G (inn q + 1)) (F (inn q) 1) (uo G q g) il ih) (fun j => ov (G (out q + 1) j) (G (out q + 1) (j + 1)) lo hi) (F (out q) 1) k j l := ⟨jj, jN, el, l1, y⟩
      obtain ⟨D1, D2, D3, D4, D5, D6, D7, D8, D9⟩ := dv R0 l1 y
      have NT := mul_bd (a := rwS (G (inn q + 1)) (F (inn q) 1) (idn (uo G q g)) il ih j) (b := (l - 1) / rwS (G (inn q + 1)) (F (inn q) 1) (uo G q g) il ih j) (A := 10000) (B := 10000) N0.1 (by omega) D2 (by omega)
      rw [tdiv_pos (by omega), t3, t7]
      refine ⟨by omega, by omega, by omega, fun x16 e16 => ?_⟩
      rw [e16]
      refine ⟨by omega, by omega, fun F19 e19 => ⟨jj, by omega, by omega, by omega, ok_setOuter hsh _ _ ⟨rfl, rfl, ?_⟩⟩⟩
      have mc : max lo (G (out q + 1) j) = max (G (out q + 1) j) lo := by omega
      rw [mc]
      generalize hF26 : fu F19 34 (if q = 0 then 5 else 4) (max (G (out q + 1) j) lo + (l - 1) / rwS (G (inn q + 1)) (F (inn q) 1) (uo G q g) il ih j) = F26
      have s26 : Same34 F F26 := fun c hc => by rw [← hF26, fu_row hc, e19, fu_row hc]; exact s10 c hc
      have k2' : (if q = 0 then 5 else 4 : Nat) ≠ 2 ∧ (if q = 0 then 5 else 4 : Nat) ≠ 7 ∧ (if q = 0 then 5 else 4 : Nat) ≠ 6 ∧ (if q = 0 then 5 else 4 : Nat) ≠ (if q = 0 then 4 else 5) ∧ (if q = 0 then 4 else 5 : Nat) ≠ 6 ∧ (if q = 0 then 4 else 5 : Nat) ≠ 7 := by
        by_cases w : q = 0
        · simp only [if_pos w]; decide
        · simp only [if_neg w]; decide
      have v2 : F26 34 2 = rwS (G (inn q + 1)) (F (inn q) 1) (uo G q g) il ih j := by rw [← hF26, fu_k (Ne.symm k2'.1), e19, fu_k (by decide)]; exact t2
      have v7 : F26 34 7 = F1 34 7 + rwS (G (inn q + 1)) (F (inn q) 1) (idn (uo G q g)) il ih j * ((l - 1) / rwS (G (inn q + 1)) (F (inn q) 1) (uo G q g) il ih j) := by rw [← hF26, fu_k (Ne.symm k2'.2.1), e19, fu_s]
      have v5 : F26 34 (if q = 0 then 5 else 4) = max (G (out q + 1) j) lo + (l - 1) / rwS (G (inn q + 1)) (F (inn q) 1) (uo G q g) il ih j := by rw [← hF26, fu_s]
      have e26i := s26 _ hni
      have e26o := s26 _ hne
      rw [v2]
      refine ⟨by omega, by omega, ok_locateInLine (ih := ih) (by omega) hsh (s34_cc s26 hc) (s34_pba s26 hb) q0 q1 hg hg2 jj (by rw [e26o]; exact jN) hl hlh (by rw [e26i]; exact hh) D4 (by rw [e26i]; exact D5) (by omega) (by rw [v7]; omega) (by rw [v7]; omega) (fun i m lc => ⟨rfl, 1, rfl, Or.inr rfl, ?_⟩)⟩
      rw [e26i] at lc
      refine hq1 _ j l i m ⟨fun c hc => by rw [fu_row hc, fu_row hc, fu_row hc]; exact s26 c hc, ⟨hLoc, lc⟩, ?_, by rw [fu_s], by rw [fu_k (Ne.symm k2'.2.2.2.2.1), fu_s], ?_⟩
      · rw [fu_k k2'.2.2.2.1, fu_k k2'.2.2.1, fu_k k2'.2.1]; exact v5
      · rw [fu_k (Ne.symm k2'.2.2.2.2.2), fu_k (by decide), fu_s, v7, r7]
  · rintro j ⟨F1, l⟩ ⟨j0, j1, el, l1, s1, r7, r70, r71⟩ hj
    simp only at el l1 s1
    have ej : j = cb F G (out q) hi + 1 := by omega
    refine R_X7_locate_117 hsh hre hk ?_
    unfold V_X7_locate_117
    refine ⟨fun _ => hq0 F1 s1 ?_, fun y => absurd y (by omega)⟩
    rw [eT, ← ej]
    omega
theorem ok_locate {d : Nat} {S : AS} {F : AF} {G : AG} (hd : 2 ≤ d) (hsh : ShC S) (hc : CC F G) (hb : PBA F G 18) {q g k : Int} {re : Nat} (hre : AtRect S re) (hr : RG1 F re) (q0 : 0 ≤ q) (q1 : q ≤ 1) (hg : -1 ≤ g) (hg2 : g ≤ 2) (k1 : 1 ≤ k) (k2 : r64 k) {lo hi il ih : Int} (e1 : lo = if q = 0 then F re 1 else F re 0) (e2 : hi = if q = 0 then F re 3 else F re 2) (e3 : il = if q = 0 then F re 0 else F re 1) (e4 : ih = if q = 0 then F re 2 else F re 3) (hT : tot (G (out q + 1)) (G (inn q + 1)) (F (out q) 1) (F (inn q) 1) (uo G q g) lo hi il ih ≤ 3000000000000000000) {Q : AQ} (hq1 : ∀ (F' : AF) (j l i m : Int), LcQ F F' G q g lo hi il ih k j l i m → Q (some (vI 1)) S F' G) (hq0 : ∀ F' : AF, Same34 F F' → tot (G (out q + 1)) (G (inn q + 1)) (F (out q) 1) (F (inn q) 1) (uo G q g) lo hi il ih < k → Q (some (vI 0)) S F' G) : Ok d MX7_locate [vR 34, vI g, vI q, vR re, vJ k] S F G Q := by
  obtain ⟨r1, r2, r3, r4, r5, r6⟩ := id hr
  refine ok_go rfl (by decide) (Nat.le_of_ble_eq_true rfl) (R_X7_locate_0 hsh hre ?_)
  unfold V_X7_locate_0
  refine ⟨fun w => ?_, fun w => ?_⟩
  · rw [if_neg w] at e1 e2 e3 e4
    unfold V_X7_locate_9
    refine ⟨fun _ => ?_, fun y => absurd rfl y⟩
    unfold V_X7_locate_27
    refine ⟨fun _ => ?_, fun y => absurd rfl y⟩
    unfold V_X7_locate_45
    refine ⟨fun _ => ?_, fun y => absurd rfl y⟩
    unfold V_X7_locate_63
    refine ⟨fun _ => ?_, fun y => absurd rfl y⟩
    rw [← e1, ← e2, ← e3, ← e4]
    have o4 : out q = 4 := if_neg w
    have i11 : inn q = 11 := if_neg w
    exact loc_81 hd hsh hc hb hre q0 q1 hg hg2 (by omega) (by omega) (by rw [o4]; omega) (by omega) (by omega) (by rw [i11]; omega) k1 k2 hT hq1 hq0
  · rw [if_pos w] at e1 e2 e3 e4
    unfold V_X7_locate_9
    refine ⟨fun y => absurd y (by decide), fun _ => ?_⟩
    unfold V_X7_locate_27
    refine ⟨fun y => absurd y (by decide), fun _ => ?_⟩
    unfold V_X7_locate_45
    refine ⟨fun y => absurd y (by decide), fun _ => ?_⟩
    unfold V_X7_locate_63
    refine ⟨fun y => absurd y (by decide), fun _ => ?_⟩
    rw [← e1, ← e2, ← e3, ← e4]
    have o4 : out q = 11 := if_pos w
    have i11 : inn q = 4 := if_pos w
    exact loc_81 hd hsh hc hb hre q0 q1 hg hg2 (by omega) (by omega) (by rw [o4]; omega) (by omega) (by omega) (by rw [i11]; omega) k1 k2 hT hq1 hq0
