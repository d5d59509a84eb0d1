/-! LINES: the middle, the fullest, what hauling costs -/
def LN (F : AF) (G : AG) (q g : Int) : Int → Int := rwS (G (inn q + 1)) (F (inn q) 1) (uo G q g) 0 (F (inn q) 2 - 1)
def WD (e : Int → Int) : Int → Int := fun b => e (b + 1) - e b
theorem ln_pos {F : AF} {G : AG} (hb : PBA F G 18) {q g b : Int} (hg : -1 ≤ g) (hg2 : g ≤ 2) (b0 : 0 ≤ b) (b1 : b < F (out q) 1) : 0 ≤ LN F G q g b := rwS_pos (uo_pos hb hg hg2) _ _ _ b0 b1
theorem ln_34 {F F' : AF} {G : AG} (h : Same34 F F') (q g : Int) : LN F' G q g = LN F G q g := by
  unfold LN
  rw [h _ (inn_ne q)]
theorem ok_measureWhole {d : Nat} {S : AS} {F : AF} {G : AG} (hd : 2 ≤ d) (hsh : ShC S) (hc : CC F G) (hb : PBA F G 18) {q g b : Int} (hg : -1 ≤ g) (hg2 : g ≤ 2) (b0 : 0 ≤ b) (b1 : b < F (out q) 1) {Q : AQ} (hq : ∀ F' : AF, Same34 F F' → F' 34 2 = LN F G q g b → F' 34 8 = F 34 8 → Q none S F' G) : Ok d MX7_measureWhole [vR 34, vI g, vI q, vI b] S F G Q := by
  have hin := co_inn hc q
  have w1 := hin.2.2.1
  have w2 := hin.2.2.2.1
  refine ok_go rfl (by decide) (Nat.le_of_ble_eq_true rfl) (R_X7_measureWhole_0 hsh ?_)
  unfold V_X7_measureWhole_0
  refine ⟨by omega, _, pu_inner hsh q, at_inn hsh q, by omega, ok_measure (by omega) hsh hc hb hg hg2 b0 b1 (by omega) (by omega) (by omega) ⟨rfl, rfl, hq _ (fun c hc => msr_c hc) ?_ (msr_k (by decide) (by decide))⟩⟩
  rw [msr_2]
  rfl
theorem ok_middle {d : Nat} {S : AS} {F : AF} {G : AG} (hd : 3 ≤ d) (hsh : ShC S) (hc : CC F G) (hb : PBA F G 18) {q g u : Int} (hg : -1 ≤ g) (hg2 : g ≤ 2) (u1 : 1 ≤ u) (u2 : u ≤ sI (fun b => LN F G q g b * WD (G (out q + 1)) b) (F (out q) 1)) (hT : sI (fun b => LN F G q g b * WD (G (out q + 1)) b) (F (out q) 1) ≤ 3000000000000000000) {Q : AQ} (hq : ∀ (F' : AF) (b l : Int), Same34 F F' → Loc (LN F G q g) (WD (G (out q + 1))) (F (out q) 1) (u - u / 2) b l → 0 ≤ G (out q + 1) b + (l - 1) / LN F G q g b → G (out q + 1) b + (l - 1) / LN F G q g b < F (out q) 2 → Q (some (vI (G (out q + 1) b + (l - 1) / LN F G q g b))) S F' G) : Ok d MX7_middle [vR 34, vI g, vI q, vJ u] S F G Q := by
  have hou := co_out hc q
  have hou4 : CO F G (out q) 104 := co_up hou (by omega)
  have hk := at_out hsh q
  have hne := out_ne q
  obtain ⟨c1, c2, c3, c4, c5, c6, c7⟩ := id hou
  have pos : ∀ b : Int, 0 ≤ b → b < F (out q) 1 → 0 ≤ LN F G q g b * WD (G (out q + 1)) b := fun b b0 b1 => Int.mul_nonneg (ln_pos hb hg hg2 b0 b1) (by have := c7 b b0 b1; unfold WD; omega)
  refine ok_go rfl (by decide) (Nat.le_of_ble_eq_true rfl) (R_X7_middle_0 hsh ?_)
  unfold V_X7_middle_0
  rw [tdiv_pos (by omega)]
  refine ⟨by omega, _, pu_outer hsh q, by omega, by omega, fun x10 e10 => ?_⟩
  refine up_ind (α := AF × Int) (F (out q) 1 - 1) (fun b A => 0 ≤ b ∧ b < F (out q) 1 ∧ Same34 F A.1 ∧ A.2 = u - u / 2 - sI (fun b => LN F G q g b * WD (G (out q + 1)) b) b ∧ 1 ≤ A.2) (fun b A => Go d MX7_middle 19 [some (vR 34), some (vI g), some (vI q), some (vJ u), none, some (vR (out q)), some (vJ A.2), none, some (vI b), none, none] [] S A.1 G Q) ?_ (fun b A hI hb' => absurd hI.2.1 (by omega)) 0 (F, x10) ⟨by omega, by omega, fun _ _ => rfl, by rw [sI_0 _ (by omega)]; show x10 = _; omega, by show 1 ≤ x10; omega⟩
  rintro b ⟨F1, l⟩ ⟨b0, b1, s1, el, l1⟩ - ih
  simp only at s1 el l1
  have eo := s1 _ hne
  have sle := sI_at (f := fun b => LN F G q g b * WD (G (out q + 1)) b) (n := F (out q) 1) (j := b) b0 b1 pos
  have sle' : LN F G q g b * WD (G (out q + 1)) b ≤ sI (fun b => LN F G q g b * WD (G (out q + 1)) b) (F (out q) 1) := sle
  have pj := pos b b0 b1
  have sp := sI_pos (f := fun b => LN F G q g b * WD (G (out q + 1)) b) (n := b) (fun i i0 i1 => pos i i0 (by omega))
  have ss := sI_1 (fun b => LN F G q g b * WD (G (out q + 1)) b) b0
  have f1 := co_in hou (i := b) b0 (by omega)
  have f2 := co_in hou (i := b + 1) (by omega) (by omega)
  have f3 := c7 b b0 b1
  have L0 := ln_pos hb (q := q) (g := g) hg hg2 b0 b1
  refine R_X7_middle_19 hsh hk ?_
  unfold V_X7_middle_19
  dsimp only
  rw [eo]
  refine ⟨fun y => absurd y (by omega), fun _ => ⟨by omega, ok_measureWhole (by omega) hsh (s34_cc s1 hc) (s34_pba s1 hb) hg hg2 b0 (by rw [eo]; exact b1) (fun F4 s4 v2 _ => ⟨rfl, rfl, _, pu_widthOf hk (co_cg ((s4 _ hne).trans eo) rfl hou4) b0 (by rw [s4 _ hne, eo]; exact b1), ?_⟩)⟩⟩
  have s4' : Same34 F F4 := fun c hc => (s4 c hc).trans (s1 c hc)
  rw [ln_34 s1] at v2
  rw [v2]
  have ew : LN F G q g b * (G (out q + 1) (b + 1) - G (out q + 1) b) = LN F G q g b * WD (G (out q + 1)) b := rfl
  rw [ew]
  have skip' : LN F G q g b * WD (G (out q + 1)) b < l → ∀ x : Int, x = LN F G q g b * WD (G (out q + 1)) b → V_X7_middle_90 d S F4 G Q g q u (out q) l b x := by
    intro lt x ex
    unfold V_X7_middle_90
    refine ⟨by omega, fun x2 e2 => ⟨by omega, ih (F4, x2) ⟨by omega, ?_, s4', by show x2 = _; rw [ss]; omega, by show 1 ≤ x2; omega⟩⟩⟩
    by_cases w : b + 1 < F (out q) 1
    · exact w
    · have : b + 1 = F (out q) 1 := by omega
      rw [this] at ss
      omega
  refine ⟨by omega, fun x13 e13 => ⟨fun y => skip' ?_ x13 e13, fun y => ⟨fun y2 => skip' (by omega) x13 e13, fun y2 => ?_⟩⟩⟩
  · have : LN F G q g b = 0 := by omega
    rw [this, Int.zero_mul]; omega
  · have hit : l ≤ LN F G q g b * WD (G (out q + 1)) b := by omega
    obtain ⟨D1, D2, D3, D4, D5, D6, D7, D8, D9⟩ := dv L0 l1 hit
    have dw : WD (G (out q + 1)) b = G (out q + 1) (b + 1) - G (out q + 1) b := rfl
    rw [tdiv_pos (by omega)]
    exact ⟨b0, by omega, by omega, by omega, by omega, by omega, by omega, hq F4 b l s4' ⟨b0, b1, el, l1, hit⟩ (by omega) (by omega)⟩
/-- the first of the greatest -/
def Amx (f : Int → Int) (n b : Int) : Prop := 0 ≤ b ∧ b < n ∧ (∀ i : Int, 0 ≤ i → i < b → f i < f b) ∧ ∀ i : Int, b ≤ i → i < n → f i ≤ f b
theorem amx_uniq {f : Int → Int} {n b c : Int} (h1 : Amx f n b) (h2 : Amx f n c) : b = c := by
  obtain ⟨a1, a2, a3, a4⟩ := h1
  obtain ⟨b1, b2, b3, b4⟩ := h2
  by_cases w : b < c
  · have := b3 b a1 w
    have := a4 c (by omega) b2
    omega
  · by_cases w2 : c < b
    · have := a3 c b1 w2
      have := b4 b (by omega) a2
      omega
    · omega
theorem ok_findLine {d : Nat} {S : AS} {F : AF} {G : AG} (hd : 3 ≤ d) (hsh : ShC S) (hc : CC F G) (hb : PBA F G 18) {q g : Int} (hg : -1 ≤ g) (hg2 : g ≤ 2) {Q : AQ} (hq : ∀ (F' : AF) (b : Int), Same34 F F' → Amx (LN F G q g) (F (out q) 1) b → F' 34 8 = LN F G q g b → Q (some (vI (G (out q + 1) b))) S F' G) : Ok d MX7_findLine [vR 34, vI g, vI q] S F G Q := by
  have hou := co_out hc q
  have hk := at_out hsh q
  have hne := out_ne q
  obtain ⟨c1, c2, c3, c4, c5, c6, c7⟩ := id hou
  refine ok_go rfl (by decide) (Nat.le_of_ble_eq_true rfl) (R_X7_findLine_0 hsh ?_)
  unfold V_X7_findLine_0
  refine ⟨by omega, _, pu_outer hsh q, fun F8 e8 => ?_⟩
  have s8 : Same34 F F8 := fun c hc => by rw [e8]; exact fu_row hc
  have v8 : F8 34 8 = -1 := by rw [e8, fu_s]
  refine up_ind (α := AF × Int) (F (out q) 1 - 1) (fun b A => 0 ≤ b ∧ b ≤ F (out q) 1 ∧ Same34 F A.1 ∧ ((b = 0 ∧ A.1 34 8 = -1) ∨ ∃ c : Int, Amx (LN F G q g) b c ∧ A.1 34 8 = LN F G q g c ∧ A.2 = G (out q + 1) c)) (fun b A => Go d MX7_findLine 19 [some (vR 34), some (vI g), some (vI q), some (vR (out q)), some (vI A.2), some (vI b)] [] S A.1 G Q) ?_ ?_ 0 (F8, 0) ⟨by omega, by omega, s8, Or.inl ⟨rfl, v8⟩⟩
  · rintro b ⟨F1, best⟩ ⟨b0, b1, s1, alt⟩ hb' ih
    simp only at s1 alt
    have eo := s1 _ hne
    have L0 := ln_pos hb (q := q) (g := g) hg hg2 b0 (by omega : b < F (out q) 1)
    refine R_X7_findLine_19 hsh hk ?_
    unfold V_X7_findLine_19
    dsimp only
    rw [eo]
    refine ⟨fun y => absurd y (by omega), fun _ => ⟨by omega, ok_measureWhole (by omega) hsh (s34_cc s1 hc) (s34_pba s1 hb) hg hg2 b0 (by rw [eo]; omega) (fun F4 s4 v2 v8' => ⟨rfl, rfl, ?_⟩)⟩⟩
    have s4' : Same34 F F4 := fun c hc => (s4 c hc).trans (s1 c hc)
    rw [ln_34 s1] at v2
    rw [v2, v8']
    refine ⟨fun y => ?_, fun y F6 e6 => ⟨b0, by omega, fun x9 e9 => ?_⟩⟩
    · unfold V_X7_findLine_65
      refine ⟨by omega, ih (F4, best) ⟨by omega, by omega, s4', Or.inr ?_⟩⟩
      rcases alt with ⟨z1, z2⟩ | ⟨c, z1, z2, z3⟩
      · omega
      · refine ⟨c, ⟨z1.1, by have := z1.2.1; omega, z1.2.2.1, fun i i0 i1 => ?_⟩, by show F4 34 8 = _; rw [v8']; exact z2, z3⟩
        by_cases w : i = b
        · rw [w]; omega
        · exact z1.2.2.2 i i0 (by omega)
    · unfold V_X7_findLine_65
      refine ⟨by omega, ih (F6, x9) ⟨by omega, by omega, fun c hc => by show F6 c = F c; rw [e6, fu_row hc]; exact s4' c hc, Or.inr ⟨b, ⟨b0, by omega, fun i i0 i1 => ?_, fun i i0 i1 => ?_⟩, by show F6 34 8 = _; rw [e6, fu_s], e9⟩⟩⟩
      · rcases alt with ⟨z1, z2⟩ | ⟨c, z1, z2, z3⟩
        · omega
        · by_cases w : i < c
          · have := z1.2.2.1 i i0 w
            omega
          · have := z1.2.2.2 i (by omega) (by omega)
            omega
      · have : i = b := by omega
        rw [this]; exact Int.le_refl _
  · rintro b ⟨F1, best⟩ ⟨b0, b1, s1, alt⟩ hb'
    simp only at s1 alt
    have eb : b = F (out q) 1 := by omega
    refine R_X7_findLine_19 hsh hk ?_
    unfold V_X7_findLine_19
    dsimp only
    rw [s1 _ hne]
    refine ⟨fun _ => ?_, fun y => absurd y (by omega)⟩
    rcases alt with ⟨z1, z2⟩ | ⟨c, z1, z2, z3⟩
    · omega
    · rw [eb] at z1
      show Q (some (vI best)) S F1 G
      rw [z3]; exact hq F1 c s1 z1 z2
/-- what hauling costs, up to all that can be told -/
def Hl (r t : Int) : Prop := (t ≤ 3000000000000000000 ∧ r = t) ∨ (3000000000000000000 < t ∧ r = 3000000000000000001)
theorem ok_haulAcross {d : Nat} {S : AS} {F : AF} {G : AG} (hd : 3 ≤ d) (hsh : ShC S) (hc : CC F G) (hb : PBA F G 18) {q g p a0 t0 : Int} (hg : -1 ≤ g) (hg2 : g ≤ 2) (p0 : 0 ≤ p) (p1 : p ≤ 10000) (ha : Hl a0 t0) (ht0 : 0 ≤ t0) {Q : AQ} (hq : ∀ (F' : AF) (r : Int), Same34 F F' → Hl r (t0 + sI (fun b => LN F G q g b * farS (G (out q + 1) b) (G (out q + 1) (b + 1) - 1) p) (F (out q) 1)) → Q (some (vJ r)) S F' G) : Ok d MX7_haulAcross [vR 34, vI g, vI q, vI p, vJ a0] S F G Q := by
  have hou := co_out hc q
  have hk := at_out hsh q
  have hne := out_ne q
  obtain ⟨c1, c2, c3, c4, c5, c6, c7⟩ := id hou
  have fb : ∀ b : Int, 0 ≤ b → b < F (out q) 1 → 0 ≤ farS (G (out q + 1) b) (G (out q + 1) (b + 1) - 1) p ∧ farS (G (out q + 1) b) (G (out q + 1) (b + 1) - 1) p ≤ 500000000 := fun b b0 b1 => by
    have f1 := co_in hou (i := b) b0 (by omega)
    have f2 := co_in hou (i := b + 1) (by omega) (by omega)
    have f3 := c7 b b0 b1
    exact far_bd f1.1 (by omega) (by omega) p0 p1
  have pos : ∀ b : Int, 0 ≤ b → b < F (out q) 1 → 0 ≤ LN F G q g b * farS (G (out q + 1) b) (G (out q + 1) (b + 1) - 1) p := fun b b0 b1 => Int.mul_nonneg (ln_pos hb hg hg2 b0 b1) (fb b b0 b1).1
  refine ok_go rfl (by decide) (Nat.le_of_ble_eq_true rfl) (R_X7_haulAcross_0 hsh ?_)
  unfold V_X7_haulAcross_0
  refine ⟨by omega, _, pu_outer hsh q, ?_⟩
  refine up_ind (α := AF × Int) (F (out q) 1 - 1) (fun b A => 0 ≤ b ∧ b ≤ F (out q) 1 ∧ Same34 F A.1 ∧ Hl A.2 (t0 + sI (fun b => LN F G q g b * farS (G (out q + 1) b) (G (out q + 1) (b + 1) - 1) p) b)) (fun b A => Go d MX7_haulAcross 14 [some (vR 34), some (vI g), some (vI q), some (vI p), some (vJ a0), none, some (vR (out q)), some (vJ A.2), none, some (vI b), none, none] [] S A.1 G Q) ?_ ?_ 0 (F, a0) ⟨by omega, by omega, fun _ _ => rfl, by rw [sI_0 _ (by omega), Int.add_zero]; exact ha⟩
  · rintro b ⟨F1, h⟩ ⟨b0, b1, s1, hl⟩ hb' ih
    simp only at s1 hl
    have eo := s1 _ hne
    have bN : b < F (out q) 1 := by omega
    have L0 := ln_pos hb (q := q) (g := g) hg hg2 b0 bN
    have sp := sI_part (f := fun b => LN F G q g b * farS (G (out q + 1) b) (G (out q + 1) (b + 1) - 1) p) (n := F (out q) 1) (m := b) b0 (by omega) pos
    have s0 := sI_pos (f := fun b => LN F G q g b * farS (G (out q + 1) b) (G (out q + 1) (b + 1) - 1) p) (n := b) (fun i i0 i1 => pos i i0 (by omega))
    have ss := sI_1 (fun b => LN F G q g b * farS (G (out q + 1) b) (G (out q + 1) (b + 1) - 1) p) b0
    have f1 := co_in hou (i := b) b0 (by omega)
    have f2 := co_in hou (i := b + 1) (by omega) (by omega)
    have f3 := c7 b b0 bN
    have pb := pos b b0 bN
    have fbb := fb b b0 bN
    refine R_X7_haulAcross_14 hsh hk ?_
    unfold V_X7_haulAcross_14
    dsimp only
    rw [eo]
    refine ⟨fun y => absurd y (by omega), fun _ => ⟨fun y => hq F1 h s1 ?_, fun y => ⟨by omega, ok_measureWhole (by omega) hsh (s34_cc s1 hc) (s34_pba s1 hb) hg hg2 b0 (by rw [eo]; exact bN) (fun F4 s4 v2 _ => ⟨rfl, rfl, b0, by omega, by omega, by omega, by omega, by omega, _, pu_distances (by omega) hsh f1.1 (by omega) (by omega) p0 p1, ?_⟩)⟩⟩⟩
    · rcases hl with ⟨z1, z2⟩ | ⟨z1, z2⟩
      · omega
      · exact Or.inr ⟨by omega, z2⟩
    · have s4' : Same34 F F4 := fun c hc => (s4 c hc).trans (s1 c hc)
      rw [ln_34 s1] at v2
      rw [v2]
      have hle : t0 + sI (fun b => LN F G q g b * farS (G (out q + 1) b) (G (out q + 1) (b + 1) - 1) p) b = h := by
        rcases hl with ⟨z1, z2⟩ | ⟨z1, z2⟩ <;> omega
      have add' : LN F G q g b * farS (G (out q + 1) b) (G (out q + 1) (b + 1) - 1) p + h ≤ 3000000000000000000 → V_X7_haulAcross_99 d S F4 G Q g q p a0 (out q) h b (farS (G (out q + 1) b) (G (out q + 1) (b + 1) - 1) p) := by
        intro z
        unfold V_X7_haulAcross_99
        rw [v2]
        refine ⟨by omega, by omega, fun x3 e3 => ?_⟩
        unfold V_X7_haulAcross_111
        refine ⟨by omega, ih (F4, x3) ⟨by omega, by omega, s4', Or.inl ⟨by rw [ss]; omega, by rw [ss]; show x3 = _; omega⟩⟩⟩
      refine ⟨fun y2 => add' ?_, fun y2 => ?_⟩
      · have : farS (G (out q + 1) b) (G (out q + 1) (b + 1) - 1) p = 0 := by omega
        rw [this, Int.mul_zero]; omega
      · rw [tdiv_pos (by omega)]
        have w0 : 0 < farS (G (out q + 1) b) (G (out q + 1) (b + 1) - 1) p := by omega
        have dq := Int.ediv_nonneg (a := 3000000000000000000 - h) (b := farS (G (out q + 1) b) (G (out q + 1) (b + 1) - 1) p) (by omega) (by omega)
        have dq2 := Int.ediv_le_self (a := 3000000000000000000 - h) (farS (G (out q + 1) b) (G (out q + 1) (b + 1) - 1) p) (by omega)
        have dle := @Int.le_ediv_iff_mul_le (LN F G q g b) (3000000000000000000 - h) (farS (G (out q + 1) b) (G (out q + 1) (b + 1) - 1) p) w0
        refine ⟨by omega, by omega, by omega, fun y3 => add' (by have := dle.mp y3; omega), fun y3 => ?_⟩
        have gt : 3000000000000000000 - h < LN F G q g b * farS (G (out q + 1) b) (G (out q + 1) (b + 1) - 1) p := by
          by_cases z : LN F G q g b * farS (G (out q + 1) b) (G (out q + 1) (b + 1) - 1) p ≤ 3000000000000000000 - h
          · exact absurd (dle.mpr z) y3
          · omega
        unfold V_X7_haulAcross_111
        exact ⟨by omega, ih (F4, 3000000000000000001) ⟨by omega, by omega, s4', Or.inr ⟨by rw [ss]; omega, rfl⟩⟩⟩
  · rintro b ⟨F1, h⟩ ⟨b0, b1, s1, hl⟩ hb'
    simp only at s1 hl
    have eb : b = F (out q) 1 := by omega
    refine R_X7_haulAcross_14 hsh hk ?_
    unfold V_X7_haulAcross_14
    dsimp only
    rw [s1 _ hne]
    refine ⟨fun _ => hq F1 h s1 (eb ▸ hl), fun y => absurd y (by omega)⟩
