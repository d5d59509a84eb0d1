/-! THE LARGEST HOLE -/
def HR (nx ny : Int) (em : Int → Int → Prop) (l j r j2 : Int) : Prop := 0 ≤ l ∧ l ≤ r ∧ r < nx ∧ 0 ≤ j ∧ j ≤ j2 ∧ j2 < ny ∧ ∀ i k : Int, l ≤ i → i ≤ r → j ≤ k → k ≤ j2 → em i k
def HIs (ex ey : Int → Int) (nx ny : Int) (em : Int → Int → Prop) (x1 y1 x2 y2 : Int) : Prop := ∃ l j r j2 : Int, HR nx ny em l j r j2 ∧ x1 = ex l ∧ y1 = ey j ∧ x2 = ex (r + 1) - 1 ∧ y2 = ey (j2 + 1) - 1
def HB (ex ey : Int → Int) (nx ny : Int) (em : Int → Int → Prop) (x1 y1 x2 y2 m : Int) : Prop := HIs ex ey nx ny em x1 y1 x2 y2 ∧ m = (x2 - x1 + 1) * (y2 - y1 + 1) ∧ ∀ l j r j2 : Int, HR nx ny em l j r j2 → ((ex (r + 1) - 1 - ex l + 1) * (ey (j2 + 1) - 1 - ey j + 1) < m ∨ ((ex (r + 1) - 1 - ex l + 1) * (ey (j2 + 1) - 1 - ey j + 1) = m ∧ (y1 < ey j ∨ (y1 = ey j ∧ (x1 < ex l ∨ (x1 = ex l ∧ y2 ≤ ey (j2 + 1) - 1))))))
theorem hb_uniq {ex ey : Int → Int} {nx ny : Int} {em : Int → Int → Prop} {x1 y1 x2 y2 m x1' y1' x2' y2' m' : Int} (rx : Rise ex nx) (ry : Rise ey ny) (h : HB ex ey nx ny em x1 y1 x2 y2 m) (k : HB ex ey nx ny em x1' y1' x2' y2' m') : x1 = x1' ∧ y1 = y1' ∧ x2 = x2' ∧ y2 = y2' ∧ m = m' := by
  obtain ⟨⟨l, j, r, j2, hr, a1, a2, a3, a4⟩, hm, hall⟩ := h
  obtain ⟨⟨l', j', r', j2', kr, b1, b2, b3, b4⟩, km, kall⟩ := k
  have p := hall l' j' r' j2' kr
  have q := kall l j r j2 hr
  rw [← b1, ← b2, ← b3, ← b4, ← km] at p
  rw [← a1, ← a2, ← a3, ← a4, ← hm] at q
  have e1 : m = m' := by omega
  have e2 : y1 = y1' := by omega
  have e3 : x1 = x1' := by omega
  have e4 : y2 = y2' := by omega
  have y12 : y1 ≤ y2 := by
    have := rise_lt ry (i := j) (j := j2 + 1) hr.2.2.2.1 (by have := hr.2.2.2.2.1; omega) (by have := hr.2.2.2.2.2.1; omega)
    omega
  refine ⟨e3, e2, ?_, e4, e1⟩
  subst e2 e3 e4
  have e5 : (x2 - x1 + 1) * (y2 - y1 + 1) = (x2' - x1 + 1) * (y2 - y1 + 1) := by omega
  have := Int.eq_of_mul_eq_mul_right (by omega) e5
  omega
def CFp (G : AG) (nx J : Int) (ey : Int → Int) (em : Int → Int → Prop) : Prop := ∀ c : Int, 0 ≤ c → c < nx → (∃ jc : Int, 0 ≤ jc ∧ jc ≤ J ∧ G 36 c = ey jc) ∧ ∀ j : Int, 0 ≤ j → j ≤ J → (G 36 c ≤ ey j ↔ ∀ k : Int, j ≤ k → k < J → em c k)
def Val (F : AF) (ex ey : Int → Int) (nx ny : Int) (em : Int → Int → Prop) : Prop := F 34 8 = 0 ∨ (HIs ex ey nx ny em (F 35 0) (F 35 1) (F 35 2) (F 35 3) ∧ F 34 8 = (F 35 2 - F 35 0 + 1) * (F 35 3 - F 35 1 + 1))
theorem ok_findHole {d : Nat} {S : AS} {F : AF} {G : AG} (hd : 3 ≤ d) (hsh : ShC S) (hc : CC F G) (hb : PBA F G 18) {Q : AQ} (hq1 : ∀ (F' : AF) (G' : AG), Same2 F F' → (∀ c : Nat, c ≠ 36 → c ≠ 37 → c ≠ 38 → G' c = G c) → HB (G 5) (G 12) (F 4 1) (F 11 1) (fun i j => cu G 18 (-1) i j = 0) (F' 35 0) (F' 35 1) (F' 35 2) (F' 35 3) (F' 34 8) → Q (some (vI 1)) S F' G') (hq0 : ∀ (F' : AF) (G' : AG), Same2 F F' → (∀ c : Nat, c ≠ 36 → c ≠ 37 → c ≠ 38 → G' c = G c) → (∀ l j r j2 : Int, ¬ HR (F 4 1) (F 11 1) (fun i j => cu G 18 (-1) i j = 0) l j r j2) → Q (some (vI 0)) S F' G') : Ok d MX7_findHole [vR 34] S F G Q := by
  obtain ⟨x1, x2, x3, x4, x5, x6, x7⟩ := id hc.1
  obtain ⟨y1, y2, y3, y4, y5, y6, y7⟩ := id hc.2.1
  have x7' : Rise (G 5) (F 4 1) := x7
  have y7' : Rise (G 12) (F 11 1) := y7
  have y50 : G 12 0 = 0 := y5
  generalize hem : (fun i j => cu G 18 (-1) i j = 0) = em at *
  have eme : ∀ i j : Int, em i j ↔ cu G 18 (-1) i j = 0 := fun i j => by rw [← hem]
  refine ok_go rfl (by decide) (Nat.le_of_ble_eq_true rfl) (R_X7_findHole_0 hsh ?_)
  unfold V_X7_findHole_0
  intro F0 e0
  have s0 : Same2 F F0 := fun c h1 h2 => by rw [e0]; exact fu_row h1
  have m0 : F0 34 8 = 0 := by rw [e0, fu_s]
  have f04 : F0 4 = F 4 := s0 4 (by decide) (by decide)
  refine up_ind (α := AG) (F 4 1 - 1) (fun i G1 => 0 ≤ i ∧ i ≤ F 4 1 ∧ (∀ c : Nat, c ≠ 36 → G1 c = G c) ∧ ∀ k : Int, 0 ≤ k → k < i → G1 36 k = 0) (fun i G1 => Go d MX7_findHole 29 [some (vR 34), some (vR 4), some (vR 11), some (vI i), none] [] S F0 G1 Q) ?_ ?_ 0 G ⟨by omega, by omega, fun _ _ => rfl, fun k k0 k1 => absurd k1 (by omega)⟩
  · rintro i G1 ⟨i0, i1, u1, u2⟩ hi ih
    refine R_X7_findHole_29 hsh (at_4 hsh) (at_11 hsh) ?_
    unfold V_X7_findHole_29
    rw [f04]
    refine ⟨fun y => absurd y (by omega), fun _ => ⟨i0, by omega, fun G3 e3 => ⟨by omega, ih G3 ⟨by omega, by omega, fun c hc => by rw [e3, gu_row hc]; exact u1 c hc, fun k k0 k1 => ?_⟩⟩⟩⟩
    by_cases z : k = i
    · rw [e3, z, gu_s]
    · rw [e3, gu_i z]; exact u2 k k0 (by omega)
  · rintro i G1 ⟨i0, i1, u1, u2⟩ hi
    refine R_X7_findHole_29 hsh (at_4 hsh) (at_11 hsh) ?_
    unfold V_X7_findHole_29
    rw [f04]
    refine ⟨fun _ => ?_, fun y => absurd y (by omega)⟩
    refine up_ind (α := AF × AG) (F 11 1 - 1) (fun J A => 0 ≤ J ∧ J ≤ F 11 1 ∧ Same2 F A.1 ∧ (∀ c : Nat, c ≠ 36 → c ≠ 37 → c ≠ 38 → A.2 c = G c) ∧ CFp A.2 (F 4 1) J (G 12) em ∧ Val A.1 (G 5) (G 12) (F 4 1) (F 11 1) em ∧ ∀ l j r j2 : Int, HR (F 4 1) (F 11 1) em l j r j2 → j2 < J → Geq A.1 ((G 5 (r + 1) - 1 - G 5 l + 1) * (G 12 (j2 + 1) - 1 - G 12 j + 1)) (G 12 j) (G 5 l) (G 12 (j2 + 1) - 1)) (fun J A => Go d MX7_findHole 52 [some (vR 34), some (vR 4), some (vR 11), some (vI J), none] [] S A.1 A.2 Q) ?_ ?_ 0 (F0, G1) ⟨by omega, by omega, s0, fun c h1 h2 h3 => u1 c h1, fun c c0 c1 => ?_, Or.inl m0, fun l j r j2 h1 h2 => by have := h1.2.2.2.1; have := h1.2.2.2.2.1; omega⟩
    · rintro J ⟨F1, G2⟩ ⟨J0, J1, s1, v1, cf, vl, gq⟩ hJ ih
      dsimp only at s1 v1 cf vl gq ⊢
      have f14 : F1 4 = F 4 := s1 4 (by decide) (by decide)
      have f111 : F1 11 = F 11 := s1 11 (by decide) (by decide)
      refine R_X7_findHole_52 hsh (at_4 hsh) (at_11 hsh) ?_
      unfold V_X7_findHole_52
      rw [f111]
      refine ⟨fun y => absurd y (by omega), fun _ => ?_⟩
      have hJ1 := y7' J J0 (by omega)
      have inJ1 := co_in hc.2.1 (i := J + 1) (by omega) (by omega)
      have inJ1' : 0 ≤ G 12 (J + 1) ∧ G 12 (J + 1) ≤ F 11 2 := inJ1
      have inJ := co_in hc.2.1 (i := J) (by omega) (by omega)
      have inJ' : 0 ≤ G 12 J ∧ G 12 J ≤ F 11 2 := inJ
      -- what one column knows after this band
      have cfE : ∀ (Ga Gb : AG) (c : Int), 0 ≤ c → c < F 4 1 → ((∃ jc : Int, 0 ≤ jc ∧ jc ≤ J ∧ Ga 36 c = G 12 jc) ∧ ∀ j : Int, 0 ≤ j → j ≤ J → (Ga 36 c ≤ G 12 j ↔ ∀ k : Int, j ≤ k → k < J → em c k)) → ((em c J ∧ Gb 36 c = Ga 36 c) ∨ (¬ em c J ∧ Gb 36 c = G 12 (J + 1))) → ((∃ jc : Int, 0 ≤ jc ∧ jc ≤ J + 1 ∧ Gb 36 c = G 12 jc) ∧ ∀ j : Int, 0 ≤ j → j ≤ J + 1 → (Gb 36 c ≤ G 12 j ↔ ∀ k : Int, j ≤ k → k < J + 1 → em c k)) := by
        rintro Ga Gb c c0 c1 ⟨⟨jc, h1, h2, h3⟩, h4⟩ (⟨h5, h6⟩ | ⟨h5, h6⟩)
        · refine ⟨⟨jc, h1, by omega, by rw [h6]; exact h3⟩, fun j j0 j1 => ?_⟩
          rw [h6]
          by_cases w : j = J + 1
          · have := rise_le y7' (i := jc) (j := J + 1) h1 (by omega) (by omega)
            rw [w, h3]
            exact ⟨fun _ k k0 k1 => absurd k1 (by omega), fun _ => this⟩
          · rw [h4 j j0 (by omega)]
            constructor
            · intro q k k0 k1
              by_cases w2 : k = J
              · rw [w2]; exact h5
              · exact q k k0 (by omega)
            · intro q k k0 k1
              exact q k k0 (by omega)
        · refine ⟨⟨J + 1, by omega, by omega, h6⟩, fun j j0 j1 => ?_⟩
          rw [h6]
          by_cases w : j = J + 1
          · rw [w]
            exact ⟨fun _ k k0 k1 => absurd k1 (by omega), fun _ => Int.le_refl _⟩
          · have := rise_lt y7' (i := j) (j := J + 1) j0 (by omega) (by omega)
            exact ⟨fun q => absurd q (by omega), fun q => absurd (q J (by omega) (by omega)) h5⟩
      refine up_ind (α := AG) (F 4 1 - 1) (fun i G3 => 0 ≤ i ∧ i ≤ F 4 1 ∧ (∀ c : Nat, c ≠ 36 → G3 c = G2 c) ∧ (∀ c : Int, 0 ≤ c → c < i → ((em c J ∧ G3 36 c = G2 36 c) ∨ (¬ em c J ∧ G3 36 c = G 12 (J + 1)))) ∧ ∀ c : Int, i ≤ c → G3 36 c = G2 36 c) (fun i G3 => Go d MX7_findHole 63 [some (vR 34), some (vR 4), some (vR 11), some (vI J), some (vI i)] [] S F1 G3 Q) ?_ ?_ 0 G2 ⟨by omega, by omega, fun _ _ => rfl, fun c c0 c1 => absurd c1 (by omega), fun _ _ => rfl⟩
      · rintro i G3 ⟨i0, i1, w1, w2, w3⟩ hi ih2
        have g18 : G3 18 = G 18 := (w1 18 (by decide)).trans (v1 18 (by decide) (by decide) (by decide))
        have g12 : G3 12 = G 12 := (w1 12 (by decide)).trans (v1 12 (by decide) (by decide) (by decide))
        have pb := hb i J i0 (by omega) J0 (by omega)
        have ci := cu_in pb (g := -1) (by omega) (by omega)
        have ec : cu G3 18 (-1) i J = cu G 18 (-1) i J := by unfold cu; rw [g18]
        have pu := pu_unitsAt (d := d - 1) (S := S) (F := F1) (G := G3) hsh (g := -1) (i := i) (j := J) (k := 48 * J + i) (by unfold PB; rw [g18]; exact pb) (by omega) (by omega) i0 (by omega) J0 (by omega) rfl
        rw [ec] at pu
        have next : ∀ G4 : AG, (∀ c : Nat, c ≠ 36 → G4 c = G2 c) → (∀ c : Int, c ≠ i → G4 36 c = G3 36 c) → ((em i J ∧ G4 36 i = G2 36 i) ∨ (¬ em i J ∧ G4 36 i = G 12 (J + 1))) → V_X7_findHole_107 d S F1 G4 Q 4 11 J i := by
          intro G4 q1 q2 q3
          unfold V_X7_findHole_107
          refine ⟨by omega, ih2 G4 ⟨by omega, by omega, q1, fun c c0 c1 => ?_, fun c c0 => by rw [q2 c (by omega)]; exact w3 c (by omega)⟩⟩
          by_cases z : c = i
          · rw [z]; exact q3
          · rw [q2 c z]; exact w2 c c0 (by omega)
        refine R_X7_findHole_63 hsh (at_4 hsh) (at_11 hsh) ?_
        unfold V_X7_findHole_63
        rw [f14]
        refine ⟨fun y => absurd y (by omega), fun _ => ⟨by omega, by omega, by omega, _, pu, fun z => next G3 w1 (fun _ _ => rfl) (Or.inl ⟨(eme i J).mpr (by omega), w3 i (by omega)⟩), fun z => ⟨by omega, by omega, by omega, i0, by omega, fun G24 e24 => next G24 (fun c hc => by rw [e24, gu_row hc]; exact w1 c hc) (fun c hc => by rw [e24, gu_i hc]) (Or.inr ⟨fun q => by have := (eme i J).mp q; omega, ?_⟩)⟩⟩⟩
        rw [e24, gu_s]
        show G3 12 (J + 1) = _
        rw [g12]
      · rintro i G3 ⟨i0, i1, w1, w2, w3⟩ hi
        have g5 : G3 5 = G 5 := (w1 5 (by decide)).trans (v1 5 (by decide) (by decide) (by decide))
        have g12 : G3 12 = G 12 := (w1 12 (by decide)).trans (v1 12 (by decide) (by decide) (by decide))
        have cf3 : CFp G3 (F 4 1) (J + 1) (G 12) em := fun c c0 c1 => cfE G2 G3 c c0 c1 (cf c c0 c1) (w2 c c0 (by omega))
        have bot : G3 (11 + 1) (J + 1) - 1 = G 12 (J + 1) - 1 := by show G3 12 (J + 1) - 1 = _; rw [g12]
        refine R_X7_findHole_63 hsh (at_4 hsh) (at_11 hsh) ?_
        unfold V_X7_findHole_63
        rw [f14, bot]
        refine ⟨fun _ => ⟨by omega, by omega, by omega, by omega, by omega, ok_takeHolesAbove (by omega) hsh (co_cg f14 g5 hc.1) (by omega) (by omega) (fun c c0 c1 => ?_) (fun F2 G4 s2 t2 im2 ha2 al2 => ⟨rfl, rfl, ih (F2, G4) ⟨by omega, by omega, fun c h1 h2 => (s2 c h1 h2).trans (s1 c h1 h2), fun c h1 h2 h3 => ((t2 c h2 h3).trans (w1 c h1)).trans (v1 c h1 h2 h3), ?_, ?_, fun l j r j2 hr hj2 => ?_⟩⟩)⟩, fun y => absurd y (by omega)⟩
        · rw [f14] at c1
          obtain ⟨⟨jc, q1, q2, q3⟩, -⟩ := cf3 c c0 c1
          have := co_in hc.2.1 (i := jc) q1 (by omega)
          have this' : 0 ≤ G 12 jc ∧ G 12 jc ≤ F 11 2 := this
          rw [q3]; exact this'.1
        · show CFp G4 (F 4 1) (J + 1) (G 12) em
          unfold CFp
          rw [t2 36 (by decide) (by decide)]
          exact cf3
        · show Val F2 (G 5) (G 12) (F 4 1) (F 11 1) em
          rw [f14, g5] at ha2
          rcases ha2 with ⟨q1, q2⟩ | ⟨⟨l, r, q1, q2, q3, q4, q5, q6, q7, q8, ⟨c, c0, c1, ce⟩, q10⟩, qa⟩
          · unfold Val
            rw [q1, q2]
            exact vl
          · obtain ⟨⟨jc, p1, p2, p3⟩, -⟩ := cf3 c c0 c1
            have hjc : jc ≤ J := by
              by_cases w : jc = J + 1
              · rw [w] at p3
                omega
              · omega
            refine Or.inr ⟨⟨l, jc, r, J, ⟨q1, q2, q3, p1, hjc, by omega, fun i k i0 i1 k0 k1 => ?_⟩, q4, ce.trans p3, q5, q6⟩, qa⟩
            have := ((cf3 i (by omega) (by omega)).2 jc p1 (by omega)).mp (by rw [← p3, ← ce]; exact q10 i i0 i1)
            exact this k k0 (by omega)
        · show Geq F2 _ _ _ _
          by_cases w : j2 = J
          · subst w
            obtain ⟨h1, h2, h3, h4, h5, h6, h7⟩ := id hr
            have inj := co_in hc.2.1 (i := j) h4 (by omega)
            have inj' : 0 ≤ G 12 j ∧ G 12 j ≤ F 11 2 := inj
            have ltj := rise_lt y7' (i := j) (j := j2 + 1) h4 (by omega) (by omega)
            have := al2 l r (G 12 j) h1 h2 (by rw [f14]; exact h3) inj'.1 (by omega) (fun c d0 d1 => ((cf3 c (by omega) (by omega)).2 j h4 (by omega)).mpr (fun k k0 k1 => h7 c k d0 d1 k0 (by omega)))
            rw [g5] at this
            exact this
          · exact im2 _ _ _ _ (gq l j r j2 hr (by omega))
    · rintro J ⟨F1, G2⟩ ⟨J0, J1, s1, v1, cf, vl, gq⟩ hJ
      dsimp only at s1 v1 cf vl gq ⊢
      have f111 : F1 11 = F 11 := s1 11 (by decide) (by decide)
      refine R_X7_findHole_52 hsh (at_4 hsh) (at_11 hsh) ?_
      unfold V_X7_findHole_52
      rw [f111]
      refine ⟨fun _ => ⟨fun z => hq0 F1 G2 s1 v1 (fun l j r j2 hr => ?_), fun z => hq1 F1 G2 s1 v1 ?_⟩, fun y => absurd y (by omega)⟩
      · have g := gq l j r j2 hr (by have := hr.2.2.2.2.2.1; omega)
        have a1 := rise_lt x7' (i := l) (j := r + 1) hr.1 (by have := hr.2.1; omega) (by have := hr.2.2.1; omega)
        have a2 := rise_lt y7' (i := j) (j := j2 + 1) hr.2.2.2.1 (by have := hr.2.2.2.2.1; omega) (by have := hr.2.2.2.2.2.1; omega)
        have ar := area_in (w := 1) (h := 1) (w' := G 5 (r + 1) - 1 - G 5 l + 1) (h' := G 12 (j2 + 1) - 1 - G 12 j + 1) (by omega) (by omega) (by omega) (by omega)
        unfold Geq at g
        omega
      · rcases vl with q | ⟨q1, q2⟩
        · omega
        · refine ⟨q1, q2, fun l j r j2 hr => ?_⟩
          have g := gq l j r j2 hr (by have := hr.2.2.2.2.2.1; omega)
          unfold Geq at g
          omega
    · show (∃ jc : Int, 0 ≤ jc ∧ jc ≤ 0 ∧ G1 36 c = G 12 jc) ∧ _
      have z : G1 36 c = 0 := u2 c c0 (by omega)
      refine ⟨⟨0, by omega, by omega, by rw [z, y50]⟩, fun j j0 j1 => ?_⟩
      have : j = 0 := by omega
      subst this
      show G1 36 c ≤ _ ↔ _
      rw [z, y50]
      exact ⟨fun _ k k0 k1 => absurd k1 (by omega), fun _ => Int.le_refl _⟩
