/-! THE REFERENCE READS -/
theorem bAnd_255 {b : Int} (h0 : -128 ≤ b) (h1 : b < 128) : bAnd b 255 = if b < 0 then b + 256 else b := by
  have main : ∀ k : Fin 256, bAnd ((k.val : Int) - 128) 255 = if (k.val : Int) - 128 < 0 then (k.val : Int) - 128 + 256 else (k.val : Int) - 128 := by decide +kernel
  have := main ⟨(b + 128).toNat, by omega⟩
  have e : (((b + 128).toNat : Nat) : Int) - 128 = b := by omega
  simp only [e] at this
  exact this
def TB (tp : Int → Int) : Prop := ∀ j : Int, -128 ≤ tp j ∧ tp j < 128
def pk (tp : Int → Int) (n p : Int) : Int := if p < n then bAnd (tp p) 255 else -1
theorem pk_is {tp : Int → Int} {n p c : Int} (hb : TB tp) (c0 : 0 ≤ c) (c1 : c < 128) : pk tp n p = c ↔ (p < n ∧ tp p = c) := by
  unfold pk
  have := hb p
  by_cases w : p < n
  · rw [if_pos w, bAnd_255 this.1 this.2]
    split <;> omega
  · rw [if_neg w]; omega
theorem pk_dig {tp : Int → Int} {n p : Int} (hb : TB tp) (p0 : 0 ≤ p) : (48 ≤ pk tp n p ∧ pk tp n p ≤ 57) ↔ kd tp n p = 2 := by
  rw [kd_2]
  unfold pk
  have := hb p
  by_cases w : p < n
  · rw [if_pos w, bAnd_255 this.1 this.2]
    split <;> omega
  · rw [if_neg w]; omega
theorem pk_v {tp : Int → Int} {n p : Int} (hb : TB tp) (h : kd tp n p = 2) : pk tp n p = tp p := by
  have k := kd_2.mp h
  have := hb p
  unfold pk
  rw [if_pos k.2.1, bAnd_255 this.1 this.2, if_neg (by omega)]
theorem pk_end {tp : Int → Int} {n p : Int} (hb : TB tp) (p0 : 0 ≤ p) : pk tp n p = -1 ↔ kd tp n p = 0 := by
  rw [kd_0]
  unfold pk
  have := hb p
  by_cases w : p < n
  · rw [if_pos w, bAnd_255 this.1 this.2]
    split <;> omega
  · rw [if_neg w]; omega
def MTx (F : AF) : Prop := 0 ≤ F 53 35 ∧ F 53 35 ≤ 500 ∧ 0 ≤ F 53 36 ∧ F 53 36 ≤ 10000
theorem pu_pk {d : Nat} {S : AS} {F : AF} {G : AG} (hsm : ShM S) (h : MTx F) : Pu d MX10_peek [vR 53] S F G (some (vI (pk (G 72) (F 53 35) (F 53 36)))) := pu_peek hsm h.2.2.1 h.2.1
theorem ok_blanks {d : Nat} {S : AS} {F : AF} {G : AG} (hd : 1 ≤ d) (hsm : ShM S) (hb : TB (G 72)) (h : MTx F) {Q : AQ} (hq : Q none S (fu F 53 36 (sk (G 72) (F 53 35) (F 53 36))) G) : Ok d MX10_blanks [vR 53] S F G Q := by
  obtain ⟨h1, h2, h3, h4⟩ := id h
  refine ok_go rfl (by decide) (Nat.le_of_ble_eq_true rfl) ?_
  have st : Go d MX10_blanks 0 [some (vR 53)] [] S (fu F 53 36 (F 53 36)) G Q := by
    refine up_ind (α := Unit) (F 53 35 + 10000) (fun p _ => F 53 36 ≤ p ∧ (p = F 53 36 ∨ p ≤ F 53 35) ∧ sk (G 72) (F 53 35) p = sk (G 72) (F 53 35) (F 53 36)) (fun p _ => Go d MX10_blanks 0 [some (vR 53)] [] S (fu F 53 36 p) G Q) ?_ (fun p _ hI hp => by omega) (F 53 36) () ⟨by omega, Or.inl rfl, rfl⟩
    rintro p - ⟨p0, p1, es⟩ hp ih
    have k35 : fu F 53 36 p 53 35 = F 53 35 := fu_k (by decide)
    have k36 : fu F 53 36 p 53 36 = p := fu_s
    have pp := pu_pk (d := d - 1) (S := S) (F := fu F 53 36 p) (G := G) hsm ⟨by omega, by omega, by omega, by omega⟩
    rw [k35, k36] at pp
    have is32 := pk_is (n := F 53 35) (p := p) hb (c := 32) (by omega) (by omega)
    refine R_X10_blanks_0 hsm ?_
    unfold V_X10_blanks_0
    rw [k36]
    refine ⟨hd, _, pp, fun y => ?_, fun y => ⟨by omega, fun F9 e9 => ?_⟩⟩
    · rw [sk_e (fun z => y (is32.mpr z))] at es
      rw [es]; exact hq
    · have z := is32.mp y
      rw [e9, fu_fu]
      exact ih () ⟨by omega, by omega, by rw [← sk_s z.1 z.2]; exact es⟩
  rw [fu_id rfl] at st
  exact st
theorem ok_fails {d : Nat} {S : AS} {F : AF} {G : AG} (hsm : ShM S) (w a : Int) {Q : AQ} (h1 : F 53 37 = 0 → Q none S (fu (fu F 53 37 w) 53 38 a) G) (h2 : ¬ F 53 37 = 0 → Q none S F G) : Ok d MX10_fails [vR 53, vI w, vI a] S F G Q := by
  refine ok_go rfl (by decide) (Nat.le_of_ble_eq_true rfl) (R_X10_fails_0 hsm ?_)
  unfold V_X10_fails_0
  exact ⟨fun y F1 e1 F2 e2 => by rw [e2, e1]; exact h1 y, fun y => h2 y⟩
theorem ok_lettersHere {d : Nat} {S : AS} {F : AF} {G : AG} (hd : 2 ≤ d) (hsm : ShM S) (hb : TB (G 72)) (h : MTx F) {Q : AQ} (hq : Q (some (vI (rn (G 72) (F 53 35) 1 (sk (G 72) (F 53 35) (F 53 36)) - sk (G 72) (F 53 35) (F 53 36)))) S (fu F 53 36 (sk (G 72) (F 53 35) (F 53 36))) G) : Ok d MX10_lettersHere [vR 53] S F G Q := by
  obtain ⟨h1, h2, h3, h4⟩ := id h
  have sp := sk_sp (G 72) (F 53 35) (F 53 36)
  refine ok_go rfl (by decide) (Nat.le_of_ble_eq_true rfl) (R_X10_lettersHere_0 hsm ?_)
  unfold V_X10_lettersHere_0
  refine ⟨by omega, ok_blanks (by omega) hsm hb h ⟨rfl, rfl, fun x6 e6 => ?_⟩⟩
  generalize hq0 : sk (G 72) (F 53 35) (F 53 36) = q at *
  rw [fu_s] at e6
  subst e6
  have k35 : fu F 53 36 x6 53 35 = F 53 35 := fu_k (by decide)
  have k36 : fu F 53 36 x6 53 36 = x6 := fu_s
  refine up_ind (α := Unit) (F 53 35 + 10000) (fun p _ => x6 ≤ p ∧ (p = x6 ∨ p ≤ F 53 35) ∧ rn (G 72) (F 53 35) 1 p = rn (G 72) (F 53 35) 1 x6) (fun p _ => Go d MX10_lettersHere 9 [some (vR 53), some (vI p)] [] S (fu F 53 36 x6) G Q) ?_ (fun p _ hI hp => by omega) x6 () ⟨by omega, Or.inl rfl, rfl⟩
  rintro p - ⟨p0, p1, es⟩ hp ih
  have fin : ¬ (p < F 53 35 ∧ kd (G 72) (F 53 35) p = 1) → Q (some (vI (p - x6))) S (fu F 53 36 x6) G := by
    intro z
    rw [rn_e z] at es
    rw [es]; exact hq
  refine R_X10_lettersHere_9 hsm ?_
  unfold V_X10_lettersHere_9
  rw [k35, k36]
  refine ⟨fun y => ⟨by omega, fin (by omega)⟩, fun y => ⟨by omega, by omega, by omega, _, pu_isIn hsm _ _ _, fun z => ⟨by omega, fin (fun w => bI_0.mp z ?_)⟩, fun z => ⟨by omega, ih () ⟨by omega, by omega, ?_⟩⟩⟩⟩
  · have := kd_1.mp w.2
    omega
  · have zz : 97 ≤ G 72 p ∧ G 72 p ≤ 122 := Classical.byContradiction (fun q => z (bI_f q))
    rw [← rn_s (by omega) (kd_1.mpr ⟨by omega, by omega, zz⟩)]
    exact es
def RelM (F : AF) (G : AG) (s : PS) : Prop := MTx F ∧ F 53 37 = s.1 ∧ F 53 38 = s.2.1 ∧ (s.1 = 0 → sk (G 72) (F 53 35) (F 53 36) = sk (G 72) (F 53 35) s.2.2)
def FrM (F F' : AF) : Prop := (∀ c : Nat, c ≠ 53 → F' c = F c) ∧ ∀ k : Nat, k ≠ 36 → k ≠ 37 → k ≠ 38 → F' 53 k = F 53 k
theorem frm_tr {F F1 F2 : AF} (h : FrM F F1) (k : FrM F1 F2) : FrM F F2 := ⟨fun c hc => (k.1 c hc).trans (h.1 c hc), fun j a b c => (k.2 j a b c).trans (h.2 j a b c)⟩
theorem frm_rf (F : AF) : FrM F F := ⟨fun _ _ => rfl, fun _ _ _ _ => rfl⟩
theorem relM_sp {F : AF} {G : AG} {s : PS} (h : RelM F G s) {p : Int} (p0 : 0 ≤ p) (p1 : p ≤ 10000) (e : s.1 = 0 → sk (G 72) (F 53 35) p = sk (G 72) (F 53 35) s.2.2) : RelM (fu F 53 36 p) G s ∧ FrM F (fu F 53 36 p) := by
  obtain ⟨⟨a1, a2, a3, a4⟩, b1, b2, b3⟩ := h
  refine ⟨⟨⟨?_, ?_, ?_, ?_⟩, ?_, ?_, fun z => ?_⟩, fun c hc => fu_row hc, fun k a b c => fu_k a⟩
  · rw [fu_k (by decide)]; exact a1
  · rw [fu_k (by decide)]; exact a2
  · rw [fu_s]; exact p0
  · rw [fu_s]; exact p1
  · rw [fu_k (by decide)]; exact b1
  · rw [fu_k (by decide)]; exact b2
  · rw [fu_k (by decide), fu_s]; exact e z
theorem ok_blanksR {d : Nat} {S : AS} {F : AF} {G : AG} (hd : 1 ≤ d) (hsm : ShM S) (hb : TB (G 72)) {s : PS} (h : RelM F G s) {Q : AQ} (hq : ∀ F', RelM F' G s → FrM F F' → F' 53 36 = sk (G 72) (F 53 35) (F 53 36) → Q none S F' G) : Ok d MX10_blanks [vR 53] S F G Q := by
  have t := h.1
  have sp := sk_sp (G 72) (F 53 35) (F 53 36)
  obtain ⟨h1, h2, h3, h4⟩ := id t
  have r := relM_sp h (p := sk (G 72) (F 53 35) (F 53 36)) (by omega) (by omega) (fun z => by rw [sk_id]; exact h.2.2.2 z)
  exact ok_blanks hd hsm hb t (hq _ r.1 r.2 fu_s)
theorem relM_f {F : AF} {G : AG} (h : MTx F) {w a p : Int} (hw : ¬ w = 0) : RelM (fu (fu F 53 37 w) 53 38 a) G (w, a, p) ∧ FrM F (fu (fu F 53 37 w) 53 38 a) := by
  obtain ⟨a1, a2, a3, a4⟩ := h
  refine ⟨⟨⟨?_, ?_, ?_, ?_⟩, ?_, fu_s, fun z => absurd z hw⟩, fun c hc => by rw [fu_row hc, fu_row hc], fun k a b c => by rw [fu_k c, fu_k b]⟩
  · rw [fu_k (by decide), fu_k (by decide)]; exact a1
  · rw [fu_k (by decide), fu_k (by decide)]; exact a2
  · rw [fu_k (by decide), fu_k (by decide)]; exact a3
  · rw [fu_k (by decide), fu_k (by decide)]; exact a4
  · rw [fu_k (by decide), fu_s]
theorem ok_numeral {d : Nat} {S : AS} {F : AF} {G : AG} (hd : 2 ≤ d) (hsm : ShM S) (hb : TB (G 72)) {s : PS} (h : RelM F G s) {lo hi : Int} (lo1 : lo ≤ 3000000000000000000) (hi1 : hi ≤ 3000000000000000000) {Q : AQ} (hq : ∀ (F' : AF) (v : Int), RelM F' G (numS (G 72) (F 53 35) lo hi s) → FrM F F' → (F' 53 36 ≤ 500 ∨ F' 53 36 ≤ F 53 36) → 0 ≤ v → v ≤ 3000000000000000001 → ((numS (G 72) (F 53 35) lo hi s).1 = 0 → v = vl (G 72) (F 53 35) (sk (G 72) (F 53 35) s.2.2)) → Q (some (vJ v)) S F' G) : Ok d MX10_numeral [vR 53, vJ lo, vJ hi] S F G Q := by
  obtain ⟨t, r1, r2, r3⟩ := id h
  refine ok_go rfl (by decide) (Nat.le_of_ble_eq_true rfl) (R_X10_numeral_0 hsm ?_)
  unfold V_X10_numeral_0
  refine ⟨fun y => ⟨by omega, ok_blanksR (by omega) hsm hb h (fun F1 q1 f1 e1 => ⟨rfl, rfl, fun x6 e6 => ?_⟩)⟩, fun y => ?_⟩
  · have z0 : s.1 = 0 := r1.symm.trans y
    have n35 : F1 53 35 = F 53 35 := f1.2 35 (by decide) (by decide) (by decide)
    have n37 : F1 53 37 = 0 := q1.2.1.trans z0
    have n38 : F1 53 38 = s.2.1 := q1.2.2.1
    have ex6 : x6 = sk (G 72) (F 53 35) s.2.2 := by rw [e6, e1]; exact r3 z0
    obtain ⟨⟨a1, a2, a3, a4⟩, -⟩ := id q1
    rw [n35] at a1 a2
    rw [← e6] at a3 a4
    generalize hN : vl (G 72) (F 53 35) x6 = N
    generalize hE : rn (G 72) (F 53 35) 2 x6 = E
    have rsp := rn_sp (G 72) (F 53 35) 2 x6
    rw [hE] at rsp
    have spb := sk_sp (G 72) (F 53 35) (F 53 36)
    rw [← e1, ← e6] at spb
    have eN : VLF (G 72) (E - x6).toNat 0 x6 = (if kd (G 72) (F 53 35) x6 = 2 then N else 0) := by
      by_cases c : kd (G 72) (F 53 35) x6 = 2
      · rw [if_pos c, ← hN]
        unfold vl
        rw [(te_num c).1, hE]
      · rw [if_neg c]
        have : E = x6 := by rw [← hE, rn_e (fun z => c z.2)]
        have e0 : (E - x6).toNat = 0 := by omega
        rw [e0]
        rfl
    have st : Go d MX10_numeral 22 [some (vR 53), some (vJ lo), none, some (vJ hi), none, some (vI x6), some (vJ 0), none] [] S (fu F1 53 36 x6) G Q := by
      refine up_ind (α := Int × Int) (F 53 35 + 10000) (fun p A => x6 ≤ p ∧ p ≤ E ∧ rn (G 72) (F 53 35) 2 p = E ∧ 0 ≤ A.2 ∧ VLF (G 72) (E - p).toNat A.2 p = (if kd (G 72) (F 53 35) x6 = 2 then N else 0) ∧ A.1 = (if A.2 ≤ 3000000000000000000 then A.2 else 3000000000000000001)) (fun p A => Go d MX10_numeral 22 [some (vR 53), some (vJ lo), none, some (vJ hi), none, some (vI x6), some (vJ A.1), none] [] S (fu F1 53 36 p) G Q) ?_ (fun p A hI hp => by omega) x6 (0, 0) ⟨by omega, by omega, hE, by show (0 : Int) ≤ 0; omega, eN, rfl⟩
      rintro p ⟨v, a⟩ ⟨p0, p1, es, a0, ev, av⟩ hp ih
      dsimp only at a0 ev av ⊢
      have vb : 0 ≤ v ∧ v ≤ 3000000000000000001 := by rw [av]; split <;> omega
      have k35 : fu F1 53 36 p 53 35 = F 53 35 := by rw [fu_k (by decide)]; exact n35
      have k36 : fu F1 53 36 p 53 36 = p := fu_s
      have k37 : fu F1 53 36 p 53 37 = 0 := by rw [fu_k (by decide)]; exact n37
      have mt : MTx (fu F1 53 36 p) := ⟨by omega, by omega, by omega, by omega⟩
      have fr0 : FrM F1 (fu F1 53 36 p) := ⟨fun c hc => fu_row hc, fun k a b c => fu_k a⟩
      have pp := pu_pk (d := d - 1) (S := S) (F := fu F1 53 36 p) (G := G) hsm mt
      rw [k35, k36] at pp
      have dg := pk_dig (n := F 53 35) (p := p) hb (by omega)
      have next : ∀ w : Int, w = (if 10 * a + (G 72 p - 48) ≤ 3000000000000000000 then 10 * a + (G 72 p - 48) else 3000000000000000001) → kd (G 72) (F 53 35) p = 2 → ∀ z : Int, V_X10_numeral_89 d S (fu F1 53 36 p) G Q lo hi x6 z w := by
        intro w ew kk z
        have k2 := kd_2.mp kk
        have lt : p < E := by
          rw [← es, rn_s k2.2.1 kk]
          have := (rn_sp (G 72) (F 53 35) 2 (p + 1)).1
          omega
        unfold V_X10_numeral_89
        rw [k36]
        refine ⟨by omega, fun F2 e2 => ?_⟩
        rw [e2, fu_fu]
        have e1 : (E - p).toNat = (E - (p + 1)).toNat + 1 := by omega
        rw [e1] at ev
        exact ih (w, 10 * a + (G 72 p - 48)) ⟨by omega, by omega, by rw [← rn_s k2.2.1 kk]; exact es, by show 0 ≤ 10 * a + (G 72 p - 48); omega, ev, ew⟩
      refine R_X10_numeral_22 hsm ?_
      unfold V_X10_numeral_22
      rw [k36]
      refine ⟨by omega, _, pp, _, pu_isIn hsm _ _ _, fun z => ?_, fun z => ?_⟩
      · have nk : ¬ kd (G 72) (F 53 35) p = 2 := fun w => bI_0.mp z (dg.mpr w)
        have ep : p = E := by rw [← es, rn_e (fun w => nk w.2)]
        have e0 : (E - p).toNat = 0 := by omega
        rw [e0] at ev
        have ev' : a = (if kd (G 72) (F 53 35) x6 = 2 then N else 0) := ev
        have bad : ∀ w : Int, ¬ w = 0 → nmW (G 72) (F 53 35) lo hi s.2.2 = w → Ok (d - 1) MX10_fails [vR 53, vI w, vI x6] S (fu F1 53 36 p) G (fun w21 S22 F23 G24 => S22 = S ∧ w21 = none ∧ Q (some (vJ v)) S F23 G24) := by
          intro w w0 ew
          have r1 := relM_f (G := G) mt (w := w) (a := x6) (p := s.2.2) w0
          refine ok_fails hsm w x6 (fun _ => ⟨rfl, rfl, hq _ v ?_ (frm_tr f1 (frm_tr fr0 r1.2)) (by rw [fu_k (by decide), fu_k (by decide), k36]; omega) vb.1 vb.2 (fun q => absurd (ew.symm.trans (numS_0 q).2.1) w0)⟩) (fun q => absurd k37 q)
          have en : numS (G 72) (F 53 35) lo hi s = (w, x6, s.2.2) := by
            unfold numS
            rw [if_neg (fun q => q z0), ew, if_pos w0, ex6]
          rw [en]; exact r1.1
        refine ⟨fun y2 => ?_, fun y2 => bad 1 (by decide) ?_⟩
        · have kk : kd (G 72) (F 53 35) x6 = 2 := by
            by_cases c : kd (G 72) (F 53 35) x6 = 2
            · exact c
            · exact absurd (by rw [ep, ← hE, rn_e (fun w => c w.2)]) y2
          have tn := te_num kk
          have ete : te (G 72) (F 53 35) x6 = p := by rw [tn.1, hE, ep]
          rw [if_pos kk] at ev'
          have nw : nmW (G 72) (F 53 35) lo hi s.2.2 = if 19 < p - x6 ∨ N < lo ∨ hi < N then 2 else 0 := by
            unfold nmW
            rw [← ex6, if_neg (fun q => q kk), ete, hN]
          have bad2 : (19 < p - x6 ∨ N < lo ∨ hi < N) → V_X10_numeral_145 d S (fu F1 53 36 p) G Q lo hi x6 v := by
            intro c
            unfold V_X10_numeral_145
            exact ⟨by omega, bad 2 (by decide) (by rw [nw, if_pos c])⟩
          refine ⟨by omega, fun y3 => bad2 (Or.inl y3), fun y3 => ⟨_, pu_isIn hsm _ _ _, fun y4 => ?_, fun y4 => bad2 ?_⟩⟩
          · have inn : lo ≤ v ∧ v ≤ hi := Classical.byContradiction (fun q => y4 (bI_f q))
            have vN : v = N := by
              rw [av] at inn ⊢
              by_cases c : a ≤ 3000000000000000000
              · rw [if_pos c]; exact ev'
              · rw [if_neg c] at inn
                omega
            have good : nmW (G 72) (F 53 35) lo hi s.2.2 = 0 := by rw [nw, if_neg (by omega)]
            have en : numS (G 72) (F 53 35) lo hi s = (0, s.2.1, p) := by
              unfold numS
              rw [if_neg (fun q => q z0), if_neg (fun q => q good), ← ex6, ete]
            refine hq _ v ?_ (frm_tr f1 fr0) (by rw [k36]; omega) vb.1 vb.2 (fun _ => by rw [vN, ← hN, ex6])
            rw [en]
            refine ⟨mt, k37, by rw [fu_k (by decide)]; exact n38, fun _ => ?_⟩
            rw [k35, k36]
          · have out := bI_0.mp y4
            rw [av] at out
            by_cases c : a ≤ 3000000000000000000
            · rw [if_pos c] at out
              omega
            · rw [if_neg c] at out
              omega
        · have nk2 : ¬ kd (G 72) (F 53 35) x6 = 2 := by rw [← y2]; exact nk
          unfold nmW
          rw [← ex6, if_pos nk2]
      · have zz : 48 ≤ pk (G 72) (F 53 35) p ∧ pk (G 72) (F 53 35) p ≤ 57 := Classical.byContradiction (fun q => z (bI_f q))
        have kk := dg.mp zz
        have pv := pk_v hb kk
        have k2 := kd_2.mp kk
        rw [pv] at pp
        unfold V_X10_numeral_70
        refine ⟨fun c => ⟨by omega, _, pp, by omega, by omega, fun c2 => next _ ?_ kk _, fun c2 => next _ ?_ kk _⟩, fun c => ⟨fun c2 => absurd c2 (by omega), fun _ => next _ ?_ kk _⟩⟩
        · have va : v = a := by
            rw [av] at c ⊢
            by_cases c3 : a ≤ 3000000000000000000
            · rw [if_pos c3]
            · rw [if_neg c3] at c
              omega
          rw [if_pos (by omega)]
          omega
        · have va : v = a := by
            rw [av] at c ⊢
            by_cases c3 : a ≤ 3000000000000000000
            · rw [if_pos c3]
            · rw [if_neg c3] at c
              omega
          rw [if_neg (by omega)]
        · have va : 300000000000000001 < a := by
            rw [av] at c
            by_cases c3 : a ≤ 3000000000000000000
            · rw [if_pos c3] at c
              omega
            · omega
          rw [if_neg (by omega)]
    rw [fu_id (by rw [e6])] at st
    exact st
  · have z0 : ¬ s.1 = 0 := fun q => y (r1.trans q)
    have en : numS (G 72) (F 53 35) lo hi s = s := by
      unfold numS
      rw [if_pos z0]
    exact hq F 0 (by rw [en]; exact h) (frm_rf F) (Or.inr (Int.le_refl _)) (by omega) (by omega) (fun q => absurd (numS_0 q).1 z0)
