/-! THE REFERENCE READS AN ACT -/
theorem relM_g {F : AF} {G G' : AG} {s : PS} (e : G' 72 = G 72) (h : RelM F G s) : RelM F G' s := by
  unfold RelM at *
  rw [e]
  exact h
/-- the words, as the reference knows them -/
def KWm (S : AS) : Prop := ∀ (d : Nat) (F : AF) (G : AG) (Q : AQ), 8 ≤ d → TB (G 72) → MTx F → Q (some (vI (wd (G 72) (F 53 35) (sk (G 72) (F 53 35) (F 53 36))))) S (fu F 53 36 (sk (G 72) (F 53 35) (F 53 36))) G → Ok d MX10_wordNext [vR 53] S F G Q
def RowM (tp : Int → Int) (n : Int) (G : AG) (k p : Int) : Prop := G 73 (7 * k) = wd tp n (sk tp n p) ∧ (wd tp n (sk tp n p) < 2 → (∀ i : Nat, i < 5 → G 73 (7 * k + 1 + i) = vl tp n (sk tp n (plN tp n i (0, -1, te tp n (sk tp n p))).2.2)) ∧ G 73 (7 * k + 6) = amV tp n (wd tp n (sk tp n p)) (plN tp n 5 (0, -1, te tp n (sk tp n p))))
theorem rowM_cg {tp : Int → Int} {n : Int} {G G' : AG} {k p m : Int} (km : k < m) (h : RowM tp n G k p) (e : ∀ j : Int, (j < 7 * m ∨ 7 * m + 7 ≤ j) → G' 73 j = G 73 j) : RowM tp n G' k p := by
  refine ⟨by rw [e _ (by omega)]; exact h.1, fun w => ⟨fun i hi => by rw [e _ (by omega)]; exact (h.2 w).1 i hi, by rw [e _ (by omega)]; exact (h.2 w).2⟩⟩
def Fr41 (F F' : AF) : Prop := (∀ c : Nat, c ≠ 53 → F' c = F c) ∧ ∀ k : Nat, k ≠ 36 → k ≠ 37 → k ≠ 38 → k ≠ 41 → F' 53 k = F 53 k
theorem ok_isOver {d : Nat} {S : AS} {F : AF} {G : AG} (hd : 2 ≤ d) (hsm : ShM S) (hb : TB (G 72)) (h : MTx F) {Q : AQ} (hq : Q (some (vI (bI (¬ F 53 37 = 0 ∨ kd (G 72) (F 53 35) (sk (G 72) (F 53 35) (F 53 36)) = 0)))) S (fu F 53 36 (sk (G 72) (F 53 35) (F 53 36))) G) : Ok d MX10_isOver [vR 53] S F G Q := by
  have sp := sk_sp (G 72) (F 53 35) (F 53 36)
  obtain ⟨h1, h2, h3, h4⟩ := id h
  refine ok_go rfl (by decide) (Nat.le_of_ble_eq_true rfl) (R_X10_isOver_0 hsm ?_)
  unfold V_X10_isOver_0
  refine ⟨by omega, ok_blanks (by omega) hsm hb h ⟨rfl, rfl, ?_⟩⟩
  have k35 : fu F 53 36 (sk (G 72) (F 53 35) (F 53 36)) 53 35 = F 53 35 := fu_k (by decide)
  have k36 : fu F 53 36 (sk (G 72) (F 53 35) (F 53 36)) 53 36 = sk (G 72) (F 53 35) (F 53 36) := fu_s
  have k37 : fu F 53 36 (sk (G 72) (F 53 35) (F 53 36)) 53 37 = F 53 37 := fu_k (by decide)
  have pp := pu_pk (d := d - 1) (S := S) (F := fu F 53 36 (sk (G 72) (F 53 35) (F 53 36))) (G := G) hsm ⟨by omega, by omega, by omega, by omega⟩
  rw [k35, k36] at pp
  have pe := pk_end (n := F 53 35) (p := sk (G 72) (F 53 35) (F 53 36)) hb (by omega)
  rw [k37]
  refine ⟨fun y => ?_, fun y => ⟨_, pp, fun z => ?_, fun z => ?_⟩⟩
  · rw [bI_t (Or.inl y)] at hq; exact hq
  · rw [bI_f (fun w => w.elim (fun q => q y) (fun q => z (pe.mpr q)))] at hq; exact hq
  · rw [bI_t (Or.inr (pe.mp z))] at hq; exact hq
theorem ok_mreadAct {d : Nat} {S : AS} {F : AF} {G : AG} (hd : 9 ≤ d) (hsm : ShM S) (kw : KWm S) (hb : TB (G 72)) {p : Int} (h : RelM F G (0, -1, p)) (hsp : F 53 36 ≤ 600) (m0 : 0 ≤ F 53 41) (m1 : F 53 41 ≤ 30) {Q : AQ} (hq : ∀ (F' : AF) (G' : AG), F' 53 37 = (acS (G 72) (F 53 35) (F 53 41) p).1 → F' 53 38 = (acS (G 72) (F 53 35) (F 53 41) p).2.1 → MTx F' → Fr41 F F' → (∀ c : Nat, c ≠ 73 → G' c = G c) → (∀ j : Int, (j < 7 * F 53 41 ∨ 7 * F 53 41 + 7 ≤ j) → G' 73 j = G 73 j) → ((acS (G 72) (F 53 35) (F 53 41) p).1 = 0 → F' 53 36 = (acS (G 72) (F 53 35) (F 53 41) p).2.2 ∧ F' 53 36 ≤ 500 ∧ F' 53 41 = F 53 41 + 1 ∧ F 53 41 < 30 ∧ RowM (G 72) (F 53 35) G' (F 53 41) p) → Q none S F' G') : Ok d MX10_readAct [vR 53] S F G Q := by
  classical
  obtain ⟨t, r1, r2, r3⟩ := id h
  obtain ⟨h1, h2, h3, h4⟩ := id t
  have r1' : F 53 37 = 0 := r1
  have r2' : F 53 38 = -1 := r2
  have eq0 : sk (G 72) (F 53 35) (F 53 36) = sk (G 72) (F 53 35) p := r3 rfl
  have sp := sk_sp (G 72) (F 53 35) (F 53 36)
  refine ok_go rfl (by decide) (Nat.le_of_ble_eq_true rfl) (R_X10_readAct_0 hsm ?_)
  unfold V_X10_readAct_0
  refine ⟨by omega, kw (d - 1) F G _ (by omega) hb t ⟨rfl, _, rfl, ?_⟩⟩
  rw [eq0] at sp ⊢
  generalize hn : F 53 35 = n at *
  generalize hm : F 53 41 = m at *
  generalize htp : G 72 = tp at *
  have wr := wd_r tp n (sk tp n p)
  generalize hW : wd tp n (sk tp n p) = W at *
  generalize hq9 : sk tp n p = q at *
  generalize hF4 : fu F 53 36 q = F4
  have f4c : ∀ c : Nat, c ≠ 53 → F4 c = F c := fun c hc => by rw [← hF4, fu_row hc]
  have f4k : ∀ k : Nat, k ≠ 36 → F4 53 k = F 53 k := fun k hk => by rw [← hF4, fu_k hk]
  have v36 : F4 53 36 = q := by rw [← hF4, fu_s]
  have v35 : F4 53 35 = n := (f4k 35 (by decide)).trans hn
  have v37 : F4 53 37 = 0 := (f4k 37 (by decide)).trans r1'
  have v38 : F4 53 38 = -1 := (f4k 38 (by decide)).trans r2'
  have v41 : F4 53 41 = m := (f4k 41 (by decide)).trans hm
  have mt4 : MTx F4 := ⟨by omega, by omega, by omega, by omega⟩
  -- a fault at the word
  have bl : ∀ w : Int, ¬ w = 0 → acS tp n m p = (w, q, p) → Ok (d - 1) MX10_fails [vR 53, vI w, vI (F4 53 36)] S F4 G (fun w11 S12 F13 G14 => S12 = S ∧ w11 = none ∧ V_X10_readAct_40 d S F13 G14 Q W) := by
    intro w w0 ea
    rw [v36]
    refine ok_fails hsm w q (fun _ => ⟨rfl, rfl, ?_⟩) (fun z => absurd v37 z)
    have e37 : fu (fu F4 53 37 w) 53 38 q 53 37 = w := by rw [fu_k (by decide), fu_s]
    unfold V_X10_readAct_40
    rw [e37]
    refine ⟨fun z => absurd z w0, fun _ => hq _ G (by rw [ea]; exact e37) (by rw [ea]; exact fu_s) ⟨?_, ?_, ?_, ?_⟩ ⟨fun c hc => by rw [fu_row hc, fu_row hc]; exact f4c c hc, fun k k36 k37 k38 _ => by rw [fu_k k38, fu_k k37]; exact f4k k k36⟩ (fun _ _ => rfl) (fun _ _ => rfl) (fun z => by rw [ea] at z; exact absurd z w0)⟩
    all_goals rw [fu_k (by decide), fu_k (by decide)]; omega
  refine ⟨fun y => ⟨fun y2 => ?_, fun y2 => bl 3 (by decide) ?_⟩, fun y => bl 1 (by decide) ?_⟩
  rotate_left
  · unfold acS
    rw [hq9, hW, if_neg y, if_pos (by omega)]
  · unfold acS
    rw [hq9, hW, if_pos y]
  -- the act itself
  have kq : kd tp n q = 1 := wr.2.2 y
  have kq1 := kd_1.mp kq
  have ete : te tp n q = rn tp n 1 q := by
    unfold te
    rw [kq, if_neg (by decide), if_neg (by decide)]
  have tei := te_in (tp := tp) (n := n) (p := q) kq1.1
  have skq : sk tp n q = q := by rw [← hq9, sk_id]
  rw [v41] at y2
  unfold V_X10_readAct_40
  rw [v37]
  refine ⟨fun _ => ⟨by omega, ok_lettersHere (by omega) hsm (by rw [htp]; exact hb) mt4 ⟨rfl, _, rfl, ?_⟩⟩, fun z => absurd rfl z⟩
  rw [htp, v35, v36, skq, ← ete]
  refine ⟨by omega, fun F8 e8 => ?_⟩
  have e8' : F8 = fu F4 53 36 (te tp n q) := by
    rw [e8, fu_fu]
    congr 1
    omega
  have s8c : ∀ c : Nat, c ≠ 53 → F8 c = F c := fun c hc => by rw [e8', fu_row hc]; exact f4c c hc
  have s8k : ∀ k : Nat, k ≠ 36 → F8 53 k = F 53 k := fun k hk => by rw [e8', fu_k hk]; exact f4k k hk
  have s36 : F8 53 36 = te tp n q := by rw [e8', fu_s]
  have s35 : F8 53 35 = n := (s8k 35 (by decide)).trans hn
  have s41 : F8 53 41 = m := (s8k 41 (by decide)).trans hm
  rw [s41]
  refine ⟨by omega, fun x10 e10 => ⟨by omega, by omega, fun G13 e13 => ?_⟩⟩
  subst e10
  have ea : acS tp n m p = smS tp n (if W < 2 then amS tp n W (plN tp n 5 (0, -1, te tp n q)) else (0, -1, te tp n q)) := by
    unfold acS
    rw [hq9, hW, if_neg y, if_neg (by omega)]
  have g13 : G13 72 = tp := by rw [e13, gu_row (by decide)]; exact htp
  have rel8 : RelM F8 G13 (0, -1, te tp n q) := by
    refine ⟨⟨by omega, by omega, by omega, by omega⟩, (s8k 37 (by decide)).trans r1', (s8k 38 (by decide)).trans r2', fun _ => ?_⟩
    show sk (G13 72) (F8 53 35) (F8 53 36) = sk (G13 72) (F8 53 35) (te tp n q)
    rw [s36]
  have fr8 : FrM F F8 := ⟨s8c, fun k a _ _ => s8k k a⟩
  -- the end of an act
  have semi : ∀ (F2 : AF) (G2 : AG) (s : PS) (l : Int), RelM F2 G2 s → FrM F F2 → F2 53 36 ≤ 700 → (∀ c : Nat, c ≠ 73 → G2 c = G c) → (∀ j : Int, (j < 7 * m ∨ 7 * m + 7 ≤ j) → G2 73 j = G 73 j) → acS tp n m p = smS tp n s → (s.1 = 0 → RowM tp n G2 m p) → V_X10_readAct_213 d S F2 G2 Q W (7 * m) l := by
    intro F2 G2 s l rl fr b36 u1 u2 eA row
    have g72 : G2 72 = tp := (u1 72 (by decide)).trans htp
    have n35 : F2 53 35 = n := (fr.2 35 (by decide) (by decide) (by decide)).trans hn
    unfold V_X10_readAct_213
    refine ⟨by omega, ok_blanksR (by omega) hsm (by rw [g72]; exact hb) rl (fun F3 q3 f3 e3 => ⟨rfl, rfl, ?_⟩)⟩
    obtain ⟨t3, b1, b2, b3⟩ := id q3
    have m35 : F3 53 35 = n := (f3.2 35 (by decide) (by decide) (by decide)).trans n35
    rw [g72, n35] at e3
    have spp := sk_sp tp n (F2 53 36)
    have c36 : 0 ≤ F3 53 36 ∧ F3 53 36 ≤ 700 := by
      obtain ⟨x1, x2, x3, x4⟩ := rl.1
      omega
    have m41 : F3 53 41 = m := ((f3.2 41 (by decide) (by decide) (by decide)).trans (fr.2 41 (by decide) (by decide) (by decide))).trans hm
    -- the last two counts
    have fin : ∀ F5 : AF, MTx F5 → F5 53 36 ≤ 700 → F5 53 35 = n → F5 53 41 = m → (∀ c : Nat, c ≠ 53 → F5 c = F c) → (∀ k : Nat, k ≠ 36 → k ≠ 37 → k ≠ 38 → F5 53 k = F 53 k) → F5 53 37 = (smS tp n s).1 → F5 53 38 = (smS tp n s).2.1 → ((smS tp n s).1 = 0 → F5 53 36 + 1 = (smS tp n s).2.2 ∧ F5 53 36 < n ∧ s.1 = 0) → V_X10_readAct_242 d S F5 G2 Q W (7 * m) l := by
      intro F5 t5 w36 w35 w41 wc wk w37 w38 wz
      obtain ⟨t51, t52, t53, t54⟩ := t5
      unfold V_X10_readAct_242
      refine ⟨by omega, fun F6 e6 => ?_⟩
      have x41 : F6 53 41 = m := by rw [e6, fu_k (by decide)]; exact w41
      rw [x41]
      refine ⟨by omega, fun F7 e7 => ?_⟩
      have y36 : F7 53 36 = F5 53 36 + 1 := by rw [e7, fu_k (by decide), e6, fu_s]
      refine hq F7 G2 (by rw [eA, e7, fu_k (by decide), e6, fu_k (by decide)]; exact w37) (by rw [eA, e7, fu_k (by decide), e6, fu_k (by decide)]; exact w38) ⟨?_, ?_, by omega, by omega⟩ ⟨fun c hc => by rw [e7, fu_row hc, e6, fu_row hc]; exact wc c hc, fun k a b c e => by rw [e7, fu_k e, e6, fu_k a]; exact wk k a b c⟩ u1 u2 (fun z => ?_)
      · rw [e7, fu_k (by decide), e6, fu_k (by decide)]; omega
      · rw [e7, fu_k (by decide), e6, fu_k (by decide)]; omega
      · rw [eA] at z ⊢
        obtain ⟨z1, z2, z3⟩ := wz z
        exact ⟨by rw [y36]; exact z1, by omega, by rw [e7, fu_s], by omega, row z3⟩
    have fc : ∀ c : Nat, c ≠ 53 → F3 c = F c := fun c hc => (f3.1 c hc).trans (fr.1 c hc)
    have fk : ∀ k : Nat, k ≠ 36 → k ≠ 37 → k ≠ 38 → F3 53 k = F 53 k := fun k a b c => (f3.2 k a b c).trans (fr.2 k a b c)
    refine ⟨fun z => ?_, fun z => ?_⟩
    · have s0 : ¬ s.1 = 0 := fun w => z (b1.trans w)
      have em : smS tp n s = s := by unfold smS; rw [if_pos s0]
      exact fin F3 t3 c36.2 m35 m41 fc fk (by rw [em]; exact b1) (by rw [em]; exact b2) (fun w => by rw [em] at w; exact absurd w s0)
    · have s0 : s.1 = 0 := b1.symm.trans z
      have e36 : F3 53 36 = sk tp n s.2.2 := by
        have := rl.2.2.2 s0
        rw [g72, n35] at this
        rw [e3, this]
      have pp := pu_pk (d := d - 1) (S := S) (F := F3) (G := G2) hsm t3
      rw [g72, m35] at pp
      have is59 := pk_is (n := n) (p := F3 53 36) hb (c := 59) (by omega) (by omega)
      refine ⟨_, pp, fun w => ?_, fun w => ?_⟩
      · have ww := is59.mp w
        have em : smS tp n s = (0, s.2.1, sk tp n s.2.2 + 1) := by
          unfold smS
          rw [if_neg (fun q => q s0), if_pos (by rw [← e36]; exact ww)]
        exact fin F3 t3 c36.2 m35 m41 fc fk (by rw [em]; exact b1.trans s0) (by rw [em]; exact b2) (fun _ => ⟨by rw [em, e36], ww.1, s0⟩)
      · have em : smS tp n s = (1, sk tp n s.2.2, s.2.2) := by
          unfold smS
          rw [if_neg (fun q => q s0), if_neg (fun q => w (is59.mpr (by rw [e36]; exact q)))]
        have rf := relM_f (G := G2) t3 (w := 1) (a := F3 53 36) (p := s.2.2) (by decide)
        refine ok_fails hsm 1 _ (fun _ => ⟨rfl, rfl, fin _ rf.1.1 ?_ ?_ ?_ (fun c hc => by rw [rf.2.1 c hc]; exact fc c hc) (fun k a b c => by rw [rf.2.2 k a b c]; exact fk k a b c) (by rw [em]; exact rf.1.2.1) (by rw [em, rf.1.2.2.1, e36]) (fun q => by rw [em] at q; exact absurd (show (1 : Int) = 0 from q) (by decide))⟩) (fun q => absurd z q)
        · rw [fu_k (by decide), fu_k (by decide)]; exact c36.2
        · rw [fu_k (by decide), fu_k (by decide)]; exact m35
        · rw [fu_k (by decide), fu_k (by decide)]; exact m41
  -- after the numbers of a place
  have fin123 : ∀ (F5 : AF) (G5 : AG) (s5 : PS) (k : Int), s5 = (if W < 2 then plN tp n 5 (0, -1, te tp n q) else (0, -1, te tp n q)) → RelM F5 G5 s5 → FrM F F5 → F5 53 36 ≤ 600 → (∀ c : Nat, c ≠ 73 → G5 c = G c) → (∀ j : Int, (j < 7 * m ∨ 7 * m + 7 ≤ j) → G5 73 j = G 73 j) → G5 73 (7 * m) = W → (W < 2 → s5.1 = 0 → ∀ i : Nat, i < 5 → G5 73 (7 * m + 1 + i) = vl tp n (sk tp n (plN tp n i (0, -1, te tp n q)).2.2)) → V_X10_readAct_123 d S F5 G5 Q W (7 * m) k := by
    intro F5 G5 s5 k es5 rl fr b36 u1 u2 u0 u5
    have g72 : G5 72 = tp := (u1 72 (by decide)).trans htp
    have n35 : F5 53 35 = n := (fr.2 35 (by decide) (by decide) (by decide)).trans hn
    -- what is behind the sign
    have amt : ∀ (F6 : AF) (l : Int), (l = 0 ∨ l = 1) → (W = 0 ∧ sgn tp n s5 ↔ l = 1) → RelM F6 G5 (if W = 0 ∧ sgn tp n s5 then (s5.1, s5.2.1, sk tp n s5.2.2 + 1) else s5) → FrM F F6 → F6 53 36 ≤ 601 → V_X10_readAct_167 d S F6 G5 Q W (7 * m) l := by
      intro F6 l l01 lsg r6 fr6 c36
      have p35 : F6 53 35 = n := (fr6.2 35 (by decide) (by decide) (by decide)).trans hn
      have num : W < 2 → ∀ hi : Int, hi ≤ 3000000000000000000 → numS tp n 1 hi (if W = 0 ∧ sgn tp n s5 then (s5.1, s5.2.1, sk tp n s5.2.2 + 1) else s5) = amS tp n W s5 → V_X10_readAct_187 d S F6 G5 Q W (7 * m) l hi 1 := by
        intro w2 hi hi1 en
        rw [if_pos w2] at es5 ea
        unfold V_X10_readAct_187
        refine ⟨by omega, ok_numeral (by omega) hsm (by rw [g72]; exact hb) r6 (by omega) hi1 (fun F7 v r7 f7 b7 v0 v1 ve => ⟨rfl, v, rfl, by omega, ?_⟩)⟩
        rw [g72, p35, en] at r7 ve
        have go : ∀ z w : Int, ((amS tp n W s5).1 = 0 → z = amV tp n W s5) → V_X10_readAct_212 d S F7 G5 Q W (7 * m) l w z (7 * m + 6) 73 := by
          intro z w ez
          unfold V_X10_readAct_212
          refine ⟨by omega, by rw [shm_n hsm 73 (by decide) (by decide)]; show 7 * m + 6 < 210; omega, fun G8 e8 => ?_⟩
          refine semi F7 G8 (amS tp n W s5) l (relM_g (by rw [e8, gu_row (by decide)]) r7) (frm_tr fr6 f7) (by omega) (fun c hc => by rw [e8, gu_row hc]; exact u1 c hc) (fun j hj => by rw [e8, gu_i (by omega)]; exact u2 j hj) (by rw [ea, es5]) (fun z0 => ?_)
          refine ⟨?_, fun _ => ⟨fun i hi' => ?_, ?_⟩⟩
          · rw [hq9, hW, e8, gu_i (by omega)]; exact u0
          · rw [hq9, e8, gu_i (by omega)]; exact u5 w2 (amS_0 z0) i hi'
          · rw [hq9, hW, e8, gu_s, ez z0, es5]
        have val : (amS tp n W s5).1 = 0 → (l = 0 → v = amV tp n W s5) ∧ (l = 1 → -v = amV tp n W s5) := by
          intro z0
          have v' := ve z0
          unfold amV
          constructor
          · intro l0
            have nsg : ¬ (W = 0 ∧ sgn tp n s5) := fun q => by have := lsg.mp q; omega
            rw [if_neg nsg] at v' ⊢
            exact v'
          · intro l1
            have ysg := lsg.mpr l1
            rw [if_pos ysg] at v' ⊢
            rw [v']
        exact ⟨fun z => go v v (fun z0 => (val z0).1 z), fun z => ⟨by omega, go (-v) v (fun z0 => (val z0).2 (by omega))⟩⟩
      unfold V_X10_readAct_167
      refine ⟨fun z => ?_, fun z => ⟨fun z2 => num (by omega) _ (by omega) ?_, fun z2 => num (by omega) _ (by omega) ?_⟩⟩
      · have nsg : ¬ (W = 0 ∧ sgn tp n s5) := fun q => by omega
        rw [if_neg nsg] at r6
        rw [if_neg (by omega)] at es5 ea
        refine semi F6 G5 s5 l r6 fr6 (by omega) u1 u2 (by rw [ea, es5]) (fun _ => ⟨by rw [hq9, hW]; exact u0, fun w => ?_⟩)
        rw [hq9, hW] at w
        omega
      · have nsg : ¬ (W = 0 ∧ sgn tp n s5) := fun q => z2 q.1
        rw [if_neg nsg]
        unfold amS
        rw [if_neg z2]
      · subst z2
        unfold amS
        rw [if_pos rfl]
        by_cases c : sgn tp n s5
        · rw [if_pos ⟨rfl, c⟩, if_pos c]
        · rw [if_neg (fun q => c q.2), if_neg c]
    unfold V_X10_readAct_123
    refine ⟨by omega, ok_blanksR (by omega) hsm (by rw [g72]; exact hb) rl (fun F6 q6 f6 e6 => ⟨rfl, rfl, ?_⟩)⟩
    obtain ⟨t6, b1, b2, b3⟩ := id q6
    have m35 : F6 53 35 = n := (f6.2 35 (by decide) (by decide) (by decide)).trans n35
    rw [g72, n35] at e6
    have spp := sk_sp tp n (F5 53 36)
    have c36 : 0 ≤ F6 53 36 ∧ F6 53 36 ≤ 600 := by
      obtain ⟨x1, x2, x3, x4⟩ := rl.1
      omega
    have no : ¬ (W = 0 ∧ sgn tp n s5) → V_X10_readAct_151 d S F6 G5 Q W (7 * m) k := by
      intro c
      unfold V_X10_readAct_151 V_X10_readAct_152
      exact ⟨fun _ => amt F6 0 (Or.inl rfl) ⟨fun q => absurd q c, fun q => absurd q (by decide)⟩ (by rw [if_neg c]; exact q6) (frm_tr fr f6) (by omega), fun z => absurd rfl z⟩
    refine ⟨fun z => no (fun c => z c.1), fun z => ⟨fun z2 => no (fun c => z2 (b1.trans c.2.1)), fun z2 => ?_⟩⟩
    have s0 : s5.1 = 0 := b1.symm.trans z2
    have e36 : F6 53 36 = sk tp n s5.2.2 := by
      have := rl.2.2.2 s0
      rw [g72, n35] at this
      rw [e6, this]
    have pp := pu_pk (d := d - 1) (S := S) (F := F6) (G := G5) hsm t6
    rw [g72, m35] at pp
    have is45 := pk_is (n := n) (p := F6 53 36) hb (c := 45) (by omega) (by omega)
    refine ⟨_, pp, fun w => no (fun c => w (is45.mpr ⟨by rw [e36]; exact c.2.2.1, by rw [e36]; exact c.2.2.2⟩)), fun w => ?_⟩
    have ww := is45.mp w
    have ysg : W = 0 ∧ sgn tp n s5 := ⟨z, s0, by rw [← e36]; exact ww.1, by rw [← e36]; exact ww.2⟩
    unfold V_X10_readAct_152
    refine ⟨fun q => absurd q (by decide), fun _ => ⟨by omega, fun F7 e7 => amt F7 1 (Or.inr rfl) ⟨fun _ => rfl, fun _ => ysg⟩ ?_ ⟨fun c hc => by rw [e7, fu_row hc, f6.1 c hc]; exact fr.1 c hc, fun j a b c => by rw [e7, fu_k a, f6.2 j a b c]; exact fr.2 j a b c⟩ (by rw [e7, fu_s]; omega)⟩⟩
    rw [if_pos ysg]
    obtain ⟨t61, t62, t63, t64⟩ := t6
    refine ⟨⟨?_, ?_, ?_, ?_⟩, ?_, ?_, fun _ => ?_⟩
    · rw [e7, fu_k (by decide)]; exact t61
    · rw [e7, fu_k (by decide)]; exact t62
    · rw [e7, fu_s]; omega
    · rw [e7, fu_s]; omega
    · rw [e7, fu_k (by decide)]; exact b1
    · rw [e7, fu_k (by decide)]; exact b2
    · show sk (G5 72) (F7 53 35) (F7 53 36) = sk (G5 72) (F7 53 35) (sk tp n s5.2.2 + 1)
      rw [e7, fu_s, e36]
  -- the numbers of a place, one by one
  refine up_ind (α := AF × AG) 4 (fun k A => 0 ≤ k ∧ k ≤ 5 ∧ (2 ≤ W → k = 0) ∧ RelM A.1 A.2 (plN tp n k.toNat (0, -1, te tp n q)) ∧ FrM F A.1 ∧ A.1 53 36 ≤ 600 ∧ (∀ c : Nat, c ≠ 73 → A.2 c = G c) ∧ (∀ j : Int, (j < 7 * m ∨ 7 * m + 7 ≤ j) → A.2 73 j = G 73 j) ∧ A.2 73 (7 * m) = W ∧ ∀ i : Nat, (i : Int) < k → (plN tp n k.toNat (0, -1, te tp n q)).1 = 0 → A.2 73 (7 * m + 1 + i) = vl tp n (sk tp n (plN tp n i (0, -1, te tp n q)).2.2)) (fun k A => Go d MX10_readAct 79 [some (vR 53), some (vI W), some (vI (7 * m)), some (vI k), none, none] [] S A.1 A.2 Q) ?_ ?_ 0 (F8, G13) ⟨by omega, by omega, fun _ => rfl, rel8, fr8, by show F8 53 36 ≤ 600; omega, fun c hc => by show G13 c = G c; rw [e13, gu_row hc], fun j hj => by show G13 73 j = G 73 j; rw [e13, gu_i (by omega)], by show G13 73 (7 * m) = W; rw [e13, gu_s], fun i hi => absurd hi (by omega)⟩
  · rintro k ⟨F5, G5⟩ ⟨k0, k1, kW, rl, fr, b36, u1, u2, u0, u5⟩ hk ih
    dsimp only at rl fr b36 u1 u2 u0 u5 ⊢
    have g72 : G5 72 = tp := (u1 72 (by decide)).trans htp
    have n35 : F5 53 35 = n := (fr.2 35 (by decide) (by decide) (by decide)).trans hn
    have ek : (k + 1).toNat = k.toNat + 1 := by omega
    have go : W < 2 → ∀ hi' : Int, hi' = (if k.toNat = 0 then 2 else 9999) → V_X10_readAct_113 d S F5 G5 Q W (7 * m) k hi' 0 (7 * m + 1 + k) 73 := by
      intro w2 hi' eh
      have hb' : hi' ≤ 3000000000000000000 := by rw [eh]; split <;> omega
      unfold V_X10_readAct_113
      refine ⟨by omega, ok_numeral (by omega) hsm (by rw [g72]; exact hb) rl (by omega) hb' (fun F6 v r6 f6 b6 v0 v1 ve => ⟨rfl, v, rfl, by omega, by rw [shm_n hsm 73 (by decide) (by decide)]; show 7 * m + 1 + k < 210; omega, fun G9 e9 => ⟨by omega, ih (F6, G9) ⟨by omega, by omega, fun w => absurd w (by omega), ?_, frm_tr fr f6, by show F6 53 36 ≤ 600; omega, fun c hc => by show G9 c = G c; rw [e9, gu_row hc]; exact u1 c hc, fun j hj => by show G9 73 j = G 73 j; rw [e9, gu_i (by omega)]; exact u2 j hj, by show G9 73 (7 * m) = W; rw [e9, gu_i (by omega)]; exact u0, fun i hi q0 => ?_⟩⟩⟩)⟩
      · show RelM F6 G9 (plN tp n (k + 1).toNat (0, -1, te tp n q))
        rw [ek]
        rw [g72, n35] at r6
        refine relM_g (G := G5) (by rw [e9, gu_row (by decide)]) ?_
        show RelM F6 G5 (numS tp n 0 (if k.toNat = 0 then 2 else 9999) (plN tp n k.toNat (0, -1, te tp n q)))
        rw [← eh]; exact r6
      · show G9 73 (7 * m + 1 + i) = _
        rw [ek] at q0
        have q0' : (numS tp n 0 (if k.toNat = 0 then 2 else 9999) (plN tp n k.toNat (0, -1, te tp n q))).1 = 0 := q0
        by_cases z : (i : Int) = k
        · have ei : i = k.toNat := by omega
          rw [z, e9, gu_s, ei]
          rw [g72, n35] at ve
          rw [← eh] at q0'
          exact ve q0'
        · rw [e9, gu_i (by omega)]
          exact u5 i (by omega) (numS_0 q0').1
    refine R_X10_readAct_79 hsm ?_
    unfold V_X10_readAct_79
    refine ⟨fun z => absurd z (by omega), fun _ => ⟨fun z => ?_, fun z => ⟨by omega, by omega, fun z2 => go (by omega) 9999 (by rw [if_neg (by omega)]), fun z2 => go (by omega) 2 (by rw [if_pos (by omega)])⟩⟩⟩
    have k00 := kW z
    subst k00
    exact fin123 F5 G5 (0, -1, te tp n q) 0 (by rw [if_neg (by omega)]) rl fr b36 u1 u2 u0 (fun w => absurd w (by omega))
  · rintro k ⟨F5, G5⟩ ⟨k0, k1, kW, rl, fr, b36, u1, u2, u0, u5⟩ hk
    dsimp only at rl fr b36 u1 u2 u0 u5 ⊢
    have ek : k.toNat = 5 := by omega
    rw [ek] at rl u5
    have w2 : W < 2 := by
      by_cases c : 2 ≤ W
      · have := kW c
        omega
      · omega
    refine R_X10_readAct_79 hsm ?_
    unfold V_X10_readAct_79
    refine ⟨fun _ => fin123 F5 G5 _ k (by rw [if_pos w2]) rl fr b36 u1 u2 u0 (fun _ q0 i hi => u5 i (by omega) q0), fun z => absurd (by omega) z⟩
