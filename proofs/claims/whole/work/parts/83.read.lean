/-! THE SYSTEM READS ACTS -/
theorem rel_g {F : AF} {G G' : AG} {s : PS} (e : G' 47 = G 47) (h : RelS F G s) : RelS F G' s := by
  unfold RelS TokOK at *
  rw [e]
  exact h
theorem ok_readPlace {d : Nat} {S : AS} {F : AF} {G : AG} (hd : 3 ≤ d) (hsh : ShC S) {s : PS} (h : RelS F G s) (m0 : 0 ≤ F 46 9) (m1 : F 46 9 < 30) {Q : AQ} (hq : ∀ (F' : AF) (G' : AG), RelS F' G' (plN (G 47) (F 46 2) 5 s) → Fr46 F F' → (∀ c : Nat, c ≠ 49 → G' c = G c) → (∀ k : Int, (k < 5 * F 46 9 ∨ 5 * F 46 9 + 5 ≤ k) → G' 49 k = G 49 k) → (∀ i : Nat, i < 5 → r32 (G' 49 (5 * F 46 9 + i)) ∧ ((plN (G 47) (F 46 2) 5 s).1 = 0 → G' 49 (5 * F 46 9 + i) = vl (G 47) (F 46 2) (sk (G 47) (F 46 2) (plN (G 47) (F 46 2) i s).2.2))) → Q none S F' G') : Ok d MX5_readPlace [vR 46] S F G Q := by
  refine ok_go rfl (by decide) (Nat.le_of_ble_eq_true rfl) (R_X5_readPlace_0 hsh ?_)
  unfold V_X5_readPlace_0
  refine up_ind (α := AF × AG) 4 (fun i A => 0 ≤ i ∧ i ≤ 5 ∧ RelS A.1 A.2 (plN (G 47) (F 46 2) i.toNat s) ∧ Fr46 F A.1 ∧ (∀ c : Nat, c ≠ 49 → A.2 c = G c) ∧ (∀ k : Int, (k < 5 * F 46 9 ∨ 5 * F 46 9 + 5 ≤ k) → A.2 49 k = G 49 k) ∧ ∀ j : Nat, (j : Int) < i → r32 (A.2 49 (5 * F 46 9 + j)) ∧ ((plN (G 47) (F 46 2) i.toNat s).1 = 0 → A.2 49 (5 * F 46 9 + j) = vl (G 47) (F 46 2) (sk (G 47) (F 46 2) (plN (G 47) (F 46 2) j s).2.2))) (fun i A => Go d MX5_readPlace 2 [some (vR 46), some (vI i)] [] S A.1 A.2 Q) ?_ ?_ 0 (F, G) ⟨by omega, by omega, h, fr_rf F, fun _ _ => rfl, fun _ _ => rfl, fun j hj => absurd hj (by omega)⟩
  · rintro i ⟨F1, G1⟩ ⟨i0, i1, rl, fr, u1, u2, u3⟩ hi ih
    dsimp only at rl fr u1 u2 u3 ⊢
    have k9 : F1 46 9 = F 46 9 := fr.2 9 (by decide) (by decide) (by decide) (by decide) (by decide)
    have k2 : F1 46 2 = F 46 2 := fr.2 2 (by decide) (by decide) (by decide) (by decide) (by decide)
    have g47 : G1 47 = G 47 := u1 47 (by decide)
    have ei : (i + 1).toNat = i.toNat + 1 := by omega
    have go : ∀ hi' : Int, hi' = (if i.toNat = 0 then 2 else 9999) → V_X5_readPlace_34 d S F1 G1 Q i hi' 0 (5 * F 46 9 + i) 49 := by
      intro hi' eh
      have hb : 0 ≤ hi' ∧ hi' ≤ 9999 := by rw [eh]; split <;> omega
      unfold V_X5_readPlace_34
      refine ⟨by omega, ok_readNumber (by omega) hsh rl (by omega) hb.1 (by omega) (fun F4 v r4 f4 v0 v1 ve => ⟨rfl, v, rfl, by omega, by omega, by rw [shc_n hsh 49 (by decide) (by decide)]; show 5 * F 46 9 + i < 150; omega, fun G10 e10 => ⟨by omega, ih (F4, G10) ⟨by omega, by omega, ?_, fr_tr fr f4, fun c hc => by show G10 c = G c; rw [e10, gu_row hc]; exact u1 c hc, fun k hk => by show G10 49 k = G 49 k; rw [e10, gu_i (by omega)]; exact u2 k hk, fun j hj => ?_⟩⟩⟩)⟩
      · show RelS F4 G10 (plN (G 47) (F 46 2) (i + 1).toNat s)
        rw [ei]
        rw [g47, k2] at r4
        refine rel_g (G := G1) (by rw [e10, gu_row (by decide)]) ?_
        show RelS F4 G1 (numS (G 47) (F 46 2) 0 (if i.toNat = 0 then 2 else 9999) (plN (G 47) (F 46 2) i.toNat s))
        rw [← eh]
        exact r4
      · show r32 (G10 49 (5 * F 46 9 + j)) ∧ _
        rw [ei]
        by_cases z : (j : Int) = i
        · have ej : j = i.toNat := by omega
          have eg : G10 49 (5 * F 46 9 + j) = v := by rw [z, e10, gu_s]
          show r32 (G10 49 (5 * F 46 9 + j)) ∧ (_ → G10 49 (5 * F 46 9 + j) = _)
          rw [eg]
          refine ⟨by omega, fun q => ?_⟩
          rw [ej]
          rw [g47, k2] at ve
          refine ve ?_
          have q' : (numS (G 47) (F 46 2) 0 (if i.toNat = 0 then 2 else 9999) (plN (G 47) (F 46 2) i.toNat s)).1 = 0 := q
          rw [← eh] at q'
          exact q'
        · have uj := u3 j (by omega)
          have eg : G10 49 (5 * F 46 9 + j) = G1 49 (5 * F 46 9 + j) := by rw [e10, gu_i (by omega)]
          show r32 (G10 49 (5 * F 46 9 + j)) ∧ (_ → G10 49 (5 * F 46 9 + j) = _)
          rw [eg]
          exact ⟨uj.1, fun q => uj.2 (numS_0 q).1⟩
    refine R_X5_readPlace_2 hsh ?_
    unfold V_X5_readPlace_2
    rw [k9]
    refine ⟨fun y => absurd y (by omega), fun _ => ⟨by omega, by omega, fun y => go 9999 (by rw [if_neg (by omega)]), fun y => go 2 (by rw [if_pos (by omega)])⟩⟩
  · rintro i ⟨F1, G1⟩ ⟨i0, i1, rl, fr, u1, u2, u3⟩ hi
    dsimp only at rl fr u1 u2 u3 ⊢
    have ei : i.toNat = 5 := by omega
    rw [ei] at rl u3
    refine R_X5_readPlace_2 hsh ?_
    unfold V_X5_readPlace_2
    exact ⟨fun _ => hq F1 G1 rl fr u1 u2 (fun j hj => u3 j (by omega)), fun y => absurd y (by omega)⟩
theorem ok_readAdded {d : Nat} {S : AS} {F : AF} {G : AG} (hd : 3 ≤ d) (hsh : ShC S) {s : PS} (h : RelS F G s) {Q : AQ} (hq : ∀ (F' : AF) (v : Int), RelS F' G (amS (G 47) (F 46 2) 0 s) → Fr46 F F' → -1000000000 ≤ v → v ≤ 1000000000 → ((amS (G 47) (F 46 2) 0 s).1 = 0 → v = amV (G 47) (F 46 2) 0 s) → Q (some (vJ v)) S F' G) : Ok d MX5_readAdded [vR 46] S F G Q := by
  classical
  obtain ⟨t, r1, r2, r3⟩ := id h
  obtain ⟨h1, h2, h3, h4, h5, h6⟩ := id t
  have sg : s.1 = 0 → ((F 46 3 = 3 ∧ G 47 (F 46 4) = 45) ↔ sgn (G 47) (F 46 2) s) := by
    intro z
    have e4 := (r3 z).1
    unfold sgn
    rw [← e4, h5]
    constructor
    · rintro ⟨a, b⟩
      exact ⟨z, (kd_3.mp a).2.1, b⟩
    · rintro ⟨-, a, b⟩
      exact ⟨kd_3.mpr ⟨h3, a, by omega, by omega⟩, b⟩
  refine ok_go rfl (by decide) (Nat.le_of_ble_eq_true rfl) (R_X5_readAdded_0 hsh ?_)
  unfold V_X5_readAdded_0
  refine ⟨by omega, _, pu_isSign hsh t 45, fun y => ?_, fun y => ?_⟩
  · have yy : F 46 3 = 3 ∧ G 47 (F 46 4) = 45 := Classical.byContradiction (fun z => y (bI_f z))
    refine ok_stepR (by omega) hsh h (fun F1 q1 f1 => ⟨rfl, rfl, ok_readNumber (by omega) hsh q1 (by omega) (by omega) (by omega) (fun F2 v q2 f2 v0 v1 ve => ⟨rfl, v, rfl, by omega, ?_⟩)⟩)
    have k2 : F1 46 2 = F 46 2 := f1.2 2 (by decide) (by decide) (by decide) (by decide) (by decide)
    rw [k2] at q2 ve
    have ea : amS (G 47) (F 46 2) 0 s = numS (G 47) (F 46 2) 1 1000000000 (if ¬ s.1 = 0 then s else (0, s.2.1, F 46 5)) := by
      unfold amS
      rw [if_pos rfl]
      by_cases z : s.1 = 0
      · have sg' := (sg z).mp yy
        have e5 : F 46 5 = sk (G 47) (F 46 2) s.2.2 + 1 := by
          rw [h6, ← (r3 z).1]
          unfold te
          rw [← h5, yy.1, if_neg (by decide), if_pos rfl]
        rw [if_pos sg', if_neg (fun q => q z), e5, z]
      · rw [if_neg (fun q => z q.1), if_pos z]
    refine hq F2 (-v) (by rw [ea]; exact q2) (fr_tr f1 f2) (by omega) (by omega) (fun q => ?_)
    rw [ea] at q
    have z : s.1 = 0 := Classical.byContradiction (fun z => by
      have := (numS_0 q).1
      rw [if_pos z] at this
      exact z this)
    have e5 : F 46 5 = sk (G 47) (F 46 2) s.2.2 + 1 := by
      rw [h6, ← (r3 z).1]
      unfold te
      rw [← h5, yy.1, if_neg (by decide), if_pos rfl]
    have := ve q
    rw [if_neg (fun q => q z)] at this
    unfold amV
    rw [if_pos ⟨rfl, (sg z).mp yy⟩, this]
    show -vl (G 47) (F 46 2) (sk (G 47) (F 46 2) (F 46 5)) = _
    rw [e5]
  · have yy : ¬ (F 46 3 = 3 ∧ G 47 (F 46 4) = 45) := bI_0.mp y
    have nsg : ¬ sgn (G 47) (F 46 2) s := fun q => yy ((sg q.1).mpr q)
    have ea : amS (G 47) (F 46 2) 0 s = numS (G 47) (F 46 2) 1 1000000000 s := by
      unfold amS
      rw [if_pos rfl, if_neg nsg]
    refine ok_readNumber (by omega) hsh h (by omega) (by omega) (by omega) (fun F2 v q2 f2 v0 v1 ve => ⟨rfl, v, rfl, hq F2 v (by rw [ea]; exact q2) f2 (by omega) (by omega) (fun q => ?_)⟩)
    rw [ea] at q
    unfold amV
    rw [if_neg (fun z => nsg z.2)]
    exact ve q
/-- what is kept of an act -/
def RowS (tp : Int → Int) (n : Int) (G : AG) (k p : Int) : Prop := G 48 k = wd tp n (sk tp n p) ∧ (wd tp n (sk tp n p) < 2 → (∀ i : Nat, i < 5 → G 49 (5 * k + i) = vl tp n (sk tp n (plN tp n i (0, -1, te tp n (sk tp n p))).2.2)) ∧ G 50 k = amV tp n (wd tp n (sk tp n p)) (plN tp n 5 (0, -1, te tp n (sk tp n p))))
theorem row_cg {tp : Int → Int} {n : Int} {G G' : AG} {k p m : Int} (km : k < m) (h : RowS tp n G k p) (e1 : ∀ j : Int, j ≠ m → G' 48 j = G 48 j) (e2 : ∀ j : Int, (j < 5 * m ∨ 5 * m + 5 ≤ j) → G' 49 j = G 49 j) (e3 : ∀ j : Int, j ≠ m → G' 50 j = G 50 j) : RowS tp n G' k p := by
  refine ⟨by rw [e1 k (by omega)]; exact h.1, fun w => ⟨fun i hi => by rw [e2 _ (by omega)]; exact (h.2 w).1 i hi, by rw [e3 k (by omega)]; exact (h.2 w).2⟩⟩
/-- the words, as the system knows them -/
def KWs (S : AS) : Prop := ∀ (d : Nat) (F : AF) (G : AG), 8 ≤ d → TokOK F G → Pu d MX5_kindOfWord [vR 46] S F G (some (vI (wd (G 47) (F 46 2) (F 46 4))))
def Fr9 (F F' : AF) : Prop := (∀ c : Nat, c ≠ 46 → F' c = F c) ∧ ∀ k : Nat, k ≠ 3 → k ≠ 4 → k ≠ 5 → k ≠ 9 → k ≠ 10 → k ≠ 11 → F' 46 k = F 46 k
theorem fr9 {F F' : AF} (h : Fr46 F F') : Fr9 F F' := ⟨h.1, fun k a b c _ e f => h.2 k a b c e f⟩
theorem amS_0 {tp : Int → Int} {n k : Int} {s : PS} (h : (amS tp n k s).1 = 0) : s.1 = 0 := by
  classical
  unfold amS at h
  by_cases w : k = 0
  · rw [if_pos w] at h
    have := (numS_0 h).1
    by_cases z : sgn tp n s
    · exact z.1
    · rw [if_neg z] at this
      exact this
  · rw [if_neg w] at h
    exact (numS_0 h).1
theorem smS_0 {tp : Int → Int} {n : Int} {s : PS} (h : (smS tp n s).1 = 0) : s.1 = 0 := by
  unfold smS at h
  by_cases w : s.1 = 0
  · exact w
  · rw [if_pos w] at h
    exact h
theorem ok_sreadAct {d : Nat} {S : AS} {F : AF} {G : AG} (hd : 9 ≤ d) (hsh : ShC S) (kw : KWs S) {p : Int} (h : RelS F G (0, -1, p)) (m0 : 0 ≤ F 46 9) (m1 : F 46 9 ≤ 30) {Q : AQ} (hq : ∀ (F' : AF) (G' : AG), RelS F' G' (acS (G 47) (F 46 2) (F 46 9) p) → Fr9 F F' → (∀ c : Nat, c ≠ 48 → c ≠ 49 → c ≠ 50 → G' c = G c) → (∀ j : Int, j ≠ F 46 9 → G' 48 j = G 48 j) → (∀ j : Int, (j < 5 * F 46 9 ∨ 5 * F 46 9 + 5 ≤ j) → G' 49 j = G 49 j) → (∀ j : Int, j ≠ F 46 9 → G' 50 j = G 50 j) → ((acS (G 47) (F 46 2) (F 46 9) p).1 = 0 → F' 46 9 = F 46 9 + 1 ∧ F 46 9 < 30 ∧ RowS (G 47) (F 46 2) G' (F 46 9) p) → Q none S F' G') : Ok d MX5_readAct [vR 46] S F G Q := by
  obtain ⟨t, r1, r2, r3⟩ := id h
  obtain ⟨h1, h2, h3, h4, h5, h6⟩ := id t
  have t5 := tok_5 t
  have e4 : F 46 4 = sk (G 47) (F 46 2) p := (r3 rfl).1
  have r1' : F 46 10 = 0 := r1
  have kwp := kw (d - 1) F G (by omega) t
  rw [e4] at kwp
  have wr := wd_r (G 47) (F 46 2) (sk (G 47) (F 46 2) p)
  generalize hW : wd (G 47) (F 46 2) (sk (G 47) (F 46 2) p) = W at *
  -- a fault at the word
  have bl : ∀ w : Int, ¬ w = 0 → acS (G 47) (F 46 2) (F 46 9) p = (w, sk (G 47) (F 46 2) p, p) → Ok (d - 1) MX5_blame [vR 46, vI w] S F G (fun w2 S3 F4 G5 => S3 = S ∧ w2 = none ∧ Q none S F4 G5) := by
    intro w w0 ea
    refine ok_blame hsh w0 h (fun F' q1 q2 => ⟨rfl, rfl, hq F' G ?_ (fr9 q2) (fun _ _ _ _ => rfl) (fun _ _ => rfl) (fun _ _ => rfl) (fun _ _ => rfl) (fun z => ?_)⟩)
    · rw [ea]
      rw [if_neg (fun z => z rfl), e4] at q1
      exact q1
    · rw [ea] at z
      exact absurd z w0
  refine ok_go rfl (by decide) (Nat.le_of_ble_eq_true rfl) (R_X5_readAct_0 hsh ?_)
  unfold V_X5_readAct_0
  refine ⟨by omega, W, kwp, fun y => ⟨fun y2 => ?_, fun y2 => bl 3 (by decide) ?_⟩, fun y => bl 1 (by decide) ?_⟩
  · -- the act itself
    refine ok_stepR (by omega) hsh h (fun F1 q1 f1 => ⟨rfl, rfl, ?_⟩)
    rw [if_neg (fun z => z rfl)] at q1
    have k9 : F1 46 9 = F 46 9 := f1.2 9 (by decide) (by decide) (by decide) (by decide) (by decide)
    have k2 : F1 46 2 = F 46 2 := f1.2 2 (by decide) (by decide) (by decide) (by decide) (by decide)
    have e5 : F 46 5 = te (G 47) (F 46 2) (sk (G 47) (F 46 2) p) := by rw [h6, e4]
    rw [e5] at q1
    rw [k9]
    refine ⟨m0, by omega, fun G14 e14 => ?_⟩
    have g14 : G14 47 = G 47 := by rw [e14, gu_row (by decide)]
    have ea : acS (G 47) (F 46 2) (F 46 9) p = smS (G 47) (F 46 2) (if W < 2 then amS (G 47) (F 46 2) W (plN (G 47) (F 46 2) 5 (0, -1, te (G 47) (F 46 2) (sk (G 47) (F 46 2) p))) else (0, -1, te (G 47) (F 46 2) (sk (G 47) (F 46 2) p))) := by
      unfold acS
      rw [hW, if_neg y, if_neg (by omega)]
    -- the end of an act
    have semi : ∀ (F2 : AF) (G2 : AG) (s : PS), RelS F2 G2 s → Fr46 F F2 → (∀ c : Nat, c ≠ 48 → c ≠ 49 → c ≠ 50 → G2 c = G c) → (∀ j : Int, j ≠ F 46 9 → G2 48 j = G 48 j) → (∀ j : Int, (j < 5 * F 46 9 ∨ 5 * F 46 9 + 5 ≤ j) → G2 49 j = G 49 j) → (∀ j : Int, j ≠ F 46 9 → G2 50 j = G 50 j) → acS (G 47) (F 46 2) (F 46 9) p = smS (G 47) (F 46 2) s → (s.1 = 0 → RowS (G 47) (F 46 2) G2 (F 46 9) p) → V_X5_readAct_86 d S F2 G2 Q W := by
      intro F2 G2 s rl fr u1 u48 u49 u50 eA row
      obtain ⟨t2, b1, b2, b3⟩ := id rl
      have g47 : G2 47 = G 47 := u1 47 (by decide) (by decide) (by decide)
      have n2 : F2 46 2 = F 46 2 := fr.2 2 (by decide) (by decide) (by decide) (by decide) (by decide)
      have n9 : F2 46 9 = F 46 9 := fr.2 9 (by decide) (by decide) (by decide) (by decide) (by decide)
      have sg : s.1 = 0 → ((F2 46 3 = 3 ∧ G2 47 (F2 46 4) = 59) ↔ (sk (G 47) (F 46 2) s.2.2 < F 46 2 ∧ G 47 (sk (G 47) (F 46 2) s.2.2) = 59)) := by
        intro z
        have q4 := (b3 z).1
        rw [g47, n2] at q4
        rw [t2.2.2.2.2.1, g47, n2, q4]
        have p0 : 0 ≤ sk (G 47) (F 46 2) s.2.2 := by rw [← q4]; exact t2.2.2.1
        constructor
        · rintro ⟨a, b⟩
          exact ⟨(kd_3.mp a).2.1, b⟩
        · rintro ⟨a, b⟩
          exact ⟨kd_3.mpr ⟨p0, a, by omega, by omega⟩, b⟩
      unfold V_X5_readAct_86
      refine ⟨by omega, _, pu_isSign hsh t2 59, fun z => ?_, fun z => ?_⟩
      · have zz : F2 46 3 = 3 ∧ G2 47 (F2 46 4) = 59 := Classical.byContradiction (fun q => z (bI_f q))
        refine ok_stepR (by omega) hsh rl (fun F3 q3 f3 => ⟨rfl, rfl, ?_⟩)
        have n93 : F3 46 9 = F 46 9 := (f3.2 9 (by decide) (by decide) (by decide) (by decide) (by decide)).trans n9
        refine ⟨by omega, fun F13 e13 => ?_⟩
        have em : smS (G 47) (F 46 2) s = (if ¬ s.1 = 0 then s else (0, s.2.1, F2 46 5)) := by
          unfold smS
          by_cases w : s.1 = 0
          · have q4 := (b3 w).1
            rw [g47, n2] at q4
            have q5 : F2 46 5 = sk (G 47) (F 46 2) s.2.2 + 1 := by
              rw [t2.2.2.2.2.2]
              unfold te
              rw [← t2.2.2.2.2.1, zz.1, if_neg (by decide), if_pos rfl, q4]
            rw [if_neg (fun q => q w), if_pos ((sg w).mp zz), if_neg (fun q => q w), q5]
          · rw [if_pos w, if_pos w]
        refine hq F13 G2 ?_ ⟨fun c hc => by rw [e13, fu_row hc, f3.1 c hc]; exact fr.1 c hc, fun k a1 a2 a3 a9 a4 a5 => by rw [e13, fu_k a9, f3.2 k a1 a2 a3 a4 a5]; exact fr.2 k a1 a2 a3 a4 a5⟩ u1 u48 u49 u50 (fun q => ⟨by rw [e13, fu_s, n93], by omega, row ?_⟩)
        · rw [eA, em]
          unfold RelS TokOK at q3 ⊢
          rw [e13, fu_k (by decide), fu_k (by decide), fu_k (by decide), fu_k (by decide), fu_k (by decide), fu_k (by decide)]
          exact q3
        · rw [eA] at q
          exact smS_0 q
      · have zz : ¬ (F2 46 3 = 3 ∧ G2 47 (F2 46 4) = 59) := bI_0.mp z
        refine ok_blame hsh (by decide) rl (fun F3 q3 f3 => ⟨rfl, rfl, ?_⟩)
        have em : smS (G 47) (F 46 2) s = (if ¬ s.1 = 0 then s else (1, F2 46 4, s.2.2)) := by
          unfold smS
          by_cases w : s.1 = 0
          · have q4 := (b3 w).1
            rw [g47, n2] at q4
            rw [if_neg (fun q => q w), if_neg (fun q => zz ((sg w).mpr q)), if_neg (fun q => q w), q4]
          · rw [if_pos w, if_pos w]
        refine hq F3 G2 (by rw [eA, em]; exact q3) (fr9 (fr_tr fr f3)) u1 u48 u49 u50 (fun q => ?_)
        rw [eA, em] at q
        by_cases w : s.1 = 0
        · rw [if_neg (fun q => q w)] at q
          exact absurd (show (1 : Int) = 0 from q) (by decide)
        · rw [if_pos w] at q
          exact absurd q w
    -- a place, and how many
    have both : W < 2 → 0 ≤ W → V_X5_readAct_54 d S F1 G14 Q W := by
      intro w2 w0
      unfold V_X5_readAct_54
      have q1' : RelS F1 G14 (0, -1, te (G 47) (F 46 2) (sk (G 47) (F 46 2) p)) := rel_g g14 q1
      refine ⟨by omega, ok_readPlace (by omega) hsh q1' (by omega) (by omega) (fun F2 G2 q2 f2 u1 u2 u3 => ⟨rfl, rfl, ?_⟩)⟩
      rw [g14, k2] at q2
      rw [k9] at u2
      rw [g14, k2, k9] at u3
      have n2 : F2 46 2 = F 46 2 := (f2.2 2 (by decide) (by decide) (by decide) (by decide) (by decide)).trans k2
      have n9 : F2 46 9 = F 46 9 := (f2.2 9 (by decide) (by decide) (by decide) (by decide) (by decide)).trans k9
      have g2 : G2 47 = G 47 := (u1 47 (by decide)).trans g14
      have last : ∀ (F3 : AF) (v : Int), RelS F3 G2 (amS (G 47) (F 46 2) W (plN (G 47) (F 46 2) 5 (0, -1, te (G 47) (F 46 2) (sk (G 47) (F 46 2) p)))) → Fr46 F2 F3 → ((amS (G 47) (F 46 2) W (plN (G 47) (F 46 2) 5 (0, -1, te (G 47) (F 46 2) (sk (G 47) (F 46 2) p)))).1 = 0 → v = amV (G 47) (F 46 2) W (plN (G 47) (F 46 2) 5 (0, -1, te (G 47) (F 46 2) (sk (G 47) (F 46 2) p)))) → V_X5_readAct_85 d S F3 G2 Q W v (F 46 9) 50 := by
        intro F3 v q3 f3 ev
        unfold V_X5_readAct_85
        refine ⟨m0, by rw [shc_n hsh 50 (by decide) (by decide)]; show F 46 9 < 30; omega, fun G3 e3 => ?_⟩
        refine semi F3 G3 _ (rel_g (by rw [e3, gu_row (by decide)]) q3) (fr_tr (fr_tr f1 f2) f3) (fun c c48 c49 c50 => ?_) (fun j hj => ?_) (fun j hj => ?_) (fun j hj => ?_) (by rw [ea, if_pos w2]) (fun z => ?_)
        · rw [e3, gu_row c50, u1 c c49, e14, gu_row c48]
        · rw [e3, gu_c (by decide), u1 48 (by decide), e14, gu_i hj]
        · rw [e3, gu_c (by decide), u2 j hj, e14, gu_c (by decide)]
        · rw [e3, gu_i hj, u1 50 (by decide), e14, gu_c (by decide)]
        · refine ⟨?_, fun _ => ⟨fun i hi => ?_, ?_⟩⟩
          · rw [hW, e3, gu_c (by decide), u1 48 (by decide), e14, gu_s]
          · rw [e3, gu_c (by decide)]
            exact (u3 i hi).2 (amS_0 z)
          · rw [hW, e3, gu_s]
            exact ev z
      rw [n9]
      refine ⟨fun z => ?_, fun z => ?_⟩
      · have w1 : W = 1 := by omega
        have ew : amS (G 47) (F 46 2) W (plN (G 47) (F 46 2) 5 (0, -1, te (G 47) (F 46 2) (sk (G 47) (F 46 2) p))) = numS (G 47) (F 46 2) 1 3000000000000000000 (plN (G 47) (F 46 2) 5 (0, -1, te (G 47) (F 46 2) (sk (G 47) (F 46 2) p))) := by
          unfold amS
          rw [if_neg z]
        refine ok_readNumber (by omega) hsh q2 (by omega) (by omega) (by omega) (fun F3 v q3 f3 v0 v1 ve => ⟨rfl, v, rfl, last F3 v ?_ f3 (fun q => ?_)⟩)
        · rw [g2, n2] at q3
          rw [ew]; exact q3
        · rw [g2, n2] at ve
          rw [ew] at q
          rw [ve q]
          unfold amV
          rw [if_neg (fun y => z y.1)]
      · subst z
        refine ok_readAdded (by omega) hsh q2 (fun F3 v q3 f3 v0 v1 ve => ⟨rfl, v, rfl, last F3 v ?_ f3 (fun q => ?_)⟩)
        · rw [g2, n2] at q3
          exact q3
        · rw [g2, n2] at ve
          exact ve q
    refine ⟨fun z => both (by omega) (by omega), fun z => ⟨fun z2 => ?_, fun z2 => both (by omega) (by omega)⟩⟩
    refine semi F1 G14 _ (rel_g g14 q1) f1 (fun c c48 _ _ => by rw [e14, gu_row c48]) (fun j hj => by rw [e14, gu_i hj]) (fun j _ => by rw [e14, gu_c (by decide)]) (fun j _ => by rw [e14, gu_c (by decide)]) (by rw [ea, if_neg (by omega)]) (fun _ => ⟨?_, fun w => ?_⟩)
    · rw [hW, e14, gu_s]
    · rw [hW] at w
      omega
  · unfold acS
    rw [hW, if_neg y, if_pos (by omega)]
  · unfold acS
    rw [hW, if_pos y]
