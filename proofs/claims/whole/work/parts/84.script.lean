/-! THE SYSTEM'S SCRIPT, all of it -/
theorem iB_in (x : Int) : -128 ≤ iB x ∧ iB x < 128 := by
  unfold iB
  rw [Int8.toInt_toInt32]
  have h1 := Int8.le_toInt ((Int32.ofInt x).toInt8)
  have h2 := Int8.toInt_lt ((Int32.ofInt x).toInt8)
  exact ⟨by simpa using h1, by simpa using h2⟩
theorem pu_hasRoomS {d : Nat} {S : AS} {F : AF} {G : AG} (hsh : ShC S) (h0 : 0 ≤ F 46 1) (h1 : F 46 1 ≤ 500) : Pu d MX5_hasRoom [vR 46] S F G (some (vI (bI (F 46 1 + 20 ≤ 500)))) := by
  refine ok_go rfl (by decide) (Nat.le_of_ble_eq_true rfl) (R_X5_hasRoom_0 hsh ?_)
  unfold V_X5_hasRoom_0
  exact ⟨by omega, fun y => ⟨by rw [bI_f (by omega)], rfl, rfl, rfl⟩, fun y => ⟨by rw [bI_t (by omega)], rfl, rfl, rfl⟩⟩
/-- four bytes more on a tape -/
def put4 (G : AG) (c : Nat) (f a : Int) : AG := gu (gu (gu (gu G c f (iB (bShr a 24))) c (f + 1) (iB (bShr a 16))) c (f + 2) (iB (bShr a 8))) c (f + 3) (iB (bShr a 0))
theorem ok_sputT {d : Nat} {S : AS} {F : AF} {G : AG} (hsh : ShC S) (h0 : 0 ≤ F 46 1) (h1 : F 46 1 + 4 ≤ 500) (a : Int) {Q : AQ} (hq : Q none S (fu F 46 1 (F 46 1 + 4)) (put4 G 47 (F 46 1) a)) : Ok d MX5_put [vR 46, vI a] S F G Q := by
  have e1 : (24 : Int) + (-8) = 16 := by decide
  have e2 : (16 : Int) + (-8) = 8 := by decide
  have e3 : (8 : Int) + (-8) = 0 := by decide
  refine ok_go rfl (by decide) (Nat.le_of_ble_eq_true rfl) (R_X5_put_0 hsh ?_)
  unfold V_X5_put_0
  refine R_X5_put_3 hsh ?_
  unfold V_X5_put_3
  refine ⟨fun y => absurd y (by omega), fun _ => ⟨fun y => absurd y (by omega), fun _ => ⟨h0, by omega, iB_in _, fun G1 g1 => ⟨by omega, fun F1 f1 => ⟨by omega, ?_⟩⟩⟩⟩⟩
  have k1 : F1 46 1 = F 46 1 + 1 := by rw [f1, fu_s]
  rw [e1]
  refine R_X5_put_3 hsh ?_
  unfold V_X5_put_3
  rw [k1]
  refine ⟨fun y => absurd y (by omega), fun _ => ⟨fun y => absurd y (by omega), fun _ => ⟨by omega, by omega, iB_in _, fun G2 g2 => ⟨by omega, fun F2 f2 => ⟨by omega, ?_⟩⟩⟩⟩⟩
  have k2 : F2 46 1 = F 46 1 + 2 := by rw [f2, fu_s]; omega
  rw [e2]
  refine R_X5_put_3 hsh ?_
  unfold V_X5_put_3
  rw [k2]
  refine ⟨fun y => absurd y (by omega), fun _ => ⟨fun y => absurd y (by omega), fun _ => ⟨by omega, by omega, iB_in _, fun G3 g3 => ⟨by omega, fun F3 f3 => ⟨by omega, ?_⟩⟩⟩⟩⟩
  have k3 : F3 46 1 = F 46 1 + 3 := by rw [f3, fu_s]; omega
  rw [e3]
  refine R_X5_put_3 hsh ?_
  unfold V_X5_put_3
  rw [k3]
  refine ⟨fun y => absurd y (by omega), fun _ => ⟨fun y => absurd y (by omega), fun _ => ⟨by omega, by omega, iB_in _, fun G4 g4 => ⟨by omega, fun F4 f4 => ⟨by omega, ?_⟩⟩⟩⟩⟩
  refine R_X5_put_3 hsh ?_
  unfold V_X5_put_3
  refine ⟨fun _ => ?_, fun y => absurd (by decide : (0 : Int) + (-8) < 0) y⟩
  have eF : F4 = fu F 46 1 (F 46 1 + 4) := by
    rw [f4, f3, f2, f1, fu_fu, fu_fu, fu_fu]
    congr 1
    omega
  have eG : G4 = put4 G 47 (F 46 1) a := by
    rw [g4, g3, g2, g1]
    rfl
  rw [eF, eG]
  exact hq
theorem pu_kind {d : Nat} {S : AS} {F : AF} {G : AG} (hsh : ShC S) {k : Int} (k0 : 0 ≤ k) (k1 : k < F 46 9) (h : F 46 9 ≤ 30) : Pu d MX5_kind [vR 46, vI k] S F G (some (vI (G 48 k))) := by
  refine ok_go rfl (by decide) (Nat.le_of_ble_eq_true rfl) (R_X5_kind_0 hsh ?_)
  unfold V_X5_kind_0
  exact ⟨fun y => absurd y (by omega), fun _ => ⟨fun y => absurd y (by omega), fun _ => ⟨k0, by omega, rfl, rfl, rfl, rfl⟩⟩⟩
theorem pu_amount {d : Nat} {S : AS} {F : AF} {G : AG} (hsh : ShC S) {k : Int} (k0 : 0 ≤ k) (k1 : k < F 46 9) (h : F 46 9 ≤ 30) : Pu d MX5_amount [vR 46, vI k] S F G (some (vJ (G 50 k))) := by
  refine ok_go rfl (by decide) (Nat.le_of_ble_eq_true rfl) (R_X5_amount_0 hsh ?_)
  unfold V_X5_amount_0
  exact ⟨fun y => absurd y (by omega), fun _ => ⟨fun y => absurd y (by omega), fun _ => ⟨k0, by omega, rfl, rfl, rfl, rfl⟩⟩⟩
theorem pu_numberS {d : Nat} {S : AS} {F : AF} {G : AG} (hsh : ShC S) {k i : Int} (k0 : 0 ≤ k) (k1 : k < F 46 9) (h : F 46 9 ≤ 30) (i0 : 0 ≤ i) (i1 : i < 5) : Pu d MX5_number [vR 46, vI k, vI i] S F G (some (vI (G 49 (5 * k + i)))) := by
  refine ok_go rfl (by decide) (Nat.le_of_ble_eq_true rfl) (R_X5_number_0 hsh ?_)
  unfold V_X5_number_0
  exact ⟨fun y => absurd y (by omega), fun _ => ⟨fun y => absurd y (by omega), fun _ => ⟨fun y => absurd y (by omega), fun _ => ⟨fun y => absurd y (by omega), fun _ => ⟨by omega, by omega, by omega, by omega, rfl, rfl, rfl, rfl⟩⟩⟩⟩⟩
def RdQ (F F' : AF) (G G' : AG) (n : Int) (K : Nat) (w a : Int) : Prop := Res (G 47) n K w a ∧ K ≤ 30 ∧ F' 46 10 = w ∧ F' 46 11 = a ∧ (∀ c : Nat, c ≠ 46 → F' c = F c) ∧ F' 46 1 = F 46 1 ∧ (∀ c : Nat, c ≠ 48 → c ≠ 49 → c ≠ 50 → G' c = G c) ∧ (w = 0 → F' 46 9 = K ∧ ∀ k : Nat, k < K → RowS (G 47) n G' k (Pn (G 47) n k)) ∧ (w = 0 ∨ w = 1 ∨ w = 2 ∨ w = 3)
theorem numS_w {tp : Int → Int} {n lo hi : Int} {s : PS} (h : 0 ≤ s.1 ∧ s.1 ≤ 3) : 0 ≤ (numS tp n lo hi s).1 ∧ (numS tp n lo hi s).1 ≤ 3 := by
  unfold numS
  by_cases w : s.1 = 0
  · rw [if_neg (fun z => z w)]
    by_cases w2 : nmW tp n lo hi s.2.2 = 0
    · rw [if_neg (fun z => z w2)]
      exact ⟨by show (0 : Int) ≤ 0; omega, by show (0 : Int) ≤ 3; omega⟩
    · rw [if_pos w2]
      show 0 ≤ nmW tp n lo hi s.2.2 ∧ nmW tp n lo hi s.2.2 ≤ 3
      unfold nmW
      split
      · omega
      · split <;> omega
  · rw [if_pos w]; exact h
theorem plN_w {tp : Int → Int} {n : Int} {s : PS} (h : 0 ≤ s.1 ∧ s.1 ≤ 3) : ∀ k : Nat, 0 ≤ (plN tp n k s).1 ∧ (plN tp n k s).1 ≤ 3 := by
  intro k
  induction k with
  | zero => exact h
  | succ k ih => exact numS_w ih
theorem acS_w (tp : Int → Int) (n m p : Int) : 0 ≤ (acS tp n m p).1 ∧ (acS tp n m p).1 ≤ 3 := by
  classical
  have smw : ∀ s : PS, (0 ≤ s.1 ∧ s.1 ≤ 3) → 0 ≤ (smS tp n s).1 ∧ (smS tp n s).1 ≤ 3 := by
    intro s h
    unfold smS
    by_cases w : s.1 = 0
    · rw [if_neg (fun z => z w)]
      split
      · exact ⟨by show (0 : Int) ≤ 0; omega, by show (0 : Int) ≤ 3; omega⟩
      · exact ⟨by show (0 : Int) ≤ 1; omega, by show (1 : Int) ≤ 3; omega⟩
    · rw [if_pos w]; exact h
  have z0 : ∀ q : Int, 0 ≤ ((0, -1, q) : PS).1 ∧ ((0, -1, q) : PS).1 ≤ 3 := fun q => ⟨by show (0 : Int) ≤ 0; omega, by show (0 : Int) ≤ 3; omega⟩
  unfold acS
  split
  · exact ⟨by show (0 : Int) ≤ 1; omega, by show (1 : Int) ≤ 3; omega⟩
  · split
    · exact ⟨by show (0 : Int) ≤ 3; omega, by show (3 : Int) ≤ 3; omega⟩
    · refine smw _ ?_
      split
      · unfold amS
        split
        · refine numS_w ?_
          split
          · exact plN_w (z0 _) 5
          · exact plN_w (z0 _) 5
        · exact numS_w (plN_w (z0 _) 5)
      · exact z0 _
theorem numS_a {tp : Int → Int} {n lo hi : Int} {s : PS} (h : (numS tp n lo hi s).1 = 0) : (numS tp n lo hi s).2.1 = s.2.1 := by
  rw [(numS_0 h).2.2]
theorem plN_a {tp : Int → Int} {n : Int} {s : PS} : ∀ k : Nat, (plN tp n k s).1 = 0 → (plN tp n k s).2.1 = s.2.1 := by
  intro k
  induction k with
  | zero => intro _; rfl
  | succ k ih =>
    intro h
    have := numS_a h
    exact this.trans (ih (numS_0 h).1)
theorem acS_a {tp : Int → Int} {n m p : Int} (h : (acS tp n m p).1 = 0) : (acS tp n m p).2.1 = -1 ∧ m < 30 := by
  classical
  have sma : ∀ s : PS, (smS tp n s).1 = 0 → (smS tp n s).2.1 = s.2.1 := by
    intro s h
    have z := smS_0 h
    unfold smS at h ⊢
    rw [if_neg (fun y => y z)] at h ⊢
    by_cases w : sk tp n s.2.2 < n ∧ tp (sk tp n s.2.2) = 59
    · rw [if_pos w]
    · rw [if_neg w] at h
      exact absurd (show (1 : Int) = 0 from h) (by decide)
  unfold acS at h ⊢
  by_cases w : wd tp n (sk tp n p) = -1
  · rw [if_pos w] at h
    exact absurd (show (1 : Int) = 0 from h) (by decide)
  rw [if_neg w] at h ⊢
  by_cases w2 : 30 ≤ m
  · rw [if_pos w2] at h
    exact absurd (show (3 : Int) = 0 from h) (by decide)
  rw [if_neg w2] at h ⊢
  refine ⟨?_, by omega⟩
  rw [sma _ h]
  have h' := smS_0 h
  by_cases w3 : wd tp n (sk tp n p) < 2
  · rw [if_pos w3] at h' ⊢
    unfold amS at h' ⊢
    by_cases w4 : wd tp n (sk tp n p) = 0
    · rw [if_pos w4] at h' ⊢
      rw [numS_a h']
      have h2 := (numS_0 h').1
      by_cases w5 : sgn tp n (plN tp n 5 (0, -1, te tp n (sk tp n p)))
      · rw [if_pos w5] at h2 ⊢
        exact plN_a 5 h2
      · rw [if_neg w5] at h2 ⊢
        exact plN_a 5 h2
    · rw [if_neg w4] at h' ⊢
      rw [numS_a h']
      exact plN_a 5 (numS_0 h').1
  · rw [if_neg w3]
theorem ok_sread {d : Nat} {S : AS} {F : AF} {G : AG} (hd : 10 ≤ d) (hsh : ShC S) (kw : KWs S) {n : Int} (n0 : 0 ≤ n) (n1 : n ≤ F 46 1) (n2 : F 46 1 ≤ 500) {Q : AQ} (hq : ∀ (F' : AF) (G' : AG) (K : Nat) (w a : Int), RdQ F F' G G' n K w a → Q (some (vI w)) S F' G') : Ok d MX5_read [vR 46, vI n] S F G Q := by
  refine ok_go rfl (by decide) (Nat.le_of_ble_eq_true rfl) (R_X5_read_0 hsh ?_)
  unfold V_X5_read_0
  refine ⟨by omega, fun F2 e2 F3 e3 F4 e4 F5 e5 F6 e6 => ?_⟩
  have k2 : F6 46 2 = n := by
    rw [e6, fu_k (by decide), e5, fu_k (by decide), e4, fu_k (by decide), e3, fu_k (by decide), e2, fu_s]
    omega
  have k5 : F6 46 5 = 0 := by rw [e6, fu_k (by decide), e5, fu_k (by decide), e4, fu_k (by decide), e3, fu_s]
  have k9 : F6 46 9 = 0 := by rw [e6, fu_k (by decide), e5, fu_k (by decide), e4, fu_s]
  have k10 : F6 46 10 = 0 := by rw [e6, fu_k (by decide), e5, fu_s]
  have k11 : F6 46 11 = -1 := by rw [e6, fu_s]
  have k1 : F6 46 1 = F 46 1 := by rw [e6, fu_k (by decide), e5, fu_k (by decide), e4, fu_k (by decide), e3, fu_k (by decide), e2, fu_k (by decide)]
  have kc : ∀ c : Nat, c ≠ 46 → F6 c = F c := fun c hc => by rw [e6, fu_row hc, e5, fu_row hc, e4, fu_row hc, e3, fu_row hc, e2, fu_row hc]
  refine ok_step (by omega) hsh (by omega) (by omega) (by omega) (by omega) (fun _ F9 st => ⟨rfl, rfl, ?_⟩) (fun y => absurd k10 y)
  obtain ⟨q1, q2, q3, q4, q5⟩ := st
  have m2 : F9 46 2 = n := (q2 2 (by decide) (by decide) (by decide)).trans k2
  have m9 : F9 46 9 = 0 := (q2 9 (by decide) (by decide) (by decide)).trans k9
  rw [k2, k5] at q3
  rw [k2] at q4 q5
  have sp := sk_sp (G 47) n 0
  have rel0 : RelS F9 G (0, -1, Pn (G 47) n 0) := by
    refine ⟨⟨by omega, by omega, by omega, by omega, by rw [m2]; exact q4, by rw [m2]; exact q5⟩, (q2 10 (by decide) (by decide) (by decide)).trans k10, (q2 11 (by decide) (by decide) (by decide)).trans k11, fun _ => ⟨by rw [m2]; exact q3, by show (0 : Int) ≤ 0; omega, by show (0 : Int) ≤ 500; omega⟩⟩
  refine up_ind (α := AF × AG) 30 (fun i A => 0 ≤ i ∧ i ≤ 31 ∧ A.1 46 2 = n ∧ A.1 46 1 = F 46 1 ∧ (∀ c : Nat, c ≠ 46 → A.1 c = F c) ∧ (∀ c : Nat, c ≠ 48 → c ≠ 49 → c ≠ 50 → A.2 c = G c) ∧ ((RelS A.1 A.2 (0, -1, Pn (G 47) n i.toNat) ∧ A.1 46 9 = i ∧ i ≤ 30 ∧ (∀ k : Nat, k < i.toNat → ¬ kd (G 47) n (sk (G 47) n (Pn (G 47) n k)) = 0 ∧ (acS (G 47) n k (Pn (G 47) n k)).1 = 0) ∧ ∀ k : Nat, k < i.toNat → RowS (G 47) n A.2 k (Pn (G 47) n k)) ∨ ∃ (K : Nat) (w a : Int), ¬ w = 0 ∧ Res (G 47) n K w a ∧ K ≤ 30 ∧ A.1 46 10 = w ∧ A.1 46 11 = a ∧ (w = 1 ∨ w = 2 ∨ w = 3))) (fun i A => Go d MX5_read 42 [some (vR 46), some (vI n), some (vI i)] [] S A.1 A.2 Q) ?_ ?_ 0 (F9, G) ⟨by omega, by omega, m2, (q2 1 (by decide) (by decide) (by decide)).trans k1, fun c hc => (q1 c hc).trans (kc c hc), fun _ _ _ _ => rfl, Or.inl ⟨rel0, m9, by omega, fun k hk => absurd hk (by omega), fun k hk => absurd hk (by omega)⟩⟩
  · rintro i ⟨F1, G1⟩ ⟨i0, i1, z2, z1, zc, zg, alt⟩ hi ih
    dsimp only at z2 z1 zc zg alt ⊢
    have g47 : G1 47 = G 47 := zg 47 (by decide) (by decide) (by decide)
    refine R_X5_read_42 hsh ?_
    unfold V_X5_read_42
    rcases alt with ⟨rl, a9, a30, pre, rows⟩ | ⟨K, w, a, w0, rs, K30, w10, w11, wr⟩
    · have b10 : F1 46 10 = 0 := rl.2.1
      have b11 : F1 46 11 = -1 := rl.2.2.1
      have b4 := (rl.2.2.2 rfl).1
      have b3 := rl.1.2.2.2.2.1
      rw [g47, z2] at b4 b3
      rw [b4] at b3
      have b3' : F1 46 3 = kd (G 47) n (sk (G 47) n (Pn (G 47) n i.toNat)) := b3
      rw [b3', b10]
      refine ⟨fun y => absurd y (by omega), fun _ => ⟨fun y => hq F1 G1 i.toNat 0 (-1) ⟨⟨pre, Or.inl ⟨rfl, rfl, y⟩⟩, by omega, b10, b11, zc, z1, zg, fun _ => ⟨by omega, rows⟩, Or.inl rfl⟩, fun y => ⟨fun y2 => absurd rfl y2, fun _ => ⟨by omega, ok_sreadAct (by omega) hsh kw rl (by omega) (by omega) (fun F3 G3 r3 f3 u1 u48 u49 u50 fin => ⟨rfl, rfl, by omega, ih (F3, G3) ⟨by omega, by omega, (f3.2 2 (by decide) (by decide) (by decide) (by decide) (by decide) (by decide)).trans z2, (f3.2 1 (by decide) (by decide) (by decide) (by decide) (by decide) (by decide)).trans z1, fun c hc => (f3.1 c hc).trans (zc c hc), fun c c1 c2 c3 => (u1 c c1 c2 c3).trans (zg c c1 c2 c3), ?_⟩⟩)⟩⟩⟩⟩
      rw [g47, z2, a9] at r3 fin
      rw [a9] at u48 u49 u50
      have ei : ((i.toNat : Nat) : Int) = i := by omega
      have en : (i + 1).toNat = i.toNat + 1 := by omega
      have ww := acS_w (G 47) n i (Pn (G 47) n i.toNat)
      by_cases c : (acS (G 47) n i (Pn (G 47) n i.toNat)).1 = 0
      · obtain ⟨v9, v30, vrow⟩ := fin c
        refine Or.inl ⟨?_, v9, by omega, fun k hk => ?_, fun k hk => ?_⟩
        · show RelS F3 G3 (0, -1, Pn (G 47) n (i + 1).toNat)
          have e1 : (0, -1, Pn (G 47) n (i + 1).toNat) = acS (G 47) n i (Pn (G 47) n i.toNat) := by
            rw [en]
            show ((0 : Int), (-1 : Int), (acS (G 47) n (i.toNat : Int) (Pn (G 47) n i.toNat)).2.2) = _
            rw [ei, ← c, ← (acS_a c).1]
          rw [e1]; exact r3
        · rw [en] at hk
          by_cases z : k = i.toNat
          · rw [z, ei]
            exact ⟨y, c⟩
          · exact pre k (by omega)
        · show RowS (G 47) n G3 k (Pn (G 47) n k)
          rw [en] at hk
          by_cases z : k = i.toNat
          · rw [z, ei]; exact vrow
          · exact row_cg (m := i) (by omega) (rows k (by omega)) u48 u49 u50
      · refine Or.inr ⟨i.toNat, _, _, c, ⟨pre, Or.inr ⟨c, y, ?_, ?_⟩⟩, by omega, r3.2.1, r3.2.2.1, by omega⟩
        · rw [ei]
        · rw [ei]
    · rw [w10]
      have fin : Q (some (vI w)) S F1 G1 := hq F1 G1 K w a ⟨rs, K30, w10, w11, zc, z1, zg, fun z => absurd z w0, by omega⟩
      exact ⟨fun _ => fin, fun _ => ⟨fun _ => fin, fun _ => ⟨fun _ => fin, fun y => absurd y w0⟩⟩⟩
  · rintro i ⟨F1, G1⟩ ⟨i0, i1, z2, z1, zc, zg, alt⟩ hi
    dsimp only at z2 z1 zc zg alt ⊢
    refine R_X5_read_42 hsh ?_
    unfold V_X5_read_42
    rcases alt with ⟨rl, a9, a30, pre, rows⟩ | ⟨K, w, a, w0, rs, K30, w10, w11, wr⟩
    · omega
    · rw [w10]
      have fin : Q (some (vI w)) S F1 G1 := hq F1 G1 K w a ⟨rs, K30, w10, w11, zc, z1, zg, fun z => absurd z w0, by omega⟩
      exact ⟨fun _ => fin, fun y => absurd (by omega) y⟩
