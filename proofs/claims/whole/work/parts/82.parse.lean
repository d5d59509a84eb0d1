/-! READING: what a number, a place, an act is, at a place of a text -/
def nmW (tp : Int → Int) (n lo hi p : Int) : Int := if ¬ kd tp n (sk tp n p) = 2 then 1 else if 19 < te tp n (sk tp n p) - sk tp n p ∨ vl tp n (sk tp n p) < lo ∨ hi < vl tp n (sk tp n p) then 2 else 0
abbrev PS : Type := Int × Int × Int
/-- a number is read: the fault, its place; where one is -/
def numS (tp : Int → Int) (n lo hi : Int) (s : PS) : PS := if ¬ s.1 = 0 then s else if ¬ nmW tp n lo hi s.2.2 = 0 then (nmW tp n lo hi s.2.2, sk tp n s.2.2, s.2.2) else (0, s.2.1, te tp n (sk tp n s.2.2))
theorem numS_0 {tp : Int → Int} {n lo hi : Int} {s : PS} (h : (numS tp n lo hi s).1 = 0) : s.1 = 0 ∧ nmW tp n lo hi s.2.2 = 0 ∧ numS tp n lo hi s = (0, s.2.1, te tp n (sk tp n s.2.2)) := by
  unfold numS at *
  by_cases w : s.1 = 0
  · rw [if_neg (fun z => z w)] at *
    by_cases w2 : nmW tp n lo hi s.2.2 = 0
    · rw [if_neg (fun z => z w2)]
      exact ⟨w, w2, rfl⟩
    · rw [if_pos w2] at h
      exact absurd h w2
  · rw [if_pos w] at h
    exact absurd h w
def plN (tp : Int → Int) (n : Int) : Nat → PS → PS := fun k => match k with
  | 0 => fun s => s
  | k + 1 => fun s => numS tp n 0 (if k = 0 then 2 else 9999) (plN tp n k s)
theorem plN_0 {tp : Int → Int} {n : Int} {s : PS} : ∀ (k m : Nat), m ≤ k → (plN tp n k s).1 = 0 → (plN tp n m s).1 = 0 := by
  intro k
  induction k with
  | zero =>
    intro m hm h
    have : m = 0 := by omega
    rw [this]; exact h
  | succ k ih =>
    intro m hm h
    by_cases w : m = k + 1
    · rw [w]; exact h
    · exact ih m (by omega) (numS_0 h).1
/-- a sign ahead of a number that is added -/
def sgn (tp : Int → Int) (n : Int) (s : PS) : Prop := s.1 = 0 ∧ sk tp n s.2.2 < n ∧ tp (sk tp n s.2.2) = 45
noncomputable def amS (tp : Int → Int) (n k : Int) (s : PS) : PS := by
  classical
  exact if k = 0 then numS tp n 1 1000000000 (if sgn tp n s then (s.1, s.2.1, sk tp n s.2.2 + 1) else s) else numS tp n 1 3000000000000000000 s
noncomputable def amV (tp : Int → Int) (n k : Int) (s : PS) : Int := by
  classical
  exact if k = 0 ∧ sgn tp n s then - vl tp n (sk tp n (sk tp n s.2.2 + 1)) else vl tp n (sk tp n s.2.2)
def smS (tp : Int → Int) (n : Int) (s : PS) : PS := if ¬ s.1 = 0 then s else if sk tp n s.2.2 < n ∧ tp (sk tp n s.2.2) = 59 then (0, s.2.1, sk tp n s.2.2 + 1) else (1, sk tp n s.2.2, s.2.2)
def mw (tp : Int → Int) (q e : Int) (L : List Int) : Prop := e - q = L.length ∧ ∀ k : Nat, k < L.length → tp (q + k) = L.getD k 0
noncomputable def wd (tp : Int → Int) (n q : Int) : Int := by
  classical
  exact if ¬ kd tp n q = 1 then -1 else if mw tp q (te tp n q) [97, 100, 100] then 0 else if mw tp q (te tp n q) [112, 105, 99, 107] then 1 else if mw tp q (te tp n q) [98, 101, 103, 105, 110] then 2 else if mw tp q (te tp n q) [99, 111, 109, 109, 105, 116] then 3 else if mw tp q (te tp n q) [99, 97, 110, 99, 101, 108] then 4 else -1
theorem wd_r (tp : Int → Int) (n q : Int) : -1 ≤ wd tp n q ∧ wd tp n q ≤ 4 ∧ (¬ wd tp n q = -1 → kd tp n q = 1) := by
  unfold wd
  by_cases w : kd tp n q = 1
  · rw [if_neg (fun z => z w)]
    refine ⟨?_, ?_, fun _ => w⟩
    · split
      · omega
      · split
        · omega
        · split
          · omega
          · split
            · omega
            · split <;> omega
    · split
      · omega
      · split
        · omega
        · split
          · omega
          · split
            · omega
            · split <;> omega
  · rw [if_pos w]
    exact ⟨by omega, by omega, fun z => absurd rfl z⟩
/-- an act is read, from a place on, where so many were read -/
noncomputable def acS (tp : Int → Int) (n m p : Int) : PS := if wd tp n (sk tp n p) = -1 then (1, sk tp n p, p) else if 30 ≤ m then (3, sk tp n p, p) else smS tp n (if wd tp n (sk tp n p) < 2 then amS tp n (wd tp n (sk tp n p)) (plN tp n 5 (0, -1, te tp n (sk tp n p))) else (0, -1, te tp n (sk tp n p)))
/-- where the k-th act begins -/
noncomputable def Pn (tp : Int → Int) (n : Int) : Nat → Int := fun k => match k with
  | 0 => 0
  | k + 1 => (acS tp n k (Pn tp n k)).2.2
def Res (tp : Int → Int) (n : Int) (K : Nat) (w a : Int) : Prop := (∀ k : Nat, k < K → ¬ kd tp n (sk tp n (Pn tp n k)) = 0 ∧ (acS tp n k (Pn tp n k)).1 = 0) ∧ ((w = 0 ∧ a = -1 ∧ kd tp n (sk tp n (Pn tp n K)) = 0) ∨ (¬ w = 0 ∧ ¬ kd tp n (sk tp n (Pn tp n K)) = 0 ∧ w = (acS tp n K (Pn tp n K)).1 ∧ a = (acS tp n K (Pn tp n K)).2.1))
theorem res_lt {tp : Int → Int} {n : Int} {K K' : Nat} {w a w' a' : Int} (h : Res tp n K w a) (h' : Res tp n K' w' a') : ¬ K < K' := by
  intro lt
  have q := h'.1 K lt
  rcases h.2 with ⟨-, -, z⟩ | ⟨z1, -, z2, -⟩
  · exact q.1 z
  · exact z1 (z2.trans q.2)
theorem res_uniq {tp : Int → Int} {n : Int} {K K' : Nat} {w a w' a' : Int} (h : Res tp n K w a) (h' : Res tp n K' w' a') : K = K' ∧ w = w' ∧ a = a' := by
  have h1 := res_lt h h'
  have h2 := res_lt h' h
  have e : K = K' := by omega
  subst e
  refine ⟨rfl, ?_⟩
  rcases h.2 with ⟨x1, x2, x3⟩ | ⟨x1, x2, x3, x4⟩
  · rcases h'.2 with ⟨y1, y2, y3⟩ | ⟨y1, y2, y3, y4⟩
    · exact ⟨by omega, by omega⟩
    · exact absurd x3 y2
  · rcases h'.2 with ⟨y1, y2, y3⟩ | ⟨y1, y2, y3, y4⟩
    · exact absurd y3 x2
    · exact ⟨by omega, by omega⟩
/-! THE SYSTEM READS -/
def TokOK (F : AF) (G : AG) : Prop := 0 ≤ F 46 2 ∧ F 46 2 ≤ 500 ∧ 0 ≤ F 46 4 ∧ F 46 4 ≤ 500 ∧ F 46 3 = kd (G 47) (F 46 2) (F 46 4) ∧ F 46 5 = te (G 47) (F 46 2) (F 46 4)
theorem tok_5 {F : AF} {G : AG} (h : TokOK F G) : F 46 4 ≤ F 46 5 ∧ F 46 5 ≤ 500 := by
  obtain ⟨h1, h2, h3, h4, h5, h6⟩ := h
  have := te_in (tp := G 47) (n := F 46 2) h3
  omega
def RelS (F : AF) (G : AG) (s : PS) : Prop := TokOK F G ∧ F 46 10 = s.1 ∧ F 46 11 = s.2.1 ∧ (s.1 = 0 → F 46 4 = sk (G 47) (F 46 2) s.2.2 ∧ 0 ≤ s.2.2 ∧ s.2.2 ≤ 500)
def Fr46 (F F' : AF) : Prop := (∀ c : Nat, c ≠ 46 → F' c = F c) ∧ ∀ k : Nat, k ≠ 3 → k ≠ 4 → k ≠ 5 → k ≠ 10 → k ≠ 11 → F' 46 k = F 46 k
theorem fr_tr {F F1 F2 : AF} (h : Fr46 F F1) (k : Fr46 F1 F2) : Fr46 F F2 := ⟨fun c hc => (k.1 c hc).trans (h.1 c hc), fun j a b c d e => (k.2 j a b c d e).trans (h.2 j a b c d e)⟩
theorem fr_rf (F : AF) : Fr46 F F := ⟨fun _ _ => rfl, fun _ _ _ _ _ _ => rfl⟩
theorem pu_isSign {d : Nat} {S : AS} {F : AF} {G : AG} (hsh : ShC S) (h : TokOK F G) (c : Int) : Pu d MX5_isSign [vR 46, vI c] S F G (some (vI (bI (F 46 3 = 3 ∧ G 47 (F 46 4) = c)))) := by
  obtain ⟨h1, h2, h3, h4, h5, h6⟩ := h
  refine ok_go rfl (by decide) (Nat.le_of_ble_eq_true rfl) (R_X5_isSign_0 hsh ?_)
  unfold V_X5_isSign_0
  refine ⟨fun y => ⟨by rw [bI_f (fun z => y z.1)], rfl, rfl, rfl⟩, fun y => ?_⟩
  rw [h5] at y
  have k3 := kd_3.mp y
  rw [← h5] at y
  exact ⟨h3, by omega, fun z => ⟨by rw [bI_f (fun q => z q.2)], rfl, rfl, rfl⟩, fun z => ⟨by rw [bI_t ⟨y, z⟩], rfl, rfl, rfl⟩⟩
theorem ok_blame {d : Nat} {S : AS} {F : AF} {G : AG} (hsh : ShC S) {w : Int} (hw : ¬ w = 0) {s : PS} (h : RelS F G s) {Q : AQ} (hq : ∀ F', RelS F' G (if ¬ s.1 = 0 then s else (w, F 46 4, s.2.2)) → Fr46 F F' → Q none S F' G) : Ok d MX5_blame [vR 46, vI w] S F G Q := by
  obtain ⟨⟨h1, h2, h3, h4, h5, h6⟩, r1, r2, r3⟩ := id h
  refine ok_go rfl (by decide) (Nat.le_of_ble_eq_true rfl) (R_X5_blame_0 hsh ?_)
  unfold V_X5_blame_0
  rw [r1]
  refine ⟨fun y => hq F (by rw [if_pos y]; exact h) (fr_rf F), fun y F1 e1 F2 e2 => ?_⟩
  have k4 : F1 46 4 = F 46 4 := by rw [e1, fu_k (by decide)]
  have fk : ∀ k : Nat, k ≠ 10 → k ≠ 11 → F2 46 k = F 46 k := fun k a b => by rw [e2, fu_k b, e1, fu_k a]
  refine hq F2 ?_ ⟨fun c hc => by rw [e2, fu_row hc, e1, fu_row hc], fun k _ _ _ a b => fk k a b⟩
  rw [if_neg (fun z => z y)]
  refine ⟨?_, by rw [e2, fu_k (by decide), e1, fu_s], by rw [e2, fu_s, k4], fun z => absurd z hw⟩
  unfold TokOK
  rw [fk 2 (by decide) (by decide), fk 3 (by decide) (by decide), fk 4 (by decide) (by decide), fk 5 (by decide) (by decide)]
  exact ⟨h1, h2, h3, h4, h5, h6⟩
theorem ok_stepR {d : Nat} {S : AS} {F : AF} {G : AG} (hd : 1 ≤ d) (hsh : ShC S) {s : PS} (h : RelS F G s) {Q : AQ} (hq : ∀ F', RelS F' G (if ¬ s.1 = 0 then s else (0, s.2.1, F 46 5)) → Fr46 F F' → Q none S F' G) : Ok d MX5_step [vR 46] S F G Q := by
  obtain ⟨t, r1, r2, r3⟩ := id h
  have t5 := tok_5 t
  obtain ⟨h1, h2, h3, h4, h5, h6⟩ := id t
  refine ok_step hd hsh (by omega) (by omega) h1 h2 (fun y F' q => ?_) (fun y => ?_)
  · obtain ⟨q1, q2, q3, q4, q5⟩ := q
    have k2 := q2 2 (by decide) (by decide) (by decide)
    have k10 := q2 10 (by decide) (by decide) (by decide)
    have k11 := q2 11 (by decide) (by decide) (by decide)
    have sp := sk_sp (G 47) (F 46 2) (F 46 5)
    refine hq F' ?_ ⟨q1, fun k a b c _ _ => q2 k a b c⟩
    rw [if_neg (fun z => z (r1.symm.trans y))]
    refine ⟨⟨by omega, by omega, by omega, by omega, by rw [k2]; exact q4, by rw [k2]; exact q5⟩, by rw [k10]; exact y, by rw [k11]; exact r2, fun _ => ⟨by rw [k2]; exact q3, by show 0 ≤ F 46 5; omega, t5.2⟩⟩
  · refine hq F ?_ (fr_rf F)
    rw [if_pos (fun z => y (r1.trans z))]
    exact h
theorem pu_numberOfToken {d : Nat} {S : AS} {F : AF} {G : AG} (hsh : ShC S) (h : TokOK F G) (hn : F 46 3 = 2) : ∃ v : Int, (v = vl (G 47) (F 46 2) (F 46 4) ∨ (3000000000000000000 < v ∧ 3000000000000000000 < vl (G 47) (F 46 2) (F 46 4))) ∧ 0 ≤ v ∧ Pu d MX5_numberOfToken [vR 46] S F G (some (vJ v)) := by
  obtain ⟨h1, h2, h3, h4, h5, h6⟩ := id h
  have tn := te_num (h5.symm.trans hn)
  rw [← h6] at tn
  generalize hN : vl (G 47) (F 46 2) (F 46 4) = N
  have eN : VLF (G 47) (F 46 5 - F 46 4).toNat 0 (F 46 4) = N := by rw [← hN]; unfold vl; rw [← h6]
  -- what the loop gives
  have ex : ∃ v : Int, (v = N ∨ (3000000000000000000 < v ∧ 3000000000000000000 < N)) ∧ 0 ≤ v ∧ ∀ d' : Nat, Go d' MX5_numberOfToken 7 [some (vR 46), some (vJ 0), none, some (vI (F 46 4))] [] S F G (fun r' S' F' G' => r' = some (vJ v) ∧ S' = S ∧ F' = F ∧ G' = G) := by
    have main : ∀ (k : Nat) (a i : Int), (F 46 5 - i).toNat ≤ k → F 46 4 ≤ i → i ≤ F 46 5 → 0 ≤ a → a ≤ 4000000000000000000 → VLF (G 47) (F 46 5 - i).toNat a i = N → ∃ v : Int, (v = N ∨ (3000000000000000000 < v ∧ 3000000000000000000 < N)) ∧ 0 ≤ v ∧ ∀ d' : Nat, Go d' MX5_numberOfToken 7 [some (vR 46), some (vJ a), none, some (vI i)] [] S F G (fun r' S' F' G' => r' = some (vJ v) ∧ S' = S ∧ F' = F ∧ G' = G) := by
      intro k
      induction k with
      | zero =>
        intro a i hk i0 i1 a0 a1 ev
        have e0 : (F 46 5 - i).toNat = 0 := by omega
        rw [e0] at ev
        refine ⟨a, Or.inl ev, a0, fun d' => R_X5_numberOfToken_7 hsh ?_⟩
        unfold V_X5_numberOfToken_7
        exact ⟨fun _ => ⟨rfl, rfl, rfl, rfl⟩, fun y => absurd y (by omega)⟩
      | succ k ih =>
        intro a i hk i0 i1 a0 a1 ev
        by_cases w : F 46 5 ≤ i
        · have e0 : (F 46 5 - i).toNat = 0 := by omega
          rw [e0] at ev
          refine ⟨a, Or.inl ev, a0, fun d' => R_X5_numberOfToken_7 hsh ?_⟩
          unfold V_X5_numberOfToken_7
          exact ⟨fun _ => ⟨rfl, rfl, rfl, rfl⟩, fun y => absurd w y⟩
        · have dg := tn.2.2.2 i i0 (by omega)
          have e1 : (F 46 5 - i).toNat = (F 46 5 - (i + 1)).toNat + 1 := by omega
          rw [e1] at ev
          have ev' : VLF (G 47) (F 46 5 - (i + 1)).toNat (10 * a + (G 47 i - 48)) (i + 1) = N := ev
          by_cases c : a ≤ 300000000000000000
          · obtain ⟨v, v1, v0, v2⟩ := ih (10 * a + (G 47 i - 48)) (i + 1) (by omega) (by omega) (by omega) (by omega) (by omega) ev'
            refine ⟨v, v1, v0, fun d' => R_X5_numberOfToken_7 hsh ?_⟩
            unfold V_X5_numberOfToken_7
            refine ⟨fun y => absurd y w, fun _ => ⟨fun _ => ⟨by omega, by omega, by omega, by omega, by omega, fun x6 e6 => ⟨by omega, ?_⟩⟩, fun y => absurd c y⟩⟩
            rw [e6]; exact v2 d'
          · have ge := vlf_ge (tp := G 47) (F 46 5 - (i + 1)).toNat (10 * a + (G 47 i - 48)) (i + 1) (by omega) (fun q q0 q1 => (tn.2.2.2 q (by omega) (by omega)).1)
            rw [ev'] at ge
            refine ⟨9000000000000000001, Or.inr ⟨by omega, by omega⟩, by omega, fun d' => R_X5_numberOfToken_7 hsh ?_⟩
            unfold V_X5_numberOfToken_7
            exact ⟨fun y => absurd y w, fun _ => ⟨fun y => absurd y c, fun _ => ⟨rfl, rfl, rfl, rfl⟩⟩⟩
    exact main _ 0 (F 46 4) (Nat.le_refl _) (by omega) (by omega) (by omega) (by omega) eN
  obtain ⟨v, v1, v0, v2⟩ := ex
  refine ⟨v, v1, v0, ok_go rfl (by decide) (Nat.le_of_ble_eq_true rfl) (R_X5_numberOfToken_0 hsh ?_)⟩
  unfold V_X5_numberOfToken_0
  intro x1 e1
  rw [e1]; exact v2 d
theorem ok_readNumber {d : Nat} {S : AS} {F : AF} {G : AG} (hd : 2 ≤ d) (hsh : ShC S) {s : PS} (h : RelS F G s) {lo hi : Int} (lo0 : 0 ≤ lo) (hi0 : 0 ≤ hi) (hi1 : hi ≤ 3000000000000000000) {Q : AQ} (hq : ∀ (F' : AF) (v : Int), RelS F' G (numS (G 47) (F 46 2) lo hi s) → Fr46 F F' → 0 ≤ v → v ≤ hi → ((numS (G 47) (F 46 2) lo hi s).1 = 0 → v = vl (G 47) (F 46 2) (sk (G 47) (F 46 2) s.2.2)) → Q (some (vJ v)) S F' G) : Ok d MX5_readNumber [vR 46, vJ lo, vJ hi] S F G Q := by
  obtain ⟨t, r1, r2, r3⟩ := id h
  have t5 := tok_5 t
  obtain ⟨h1, h2, h3, h4, h5, h6⟩ := id t
  -- what a blame makes of it
  have bl : ∀ w : Int, ¬ w = 0 → (s.1 = 0 → nmW (G 47) (F 46 2) lo hi s.2.2 = w) → Ok (d - 1) MX5_blame [vR 46, vI w] S F G (fun w2 S3 F4 G5 => S3 = S ∧ w2 = none ∧ Q (some (vJ 0)) S F4 G5) := by
    intro w w0 hw
    refine ok_blame hsh w0 h (fun F' q1 q2 => ⟨rfl, rfl, ?_⟩)
    have en : numS (G 47) (F 46 2) lo hi s = (if ¬ s.1 = 0 then s else (w, F 46 4, s.2.2)) := by
      unfold numS
      by_cases z : s.1 = 0
      · rw [if_neg (fun y => y z), hw z, if_pos w0, if_neg (fun y => y z), (r3 z).1]
      · rw [if_pos z, if_pos z]
    refine hq F' 0 (by rw [en]; exact q1) q2 (by omega) hi0 (fun z => ?_)
    have := numS_0 z
    exact absurd ((hw this.1).symm.trans this.2.1) w0
  refine ok_go rfl (by decide) (Nat.le_of_ble_eq_true rfl) (R_X5_readNumber_0 hsh ?_)
  unfold V_X5_readNumber_0
  refine ⟨fun y => ?_, fun y => ⟨by omega, bl 1 (by decide) (fun z => ?_)⟩⟩
  · obtain ⟨v, v1, v0, pv⟩ := pu_numberOfToken (d := d - 1) (S := S) hsh t y
    have bad : (19 < F 46 5 - F 46 4 ∨ v < lo ∨ hi < v) → V_X5_readNumber_49 d S F G Q lo hi v := by
      intro b
      unfold V_X5_readNumber_49
      refine ⟨by omega, bl 2 (by decide) (fun z => ?_)⟩
      have e4 := (r3 z).1
      unfold nmW
      rw [← e4, ← h5, ← h6, if_neg (fun q => q y), if_pos]
      rcases v1 with v1 | v1
      · rw [← v1]; exact b
      · omega
    refine ⟨by omega, v, pv, by omega, fun z => bad (Or.inl z), fun z => ⟨fun z2 => bad (Or.inr (Or.inl z2)), fun z2 => ⟨fun z3 => ?_, fun z3 => bad (Or.inr (Or.inr (by omega)))⟩⟩⟩
    refine ok_stepR (by omega) hsh h (fun F' q1 q2 => ⟨rfl, rfl, ?_⟩)
    have ve : v = vl (G 47) (F 46 2) (F 46 4) := by
      rcases v1 with v1 | v1
      · exact v1
      · omega
    have good : s.1 = 0 → nmW (G 47) (F 46 2) lo hi s.2.2 = 0 := by
      intro q
      have e4 := (r3 q).1
      unfold nmW
      rw [← e4, ← h5, ← h6, if_neg (fun q => q y), if_neg]
      rw [← ve]; omega
    refine hq F' v ?_ q2 v0 z3 (fun q => ?_)
    · have en : numS (G 47) (F 46 2) lo hi s = (if ¬ s.1 = 0 then s else (0, s.2.1, F 46 5)) := by
        unfold numS
        by_cases q : s.1 = 0
        · rw [if_neg (fun y => y q), good q, if_neg (fun y => y rfl), if_neg (fun y => y q), ← (r3 q).1, h6]
        · rw [if_pos q, if_pos q]
      rw [en]; exact q1
    · rw [← (r3 (numS_0 q).1).1]; exact ve
  · unfold nmW
    rw [← (r3 z).1, ← h5, if_pos y]
