/-! A TEXT: blanks, tokens, numbers -/
def kd (tp : Int → Int) (n p : Int) : Int := if p < 0 ∨ n ≤ p then 0 else if 97 ≤ tp p ∧ tp p ≤ 122 then 1 else if 48 ≤ tp p ∧ tp p ≤ 57 then 2 else 3
def skF (tp : Int → Int) (n : Int) : Nat → Int → Int := fun k => match k with
  | 0 => fun p => p
  | k + 1 => fun p => if p < n ∧ tp p = 32 then skF tp n k (p + 1) else p
def sk (tp : Int → Int) (n p : Int) : Int := skF tp n (n - p).toNat p
theorem sk_s {tp : Int → Int} {n p : Int} (h1 : p < n) (h2 : tp p = 32) : sk tp n p = sk tp n (p + 1) := by
  unfold sk
  have e : (n - p).toNat = (n - (p + 1)).toNat + 1 := by omega
  rw [e]
  show (if p < n ∧ tp p = 32 then _ else _) = _
  rw [if_pos ⟨h1, h2⟩]
theorem sk_e {tp : Int → Int} {n p : Int} (h : ¬ (p < n ∧ tp p = 32)) : sk tp n p = p := by
  unfold sk
  by_cases w : p < n
  · have e : (n - p).toNat = (n - (p + 1)).toNat + 1 := by omega
    rw [e]
    show (if p < n ∧ tp p = 32 then _ else _) = _
    rw [if_neg h]
  · have e : (n - p).toNat = 0 := by omega
    rw [e]
    rfl
theorem sk_sp (tp : Int → Int) (n p : Int) : p ≤ sk tp n p ∧ (sk tp n p ≤ n ∨ sk tp n p = p) ∧ ¬ (sk tp n p < n ∧ tp (sk tp n p) = 32) := by
  have main : ∀ (k : Nat) (p : Int), (n - p).toNat ≤ k → p ≤ sk tp n p ∧ (sk tp n p ≤ n ∨ sk tp n p = p) ∧ ¬ (sk tp n p < n ∧ tp (sk tp n p) = 32) := by
    intro k
    induction k with
    | zero =>
      intro p hp
      have : ¬ (p < n ∧ tp p = 32) := fun h => by omega
      rw [sk_e this]
      exact ⟨by omega, Or.inr rfl, this⟩
    | succ k ih =>
      intro p hp
      by_cases w : p < n ∧ tp p = 32
      · rw [sk_s w.1 w.2]
        obtain ⟨a, b, c⟩ := ih (p + 1) (by omega)
        exact ⟨by omega, by omega, c⟩
      · rw [sk_e w]
        exact ⟨by omega, Or.inr rfl, w⟩
  exact main _ p (Nat.le_refl _)
theorem sk_id (tp : Int → Int) (n p : Int) : sk tp n (sk tp n p) = sk tp n p := sk_e (sk_sp tp n p).2.2
def rnF (tp : Int → Int) (n c : Int) : Nat → Int → Int := fun k => match k with
  | 0 => fun p => p
  | k + 1 => fun p => if p < n ∧ kd tp n p = c then rnF tp n c k (p + 1) else p
def rn (tp : Int → Int) (n c p : Int) : Int := rnF tp n c (n - p).toNat p
theorem rn_s {tp : Int → Int} {n c p : Int} (h1 : p < n) (h2 : kd tp n p = c) : rn tp n c p = rn tp n c (p + 1) := by
  unfold rn
  have e : (n - p).toNat = (n - (p + 1)).toNat + 1 := by omega
  rw [e]
  show (if p < n ∧ kd tp n p = c then _ else _) = _
  rw [if_pos ⟨h1, h2⟩]
theorem rn_e {tp : Int → Int} {n c p : Int} (h : ¬ (p < n ∧ kd tp n p = c)) : rn tp n c p = p := by
  unfold rn
  by_cases w : p < n
  · have e : (n - p).toNat = (n - (p + 1)).toNat + 1 := by omega
    rw [e]
    show (if p < n ∧ kd tp n p = c then _ else _) = _
    rw [if_neg h]
  · have e : (n - p).toNat = 0 := by omega
    rw [e]
    rfl
theorem rn_sp (tp : Int → Int) (n c p : Int) : p ≤ rn tp n c p ∧ (rn tp n c p ≤ n ∨ rn tp n c p = p) ∧ ∀ q : Int, p ≤ q → q < rn tp n c p → kd tp n q = c := by
  have main : ∀ (k : Nat) (p : Int), (n - p).toNat ≤ k → p ≤ rn tp n c p ∧ (rn tp n c p ≤ n ∨ rn tp n c p = p) ∧ ∀ q : Int, p ≤ q → q < rn tp n c p → kd tp n q = c := by
    intro k
    induction k with
    | zero =>
      intro p hp
      have : ¬ (p < n ∧ kd tp n p = c) := fun h => by omega
      rw [rn_e this]
      exact ⟨by omega, Or.inr rfl, fun q a b => by omega⟩
    | succ k ih =>
      intro p hp
      by_cases w : p < n ∧ kd tp n p = c
      · rw [rn_s w.1 w.2]
        obtain ⟨a, b, d⟩ := ih (p + 1) (by omega)
        refine ⟨by omega, by omega, fun q q0 q1 => ?_⟩
        by_cases z : q = p
        · rw [z]; exact w.2
        · exact d q (by omega) q1
      · rw [rn_e w]
        exact ⟨by omega, Or.inr rfl, fun q a b => by omega⟩
  exact main _ p (Nat.le_refl _)
def te (tp : Int → Int) (n p : Int) : Int := if kd tp n p = 0 then p else if kd tp n p = 3 then p + 1 else rn tp n (kd tp n p) p
theorem kd_r (tp : Int → Int) (n p : Int) : kd tp n p = 0 ∨ kd tp n p = 1 ∨ kd tp n p = 2 ∨ kd tp n p = 3 := by
  unfold kd
  split
  · exact Or.inl rfl
  · split
    · exact Or.inr (Or.inl rfl)
    · split
      · exact Or.inr (Or.inr (Or.inl rfl))
      · exact Or.inr (Or.inr (Or.inr rfl))
theorem kd_0 {tp : Int → Int} {n p : Int} : kd tp n p = 0 ↔ (p < 0 ∨ n ≤ p) := by
  unfold kd
  constructor
  · intro h
    by_cases w : p < 0 ∨ n ≤ p
    · exact w
    · rw [if_neg w] at h
      split at h
      · omega
      · split at h <;> omega
  · intro h
    rw [if_pos h]
theorem kd_2 {tp : Int → Int} {n p : Int} : kd tp n p = 2 ↔ (0 ≤ p ∧ p < n ∧ 48 ≤ tp p ∧ tp p ≤ 57) := by
  unfold kd
  by_cases w : p < 0 ∨ n ≤ p
  · rw [if_pos w]; omega
  · rw [if_neg w]
    by_cases w2 : 97 ≤ tp p ∧ tp p ≤ 122
    · rw [if_pos w2]; omega
    · rw [if_neg w2]
      by_cases w3 : 48 ≤ tp p ∧ tp p ≤ 57
      · rw [if_pos w3]; omega
      · rw [if_neg w3]; omega
theorem kd_1 {tp : Int → Int} {n p : Int} : kd tp n p = 1 ↔ (0 ≤ p ∧ p < n ∧ 97 ≤ tp p ∧ tp p ≤ 122) := by
  unfold kd
  by_cases w : p < 0 ∨ n ≤ p
  · rw [if_pos w]; omega
  · rw [if_neg w]
    by_cases w2 : 97 ≤ tp p ∧ tp p ≤ 122
    · rw [if_pos w2]; omega
    · rw [if_neg w2]
      split <;> omega
theorem kd_3 {tp : Int → Int} {n p : Int} : kd tp n p = 3 ↔ (0 ≤ p ∧ p < n ∧ ¬ (97 ≤ tp p ∧ tp p ≤ 122) ∧ ¬ (48 ≤ tp p ∧ tp p ≤ 57)) := by
  unfold kd
  by_cases w : p < 0 ∨ n ≤ p
  · rw [if_pos w]; omega
  · rw [if_neg w]
    by_cases w2 : 97 ≤ tp p ∧ tp p ≤ 122
    · rw [if_pos w2]; omega
    · rw [if_neg w2]
      by_cases w3 : 48 ≤ tp p ∧ tp p ≤ 57
      · rw [if_pos w3]; omega
      · rw [if_neg w3]; omega
theorem te_in {tp : Int → Int} {n p : Int} (h0 : 0 ≤ p) : p ≤ te tp n p ∧ (te tp n p ≤ n ∨ te tp n p = p) := by
  unfold te
  by_cases w : kd tp n p = 0
  · rw [if_pos w]; omega
  · rw [if_neg w]
    have := (not_congr (kd_0 (tp := tp) (n := n) (p := p))).mp w
    by_cases w2 : kd tp n p = 3
    · rw [if_pos w2]; omega
    · rw [if_neg w2]
      have r := rn_sp tp n (kd tp n p) p
      exact ⟨r.1, r.2.1⟩
def VLF (tp : Int → Int) : Nat → Int → Int → Int := fun k => match k with
  | 0 => fun a _ => a
  | k + 1 => fun a p => VLF tp k (10 * a + (tp p - 48)) (p + 1)
theorem vlf_ge {tp : Int → Int} : ∀ (k : Nat) (a p : Int), 0 ≤ a → (∀ q : Int, p ≤ q → q < p + k → 48 ≤ tp q) → a ≤ VLF tp k a p := by
  intro k
  induction k with
  | zero => intro a p _ _; exact Int.le_refl _
  | succ k ih =>
    intro a p h0 hd
    have d := hd p (by omega) (by omega)
    have := ih (10 * a + (tp p - 48)) (p + 1) (by omega) (fun q q0 q1 => hd q (by omega) (by omega))
    show a ≤ VLF tp k (10 * a + (tp p - 48)) (p + 1)
    omega
/-- the number that a token is -/
def vl (tp : Int → Int) (n p : Int) : Int := VLF tp (te tp n p - p).toNat 0 p
theorem te_num {tp : Int → Int} {n p : Int} (h : kd tp n p = 2) : te tp n p = rn tp n 2 p ∧ p < te tp n p ∧ te tp n p ≤ n ∧ ∀ q : Int, p ≤ q → q < te tp n p → 48 ≤ tp q ∧ tp q ≤ 57 := by
  have k := kd_2.mp h
  have e : te tp n p = rn tp n 2 p := by
    unfold te
    rw [h, if_neg (by decide), if_neg (by decide)]
  have r1 := rn_s k.2.1 h
  have s := rn_sp tp n 2 (p + 1)
  have s0 := rn_sp tp n 2 p
  rw [e, r1]
  refine ⟨rfl, by omega, by omega, fun q q0 q1 => ?_⟩
  rw [← r1] at q1
  have := kd_2.mp (s0.2.2 q q0 q1)
  omega
/-! THE SYSTEM'S SCRIPT -/
theorem pu_kindOfByte {d : Nat} {S : AS} {F : AF} {G : AG} (hsh : ShC S) (h5 : F 46 2 ≤ 500) (p : Int) : Pu d MX5_kindOfByte [vR 46, vI p] S F G (some (vI (kd (G 47) (F 46 2) p))) := by
  refine ok_go rfl (by decide) (Nat.le_of_ble_eq_true rfl) (R_X5_kindOfByte_0 hsh ?_)
  unfold V_X5_kindOfByte_0 V_X5_kindOfByte_35
  refine ⟨fun y => ⟨?_, rfl, rfl, rfl⟩, fun y => ⟨fun y2 => ⟨by omega, by omega, fun x3 e3 => ?_⟩, fun y2 => ⟨?_, rfl, rfl, rfl⟩⟩⟩
  · rw [kd_0.mpr (by omega)]
  · subst e3
    refine ⟨fun z => ⟨fun z1 => ⟨?_, rfl, rfl, rfl⟩, fun z1 => ⟨fun z2 => ⟨?_, rfl, rfl, rfl⟩, fun z2 => ⟨?_, rfl, rfl, rfl⟩⟩⟩, fun z => ⟨fun z0 => ⟨fun z1 => ⟨?_, rfl, rfl, rfl⟩, fun z1 => ⟨fun z2 => ⟨?_, rfl, rfl, rfl⟩, fun z2 => ⟨?_, rfl, rfl, rfl⟩⟩⟩, fun z0 => ⟨?_, rfl, rfl, rfl⟩⟩⟩
    · rw [kd_3.mpr (by omega)]
    · rw [kd_3.mpr (by omega)]
    · rw [kd_2.mpr (by omega)]
    · rw [kd_3.mpr (by omega)]
    · rw [kd_3.mpr (by omega)]
    · rw [kd_2.mpr (by omega)]
    · rw [kd_1.mpr (by omega)]
  · rw [kd_0.mpr (by omega)]
def StpQ (F F' : AF) (G : AG) : Prop := (∀ c : Nat, c ≠ 46 → F' c = F c) ∧ (∀ k : Nat, k ≠ 3 → k ≠ 4 → k ≠ 5 → F' 46 k = F 46 k) ∧ F' 46 4 = sk (G 47) (F 46 2) (F 46 5) ∧ F' 46 3 = kd (G 47) (F 46 2) (F' 46 4) ∧ F' 46 5 = te (G 47) (F 46 2) (F' 46 4)
theorem ok_step {d : Nat} {S : AS} {F : AF} {G : AG} (hd : 1 ≤ d) (hsh : ShC S) (h0 : 0 ≤ F 46 5) (h1 : F 46 5 ≤ 500) (h2 : 0 ≤ F 46 2) (h5 : F 46 2 ≤ 500) {Q : AQ} (hq1 : F 46 10 = 0 → ∀ F', StpQ F F' G → Q none S F' G) (hq0 : ¬ F 46 10 = 0 → Q none S F G) : Ok d MX5_step [vR 46] S F G Q := by
  refine ok_go rfl (by decide) (Nat.le_of_ble_eq_true rfl) (R_X5_step_0 hsh ?_)
  unfold V_X5_step_0
  refine ⟨fun w F1 e1 => ?_, fun w => hq0 w⟩
  have v4 : F1 46 4 = F 46 5 := by rw [e1, fu_s]
  refine up_ind (α := AF) (F 46 2 + 501) (fun p F2 => F 46 5 ≤ p ∧ (p = F 46 5 ∨ p ≤ F 46 2) ∧ (∀ c : Nat, c ≠ 46 → F2 c = F c) ∧ (∀ k : Nat, k ≠ 4 → F2 46 k = F 46 k) ∧ F2 46 4 = p ∧ sk (G 47) (F 46 2) p = sk (G 47) (F 46 2) (F 46 5)) (fun p F2 => Go d MX5_step 16 [some (vR 46)] [] S F2 G Q) ?_ ?_ (F 46 5) F1 ⟨by omega, Or.inl rfl, fun c hc => by rw [e1, fu_row hc], fun k hk => by rw [e1, fu_k hk], v4, rfl⟩
  · rintro p F2 ⟨p0, p1, f1, f2, f4, fs⟩ hp ih
    have n2 : F2 46 2 = F 46 2 := f2 2 (by decide)
    have fin : ¬ (p < F 46 2 ∧ G 47 p = 32) → V_X5_step_54 d S F2 G Q := by
      intro ne
      have es : sk (G 47) (F 46 2) (F 46 5) = p := by rw [← fs, sk_e ne]
      unfold V_X5_step_54
      intro F3 e3
      have n3 : F3 46 2 = F 46 2 := by rw [e3, fu_k (by decide)]; exact n2
      have p4 : F3 46 4 = p := by rw [e3, fu_k (by decide)]; exact f4
      have pk := pu_kindOfByte (d := d - 1) (S := S) (F := F3) (G := G) hsh (by omega) p
      rw [n3] at pk
      rw [p4]
      refine ⟨hd, _, pk, fun F9 e9 => ?_⟩
      have q3 : F9 46 3 = kd (G 47) (F 46 2) p := by rw [e9, fu_s]
      have q4 : F9 46 4 = p := by rw [e9, fu_k (by decide)]; exact p4
      have q5 : F9 46 5 = p := by rw [e9, fu_k (by decide), e3, fu_s]; exact f4
      have qc : ∀ c : Nat, c ≠ 46 → F9 c = F c := fun c hc => by rw [e9, fu_row hc, e3, fu_row hc]; exact f1 c hc
      have qk : ∀ k : Nat, k ≠ 3 → k ≠ 4 → k ≠ 5 → F9 46 k = F 46 k := fun k k3 k4 k5 => by rw [e9, fu_k k3, e3, fu_k k5]; exact f2 k k4
      have q2 : F9 46 2 = F 46 2 := qk 2 (by decide) (by decide) (by decide)
      have kr := kd_r (G 47) (F 46 2) p
      rw [q3, q5]
      refine ⟨fun z => ⟨fun z0 => hq1 w F9 ⟨qc, qk, by rw [q4, es], by rw [q3, q4], by rw [q5, q4]; unfold te; rw [if_pos z0]⟩, fun z0 => ?_⟩, fun z => ⟨by omega, fun F11 e11 => hq1 w F11 ⟨fun c hc => by rw [e11, fu_row hc]; exact qc c hc, fun k k3 k4 k5 => by rw [e11, fu_k k5]; exact qk k k3 k4 k5, by rw [e11, fu_k (by decide), q4, es], by rw [e11, fu_k (by decide), fu_k (by decide), q3, q4], by rw [e11, fu_s, fu_k (by decide), q4]; unfold te; rw [z, if_neg (by decide), if_pos rfl]⟩⟩⟩
      have tp' : te (G 47) (F 46 2) p = rn (G 47) (F 46 2) (kd (G 47) (F 46 2) p) p := by
        unfold te
        rw [if_neg z0, if_neg z]
      refine up_ind (α := AF) (F 46 2 + 501) (fun e F5 => p ≤ e ∧ (e = p ∨ e ≤ F 46 2) ∧ (∀ c : Nat, c ≠ 46 → F5 c = F c) ∧ (∀ k : Nat, k ≠ 3 → k ≠ 4 → k ≠ 5 → F5 46 k = F 46 k) ∧ F5 46 3 = kd (G 47) (F 46 2) p ∧ F5 46 4 = p ∧ F5 46 5 = e ∧ rn (G 47) (F 46 2) (kd (G 47) (F 46 2) p) e = te (G 47) (F 46 2) p) (fun e F5 => Go d MX5_step 102 [some (vR 46)] [] S F5 G Q) ?_ ?_ p F9 ⟨by omega, Or.inl rfl, qc, qk, q3, q4, q5, tp'.symm⟩
      · rintro e F5 ⟨g0, g1, g2, g3, g4, g5, g6, g7⟩ he ih2
        have m2 : F5 46 2 = F 46 2 := g3 2 (by decide) (by decide) (by decide)
        have stop : ¬ (e < F 46 2 ∧ kd (G 47) (F 46 2) e = kd (G 47) (F 46 2) p) → Q none S F5 G := by
          intro y
          rw [rn_e y] at g7
          exact hq1 w F5 ⟨g2, g3, by rw [g5, es], by rw [g4, g5], by rw [g6, g5]; exact g7⟩
        have pk2 := pu_kindOfByte (d := d - 1) (S := S) (F := F5) (G := G) hsh (by omega) e
        rw [m2] at pk2
        refine R_X5_step_102 hsh ?_
        unfold V_X5_step_102
        rw [m2, g6, g4]
        refine ⟨fun y => stop (by omega), fun y => ⟨hd, _, pk2, fun y2 => stop (fun z => y2 z.2), fun y2 => ⟨by omega, fun F9' e9' => ih2 F9' ⟨by omega, by omega, fun c hc => by rw [e9', fu_row hc]; exact g2 c hc, fun k k3 k4 k5 => by rw [e9', fu_k k5]; exact g3 k k3 k4 k5, by rw [e9', fu_k (by decide)]; exact g4, by rw [e9', fu_k (by decide)]; exact g5, by rw [e9', fu_s], by rw [← rn_s (by omega) y2]; exact g7⟩⟩⟩⟩
      · rintro e F5 ⟨g0, g1, g2, g3, g4, g5, g6, g7⟩ he
        omega
    refine R_X5_step_16 hsh ?_
    unfold V_X5_step_16
    rw [n2, f4]
    refine ⟨fun y => fin (by omega), fun y => ⟨by omega, by omega, fun z => fin (fun q => z q.2), fun z => ⟨by omega, fun F4 e4 => ih F4 ⟨by omega, by omega, fun c hc => by rw [e4, fu_row hc]; exact f1 c hc, fun k hk => by rw [e4, fu_k hk]; exact f2 k hk, by rw [e4, fu_s], by rw [← sk_s (by omega) z]; exact fs⟩⟩⟩⟩
  · rintro p F2 ⟨p0, p1, f1, f2, f4, fs⟩ hp
    omega
