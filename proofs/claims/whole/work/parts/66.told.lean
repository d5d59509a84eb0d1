/-! WHAT IS TOLD: the reference's row, the system's ring -/
def nv (a0 a1 a2 a3 a4 a5 a6 : Int) : Int → Int := fun w => if w = 0 then a0 else if w = 1 then a1 else if w = 2 then a2 else if w = 3 then a3 else if w = 4 then a4 else if w = 5 then a5 else a6
def put7 (G : AG) (c : Nat) (b a0 a1 a2 a3 a4 a5 a6 : Int) : AG := gu (gu (gu (gu (gu (gu (gu G c b a0) c (b + 1) a1) c (b + 2) a2) c (b + 3) a3) c (b + 4) a4) c (b + 5) a5) c (b + 6) a6
theorem put7_c {G : AG} {c c' : Nat} {b a0 a1 a2 a3 a4 a5 a6 : Int} (h : c' ≠ c) : put7 G c b a0 a1 a2 a3 a4 a5 a6 c' = G c' := by
  unfold put7
  rw [gu_row h, gu_row h, gu_row h, gu_row h, gu_row h, gu_row h, gu_row h]
theorem put7_o {G : AG} {c : Nat} {b a0 a1 a2 a3 a4 a5 a6 i : Int} (h : i < b ∨ b + 7 ≤ i) : put7 G c b a0 a1 a2 a3 a4 a5 a6 c i = G c i := by
  unfold put7
  rw [gu_i (by omega), gu_i (by omega), gu_i (by omega), gu_i (by omega), gu_i (by omega), gu_i (by omega), gu_i (by omega)]
theorem put7_in {G : AG} {c : Nat} {b a0 a1 a2 a3 a4 a5 a6 w : Int} (h0 : 0 ≤ w) (h1 : w < 7) : put7 G c b a0 a1 a2 a3 a4 a5 a6 c (b + w) = nv a0 a1 a2 a3 a4 a5 a6 w := by
  unfold put7 nv
  by_cases e0 : w = 0
  · subst e0
    rw [Int.add_zero, gu_i (by omega), gu_i (by omega), gu_i (by omega), gu_i (by omega), gu_i (by omega), gu_i (by omega), gu_s, if_pos rfl]
  rw [if_neg e0]
  by_cases e1 : w = 1
  · subst e1
    rw [gu_i (by omega), gu_i (by omega), gu_i (by omega), gu_i (by omega), gu_i (by omega), gu_s, if_pos rfl]
  rw [if_neg e1]
  by_cases e2 : w = 2
  · subst e2
    rw [gu_i (by omega), gu_i (by omega), gu_i (by omega), gu_i (by omega), gu_s, if_pos rfl]
  rw [if_neg e2]
  by_cases e3 : w = 3
  · subst e3
    rw [gu_i (by omega), gu_i (by omega), gu_i (by omega), gu_s, if_pos rfl]
  rw [if_neg e3]
  by_cases e4 : w = 4
  · subst e4
    rw [gu_i (by omega), gu_i (by omega), gu_s, if_pos rfl]
  rw [if_neg e4]
  by_cases e5 : w = 5
  · subst e5
    rw [gu_i (by omega), gu_s, if_pos rfl]
  rw [if_neg e5]
  have e6 : w = 6 := by omega
  subst e6
  rw [gu_s]
/-- one act more is told; of forty the eldest is forgotten -/
def Tld (n n' : Int) (t t' : Int → Int → Int) (v : Int → Int) : Prop := (∀ w : Int, 0 ≤ w → w < 7 → t' (n' - 1) w = v w) ∧ ((n < 40 ∧ n' = n + 1 ∧ ∀ i w : Int, 0 ≤ i → i < n → 0 ≤ w → w < 7 → t' i w = t i w) ∨ (n = 40 ∧ n' = 40 ∧ ∀ i w : Int, 0 ≤ i → i < 39 → 0 ≤ w → w < 7 → t' i w = t (i + 1) w))
theorem tld_eq {n n' m' : Int} {t t' u u' : Int → Int → Int} {v : Int → Int} (h : Tld n n' t t' v) (k : Tld n m' u u' v) (e : ∀ i w : Int, 0 ≤ i → i < n → 0 ≤ w → w < 7 → t i w = u i w) : n' = m' ∧ ∀ i w : Int, 0 ≤ i → i < n' → 0 ≤ w → w < 7 → t' i w = u' i w := by
  obtain ⟨h1, h2⟩ := h
  obtain ⟨k1, k2⟩ := k
  rcases h2 with ⟨a1, a2, a3⟩ | ⟨a1, a2, a3⟩
  · rcases k2 with ⟨b1, b2, b3⟩ | ⟨b1, b2, b3⟩
    · refine ⟨by omega, fun i w i0 i1 w0 w1 => ?_⟩
      by_cases z : i = n' - 1
      · have z2 : i = m' - 1 := by omega
        have p := h1 w w0 w1
        have q := k1 w w0 w1
        rw [← z] at p
        rw [← z2] at q
        rw [p, q]
      · rw [a3 i w i0 (by omega) w0 w1, b3 i w i0 (by omega) w0 w1]
        exact e i w i0 (by omega) w0 w1
    · omega
  · rcases k2 with ⟨b1, b2, b3⟩ | ⟨b1, b2, b3⟩
    · omega
    · refine ⟨by omega, fun i w i0 i1 w0 w1 => ?_⟩
      by_cases z : i = n' - 1
      · have z2 : i = m' - 1 := by omega
        have p := h1 w w0 w1
        have q := k1 w w0 w1
        rw [← z] at p
        rw [← z2] at q
        rw [p, q]
      · rw [a3 i w i0 (by omega) w0 w1, b3 i w i0 (by omega) w0 w1]
        exact e (i + 1) w (by omega) (by omega) w0 w1
def mt (G : AG) (i w : Int) : Int := G 62 (7 * i + w)
def ct (F : AF) (G : AG) (i w : Int) : Int := G 45 ((F 44 1 + i) % 40 * 7 + w)
def TellQ (F F' : AF) (G G' : AG) (v : Int → Int) : Prop := (∀ c : Nat, c ≠ 53 → F' c = F c) ∧ (∀ k : Nat, k ≠ 14 → F' 53 k = F 53 k) ∧ (∀ c : Nat, c ≠ 61 → c ≠ 62 → G' c = G c) ∧ Tld (F 53 14) (F' 53 14) (mt G) (mt G') v ∧ ∀ k : Int, 0 ≤ k → G' 61 k = G 61 k + (if k = F 53 11 - 1 then 1 else 0)
theorem ok_tells {d : Nat} {S : AS} {F : AF} {G : AG} (hsm : ShM S) (n0 : 0 ≤ F 53 14) (n1 : F 53 14 ≤ 40) (o0 : 0 ≤ F 53 11) (o8 : F 53 11 ≤ 8) (hd : ∀ k : Int, 0 ≤ k → k < F 53 11 → 0 ≤ G 61 k ∧ G 61 k ≤ 1000000000) {a0 a1 a2 a3 a4 a5 a6 : Int} {Q : AQ} (hq : ∀ F' G', TellQ F F' G G' (nv a0 a1 a2 a3 a4 a5 a6) → Q none S F' G') : Ok d MX10_tells [vR 53, vI a0, vI a1, vI a2, vI a3, vI a4, vI a5, vJ a6] S F G Q := by
  have fin : ∀ (F1 : AF) (G1 : AG), (∀ c : Nat, c ≠ 53 → F1 c = F c) → (∀ k : Nat, k ≠ 14 → F1 53 k = F 53 k) → (∀ c : Nat, c ≠ 62 → G1 c = G c) → ((F 53 14 < 40 ∧ F1 53 14 = F 53 14 ∧ G1 = G) ∨ (F 53 14 = 40 ∧ F1 53 14 = 39 ∧ ∀ i w : Int, 0 ≤ i → i < 39 → 0 ≤ w → w < 7 → G1 62 (7 * i + w) = G 62 (7 * (i + 1) + w))) → V_X10_tells_53 d S F1 G1 Q a0 a1 a2 a3 a4 a5 a6 := by
    intro F1 G1 f1 f2 g1 alt
    have b : 0 ≤ F1 53 14 ∧ F1 53 14 ≤ 39 := by
      rcases alt with ⟨x, y, -⟩ | ⟨x, y, -⟩ <;> omega
    unfold V_X10_tells_53
    refine ⟨by omega, fun x ex => ⟨by omega, by omega, fun G5 e5 => ⟨by omega, by omega, by omega, fun G9 e9 => ⟨by omega, by omega, by omega, fun G13 e13 => ⟨by omega, by omega, by omega, fun G17 e17 => ⟨by omega, by omega, by omega, fun G21 e21 => ⟨by omega, by omega, by omega, fun G25 e25 => ⟨by omega, by omega, by omega, fun G29 e29 => ⟨by omega, fun F31 e31 => ?_⟩⟩⟩⟩⟩⟩⟩⟩⟩
    have e : G29 = put7 G1 62 x a0 a1 a2 a3 a4 a5 a6 := by rw [e29, e25, e21, e17, e13, e9, e5]; rfl
    have n14 : F31 53 14 = F1 53 14 + 1 := by rw [e31, fu_s]
    have n11 : F31 53 11 = F 53 11 := by rw [e31, fu_k (by decide)]; exact f2 11 (by decide)
    have k1 : ∀ c : Nat, c ≠ 53 → F31 c = F c := fun c hc => by rw [e31, fu_row hc]; exact f1 c hc
    have k2 : ∀ k : Nat, k ≠ 14 → F31 53 k = F 53 k := fun k hk => by rw [e31, fu_k hk]; exact f2 k hk
    have k3 : ∀ c : Nat, c ≠ 62 → G29 c = G c := fun c hc => by rw [e, put7_c hc]; exact g1 c hc
    have k4 : Tld (F 53 14) (F31 53 14) (mt G) (mt G29) (nv a0 a1 a2 a3 a4 a5 a6) := by
      refine ⟨fun w w0 w1 => ?_, ?_⟩
      · have : 7 * (F31 53 14 - 1) + w = x + w := by omega
        unfold mt
        rw [this, e]; exact put7_in w0 w1
      · rcases alt with ⟨x1, x2, x3⟩ | ⟨x1, x2, x3⟩
        · refine Or.inl ⟨x1, by omega, fun i w i0 i1 w0 w1 => ?_⟩
          unfold mt
          rw [e, put7_o (by omega), x3]
        · refine Or.inr ⟨x1, by omega, fun i w i0 i1 w0 w1 => ?_⟩
          unfold mt
          rw [e, put7_o (by omega)]; exact x3 i w i0 i1 w0 w1
    rw [n11]
    refine ⟨fun y => hq F31 G29 ⟨k1, k2, fun c c61 c62 => k3 c c62, k4, fun k k0 => by rw [k3 61 (by decide), if_neg (by omega), Int.add_zero]⟩, fun y => ?_⟩
    have db := hd (F 53 11 - 1) (by omega) (by omega)
    rw [k3 61 (by decide)]
    refine ⟨by omega, by omega, by omega, by omega, fun G36 e36 => hq F31 G36 ⟨k1, k2, fun c c61 c62 => by rw [e36, gu_row c61]; exact k3 c c62, ?_, fun k k0 => ?_⟩⟩
    · have : mt G36 = mt G29 := by
        funext i w
        unfold mt
        rw [e36, gu_c (by decide)]
      rw [this]; exact k4
    · by_cases z : k = F 53 11 - 1
      · rw [e36, z, gu_s, if_pos rfl]
      · rw [e36, gu_i z, if_neg z, k3 61 (by decide), Int.add_zero]
  refine ok_go rfl (by decide) (Nat.le_of_ble_eq_true rfl) (R_X10_tells_0 hsm ?_)
  unfold V_X10_tells_0
  refine ⟨fun y => fin F G (fun _ _ => rfl) (fun _ _ => rfl) (fun _ _ => rfl) (Or.inl ⟨by omega, rfl, rfl⟩), fun y => ?_⟩
  refine up_ind (α := AG) 272 (fun i G1 => 0 ≤ i ∧ i ≤ 273 ∧ (∀ c : Nat, c ≠ 62 → G1 c = G c) ∧ (∀ k : Int, 0 ≤ k → k < i → G1 62 k = G 62 (k + 7)) ∧ ∀ k : Int, i ≤ k → G1 62 k = G 62 k) (fun i G1 => Go d MX10_tells 12 [some (vR 53), some (vI a0), some (vI a1), some (vI a2), some (vI a3), some (vI a4), some (vI a5), some (vJ a6), none, some (vI i)] [] S F G1 Q) ?_ ?_ 0 G ⟨by omega, by omega, fun _ _ => rfl, fun k _ z => absurd z (by omega), fun _ _ => rfl⟩
  · rintro i G1 ⟨i0, i1, u1, u2, u3⟩ hi ih
    refine R_X10_tells_12 hsm ?_
    unfold V_X10_tells_12
    refine ⟨fun z => absurd z (by omega), fun _ => ⟨by omega, by omega, by omega, by omega, by omega, fun G8 e8 => ⟨by omega, ih G8 ⟨by omega, by omega, fun c hc => by rw [e8, gu_row hc]; exact u1 c hc, fun k k0 k1 => ?_, fun k k0 => ?_⟩⟩⟩⟩
    · by_cases z : k = i
      · rw [e8, z, gu_s]; exact u3 _ (by omega)
      · rw [e8, gu_i z]; exact u2 k k0 (by omega)
    · rw [e8, gu_i (by omega)]; exact u3 k (by omega)
  · rintro i G1 ⟨i0, i1, u1, u2, u3⟩ hi
    refine R_X10_tells_12 hsm ?_
    unfold V_X10_tells_12
    refine ⟨fun z => ⟨by omega, fun F2 e2 => fin F2 G1 (fun c hc => by rw [e2, fu_row hc]) (fun k hk => by rw [e2, fu_k hk]) u1 (Or.inr ⟨y, by rw [e2, fu_s]; omega, fun i w i0 i1 w0 w1 => ?_⟩)⟩, fun z => absurd z (by omega)⟩
    rw [u2 _ (by omega) (by omega)]
    congr 1
    omega
theorem tmod_pos {a b : Int} (h : 0 ≤ a) : Int.tmod a b = a % b := Int.tmod_eq_emod_of_nonneg h
theorem tdiv_pos {a b : Int} (h : 0 ≤ a) : Int.tdiv a b = a / b := Int.tdiv_eq_ediv_of_nonneg h
def STd (F : AF) : Prop := 0 ≤ F 44 1 ∧ F 44 1 < 40 ∧ 0 ≤ F 44 2 ∧ F 44 2 ≤ 40
theorem pu_rowOf {d : Nat} {S : AS} {F : AF} {G : AG} (hsh : ShC S) (h0 : 0 ≤ F 44 1) (h1 : F 44 1 < 40) {i : Int} (i0 : 0 ≤ i) (i1 : i ≤ 40) : Pu d MX6_rowOf [vR 44, vI i] S F G (some (vI ((F 44 1 + i) % 40 * 7))) := by
  refine ok_go rfl (by decide) (Nat.le_of_ble_eq_true rfl) (R_X6_rowOf_0 hsh ?_)
  unfold V_X6_rowOf_0
  rw [tmod_pos (by omega), tdiv_pos (by omega)]
  exact ⟨by omega, by omega, by omega, by omega, rfl, rfl, rfl, rfl⟩
theorem pu_told {d : Nat} {S : AS} {F : AF} {G : AG} (hd : 1 ≤ d) (hsh : ShC S) (h : STd F) {i w : Int} (i0 : 0 ≤ i) (i1 : i < F 44 2) (w0 : 0 ≤ w) (w1 : w < 7) : Pu d MX6_told [vR 44, vI i, vI w] S F G (some (vJ (ct F G i w))) := by
  obtain ⟨h1, h2, h3, h4⟩ := h
  refine ok_go rfl (by decide) (Nat.le_of_ble_eq_true rfl) (R_X6_told_0 hsh ?_)
  unfold V_X6_told_0
  exact ⟨hd, _, pu_rowOf hsh h1 h2 i0 (by omega), by omega, by omega, by omega, rfl, rfl, rfl, rfl⟩
theorem ok_dropLatest {d : Nat} {S : AS} {F : AF} {G : AG} (hd : 1 ≤ d) (hsh : ShC S) (h : STd F) {n : Int} (n0 : 0 ≤ n) (n1 : n ≤ 2000000000) {Q : AQ} (hq : Q none S (fu F 44 2 (max 0 (F 44 2 - n))) G) : Ok d MX6_dropLatest [vR 44, vI n] S F G Q := by
  obtain ⟨h1, h2, h3, h4⟩ := h
  refine ok_go rfl (by decide) (Nat.le_of_ble_eq_true rfl) (R_X6_dropLatest_0 hsh ?_)
  unfold V_X6_dropLatest_0
  refine ⟨by omega, hd, fun F3 e3 => ?_⟩
  rw [e3]; exact hq
theorem ok_sclear {d : Nat} {S : AS} {F : AF} {G : AG} (hsh : ShC S) {Q : AQ} (hq : Q none S (fu (fu F 44 1 0) 44 2 0) G) : Ok d MX6_clear [vR 44] S F G Q := by
  refine ok_go rfl (by decide) (Nat.le_of_ble_eq_true rfl) (R_X6_clear_0 hsh ?_)
  unfold V_X6_clear_0
  intro F1 e1 F2 e2
  rw [e2, e1]; exact hq
def StdQ (F F' : AF) (G G' : AG) (v : Int → Int) : Prop := (∀ c : Nat, c ≠ 44 → F' c = F c) ∧ (∀ c : Nat, c ≠ 45 → G' c = G c) ∧ STd F' ∧ Tld (F 44 2) (F' 44 2) (ct F G) (ct F' G') v
theorem ok_sput {d : Nat} {S : AS} {F : AF} {G : AG} (hd : 1 ≤ d) (hsh : ShC S) (h : STd F) {re : Nat} (hk : AtRect S re) (h44 : re ≠ 44) {a0 a1 a6 : Int} {Q : AQ} (hq : ∀ F' G', StdQ F F' G G' (nv a0 a1 (F re 0) (F re 1) (F re 2) (F re 3) a6) → Q none S F' G') : Ok d MX6_put [vR 44, vI a0, vI a1, vR re, vJ a6] S F G Q := by
  obtain ⟨h1, h2, h3, h4⟩ := h
  have fin : ∀ F1 : AF, (∀ c : Nat, c ≠ 44 → F1 c = F c) → 0 ≤ F1 44 1 → F1 44 1 < 40 → ((F 44 2 < 40 ∧ F1 44 2 = F 44 2 ∧ F1 44 1 = F 44 1) ∨ (F 44 2 = 40 ∧ F1 44 2 = 39 ∧ F1 44 1 = (F 44 1 + 1) % 40)) → V_X6_put_32 d S F1 G Q a0 a1 re a6 := by
    intro F1 f1 b0 b1 alt
    have b : 0 ≤ F1 44 2 ∧ F1 44 2 ≤ 39 := by
      rcases alt with ⟨x, y, -⟩ | ⟨x, y, -⟩ <;> omega
    have er : F1 re = F re := f1 re h44
    unfold V_X6_put_32
    refine ⟨hd, _, pu_rowOf hsh b0 b1 b.1 (by omega), ?_⟩
    generalize hz : (F1 44 1 + F1 44 2) % 40 * 7 = z
    have zb : 0 ≤ z ∧ z ≤ 273 := by omega
    refine ⟨by omega, by omega, fun G10 e10 => ⟨by omega, by omega, by omega, fun G14 e14 => ?_⟩⟩
    refine up_ind (α := AG) 3 (fun i G1 => 0 ≤ i ∧ i ≤ 4 ∧ (∀ c : Nat, c ≠ 45 → G1 c = G c) ∧ G1 45 z = a0 ∧ G1 45 (z + 1) = a1 ∧ (∀ k : Int, 0 ≤ k → k < i → G1 45 (z + 2 + k) = sideR F re k) ∧ ∀ k : Int, (k < z ∨ z + 7 ≤ k) → G1 45 k = G 45 k) (fun i G1 => Go d MX6_put 65 [some (vR 44), some (vI a0), some (vI a1), some (vR re), some (vJ a6), none, some (vI z), some (vI i)] [] S F1 G1 Q) ?_ ?_ 0 G14 ⟨by omega, by omega, fun c hc => by rw [e14, e10, gu_row hc, gu_row hc], by rw [e14, e10, gu_i (by omega), gu_s], by rw [e14, gu_s], fun k _ y => absurd y (by omega), fun k hk => by rw [e14, e10, gu_i (by omega), gu_i (by omega)]⟩
    · rintro i G1 ⟨i0, i1, u1, u2, u3, u4, u5⟩ hi ih
      have ps := pu_side (d := d - 1) (S := S) (F := F1) (G := G1) hk i
      have es : sideR F1 re i = sideR F re i := by unfold sideR; rw [er]
      rw [es] at ps
      refine R_X6_put_65 hsh hk ?_
      unfold V_X6_put_65
      refine ⟨fun y => absurd y (by omega), fun _ => ⟨by omega, by omega, hd, _, ps, by omega, by omega, fun G18 e18 => ⟨by omega, ih G18 ⟨by omega, by omega, fun c hc => by rw [e18, gu_row hc]; exact u1 c hc, by rw [e18, gu_i (by omega)]; exact u2, by rw [e18, gu_i (by omega)]; exact u3, fun k k0 k1 => ?_, fun k hk2 => by rw [e18, gu_i (by omega)]; exact u5 k hk2⟩⟩⟩⟩
      by_cases y : k = i
      · rw [e18, y, gu_s]
      · rw [e18, gu_i (by omega)]; exact u4 k k0 (by omega)
    · rintro i G1 ⟨i0, i1, u1, u2, u3, u4, u5⟩ hi
      refine R_X6_put_65 hsh hk ?_
      unfold V_X6_put_65
      refine ⟨fun _ => ⟨by omega, by omega, by omega, fun G4 e4 => ⟨by omega, fun F6 e6 => ?_⟩⟩, fun y => absurd y (by omega)⟩
      have m1 : F6 44 1 = F1 44 1 := by rw [e6, fu_k (by decide)]
      have m2 : F6 44 2 = F1 44 2 + 1 := by rw [e6, fu_s]
      refine hq F6 G4 ⟨fun c hc => by rw [e6, fu_row hc]; exact f1 c hc, fun c hc => by rw [e4, gu_row hc]; exact u1 c hc, ⟨by omega, by omega, by omega, by omega⟩, fun w w0 w1 => ?_, ?_⟩
      · have e1 : (F6 44 1 + (F6 44 2 - 1)) % 40 * 7 = z := by
          rw [m1, m2, ← hz]
          congr 2
          omega
        unfold ct nv
        rw [e1, e4]
        have s0 := u4 0 (by omega) (by omega)
        have s1 := u4 1 (by omega) (by omega)
        have s2 := u4 2 (by omega) (by omega)
        have s3 := u4 3 (by omega) (by omega)
        unfold sideR at s0 s1 s2 s3
        rw [if_pos rfl] at s0
        rw [if_neg (by decide), if_pos rfl] at s1
        rw [if_neg (by decide), if_neg (by decide), if_pos rfl] at s2
        rw [if_neg (by decide), if_neg (by decide), if_neg (by decide)] at s3
        by_cases y0 : w = 0
        · subst y0
          rw [if_pos rfl, gu_i (by omega), Int.add_zero]; exact u2
        rw [if_neg y0]
        by_cases y1 : w = 1
        · subst y1
          rw [if_pos rfl, gu_i (by omega)]; exact u3
        rw [if_neg y1]
        by_cases y2 : w = 2
        · subst y2
          rw [if_pos rfl, gu_i (by omega)]; rw [Int.add_zero] at s0; exact s0
        rw [if_neg y2]
        by_cases y3 : w = 3
        · subst y3
          rw [if_pos rfl, gu_i (by omega)]
          have : z + 2 + 1 = z + 3 := by omega
          rw [this] at s1; exact s1
        rw [if_neg y3]
        by_cases y4 : w = 4
        · subst y4
          rw [if_pos rfl, gu_i (by omega)]
          have : z + 2 + 2 = z + 4 := by omega
          rw [this] at s2; exact s2
        rw [if_neg y4]
        by_cases y5 : w = 5
        · subst y5
          rw [if_pos rfl, gu_i (by omega)]
          have : z + 2 + 3 = z + 5 := by omega
          rw [this] at s3; exact s3
        rw [if_neg y5]
        have y6 : w = 6 := by omega
        subst y6
        rw [gu_s]
      · rcases alt with ⟨x1, x2, x3⟩ | ⟨x1, x2, x3⟩
        · refine Or.inl ⟨x1, by omega, fun i w i0 i1 w0 w1 => ?_⟩
          unfold ct
          rw [m1, x3, e4, gu_i (by omega)]
          exact u5 _ (by omega)
        · refine Or.inr ⟨x1, by omega, fun i w i0 i1 w0 w1 => ?_⟩
          unfold ct
          have e1 : (F6 44 1 + i) % 40 = (F 44 1 + (i + 1)) % 40 := by omega
          rw [e1, e4, gu_i (by omega)]
          exact u5 _ (by omega)
  refine ok_go rfl (by decide) (Nat.le_of_ble_eq_true rfl) (R_X6_put_0 hsh hk ?_)
  unfold V_X6_put_0
  refine ⟨fun y => fin F (fun _ _ => rfl) h1 h2 (Or.inl ⟨by omega, rfl, rfl⟩), fun y => ?_⟩
  rw [tmod_pos (by omega), tdiv_pos (by omega)]
  refine ⟨by omega, by omega, by omega, fun F4 e4 => ?_⟩
  have q2 : F4 44 2 = 40 := by rw [e4, fu_k (by decide)]; exact y
  refine ⟨by omega, fun F6 e6 => ?_⟩
  have q1 : F6 44 1 = (F 44 1 + 1) % 40 := by rw [e6, fu_k (by decide), e4, fu_s]
  exact fin F6 (fun c hc => by rw [e6, fu_row hc, e4, fu_row hc]) (by omega) (by omega) (Or.inr ⟨y, by rw [e6, fu_s]; omega, q1⟩)
