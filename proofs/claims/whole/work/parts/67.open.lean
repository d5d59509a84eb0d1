/-! WHAT IS OPEN: saving, joining, restoring; clearing -/
theorem na_n {S : AS} {K N z : Nat} : sn (na S K N z) = sn S + 1 := rfl
theorem na_K {S : AS} {K N z c : Nat} (h : c ≠ sn S + 1) : sK (na S K N z) c = sK S c := if_neg h
theorem na_N {S : AS} {K N z c : Nat} (h : c ≠ sn S + 1) : sN (na S K N z) c = sN S c := if_neg h
theorem na_R {S : AS} {K N z c k : Nat} (h : c ≠ sn S + 1) : sR (na S K N z) c k = sR S c k := if_neg h
theorem na_Ks {S : AS} {K N z : Nat} : sK (na S K N z) (sn S + 1) = K := if_pos rfl
theorem na_Ns {S : AS} {K N z : Nat} : sN (na S K N z) (sn S + 1) = N := if_pos rfl
theorem ru_K {S : AS} {c k r : Nat} : sK (ru S c k r) = sK S := rfl
theorem ru_N {S : AS} {c k r : Nat} : sN (ru S c k r) = sN S := rfl
theorem ru_n {S : AS} {c k r : Nat} : sn (ru S c k r) = sn S := rfl
/-- how many were ever open at once -/
def ShN (S : AS) (n : Nat) : Prop := n ≤ 8 ∧ (sn S = 77 + 2 * n ∧ ss S ≤ 200000 + 7000 * n) ∧ (∀ j, sR S 21 j = if j < n then 78 + 2 * j else 0) ∧ ∀ j, j < n → sK S (78 + 2 * j) = 4 ∧ sR S (78 + 2 * j) 0 = 79 + 2 * j ∧ sK S (79 + 2 * j) = 21 ∧ sN S (79 + 2 * j) = 6912
theorem opn_shn {S : AS} {F : AF} {n : Nat} (h : ShN S n) (o0 : 0 ≤ F 2 8) (o1 : F 2 8 ≤ n) : Opn S F := by
  obtain ⟨h1, h2, h3, h4⟩ := h
  refine ⟨o0, by omega, fun k hk => ?_⟩
  have hk' : k < n := by omega
  have := h4 k hk'
  have e : 78 + 2 * k + 1 = 79 + 2 * k := by omega
  refine ⟨by rw [h3 k, if_pos hk'], this.1, ?_, ?_, ?_⟩
  · rw [e]; exact this.2.1
  · rw [e]; exact this.2.2.1
  · rw [e]; exact this.2.2.2
/-- like shapes -/
def SLike (S S' : AS) : Prop := sL S' = sL S ∧ sx S' = sx S
def SavQ (S S' : AS) (F F' : AF) (G G' : AG) : Prop := SLike S S' ∧ ShC S' ∧ ShM S' ∧ (∃ n : Nat, ShN S' n ∧ F' 2 8 ≤ n) ∧ (∀ c : Nat, c < 78 → c ≠ 2 → F' c = F c) ∧ (∀ k : Nat, k ≠ 8 → F' 2 k = F 2 k) ∧ F' 2 8 = F 2 8 + 1 ∧ (∀ c : Nat, c < 78 → G' c = G c) ∧ (∀ k : Nat, (k : Int) < F 2 8 → F' (78 + 2 * k) 1 = F (78 + 2 * k) 1 ∧ G' (79 + 2 * k) = G (79 + 2 * k)) ∧ F' (78 + 2 * (F 2 8).toNat) 1 = 0 ∧ ∀ i : Int, 0 ≤ i → i < 6912 → G' (79 + 2 * (F 2 8).toNat) i = G 18 i
theorem ok_save {d : Nat} {S : AS} {F : AF} {G : AG} {n : Nat} (hd : 2 ≤ d) (hsh : ShC S) (hsm : ShM S) (hn : ShN S n) (o0 : 0 ≤ F 2 8) (o1 : F 2 8 ≤ n) (o8 : F 2 8 < 8) {Q : AQ} (hq : ∀ S' F' G', SavQ S S' F F' G G' → Q none S' F' G') : Ok d MX2_save [vR 2] S F G Q := by
  obtain ⟨n1, n2, n3, n4⟩ := id hn
  have fin : ∀ (S' : AS) (F1 : AF) (G1 : AG) (n' : Nat), SLike S S' → ShC S' → ShM S' → ShN S' n' → F 2 8 < n' → (∀ c : Nat, c < 78 + 2 * (F 2 8).toNat → F1 c = F c) → (∀ c : Nat, c < 78 + 2 * (F 2 8).toNat → G1 c = G c) → V_X2_save_41 d S' F1 G1 Q := by
    intro S' F1 G1 n' sl hs hm hN hlt f1 g1
    obtain ⟨m1, m2, m3, m4⟩ := id hN
    have e2 : F1 2 8 = F 2 8 := by rw [f1 2 (by omega)]
    have er : sR S' 21 (F 2 8).toNat = 78 + 2 * (F 2 8).toNat := by rw [m3, if_pos (by omega)]
    have e79 : 78 + 2 * (F 2 8).toNat + 1 = 79 + 2 * (F 2 8).toNat := by omega
    have av : AtSaved S' (78 + 2 * (F 2 8).toNat) := by
      have := m4 (F 2 8).toNat (by omega)
      refine ⟨this.1, ?_, ?_, ?_⟩
      · rw [e79]; exact this.2.1
      · rw [e79]; exact this.2.2.1
      · rw [e79]; exact this.2.2.2
    unfold V_X2_save_41
    rw [e2, er]
    refine ⟨o0, o8, av, by omega, by omega, fun G6 e6 F7 e7 => ?_⟩
    have e72 : F7 2 8 = F 2 8 := by rw [e7, fu_c (by omega)]; exact e2
    refine ⟨by omega, fun F9 e9 => hq S' F9 G6 ⟨sl, hs, hm, ⟨n', hN, ?_⟩, fun c c0 c2 => ?_, fun k hk => ?_, ?_, fun c c0 => ?_, fun k hk => ⟨?_, ?_⟩, ?_, fun i i0 i1 => ?_⟩⟩
    · rw [e9, fu_s, e72]; omega
    · rw [e9, fu_row c2, e7, fu_row (by omega)]; exact f1 c (by omega)
    · rw [e9, fu_k hk, e7, fu_c (by omega), f1 2 (by omega)]
    · rw [e9, fu_s, e72]
    · rw [e6]
      funext j
      rw [gcp_c (by omega), g1 c (by omega)]
    · rw [e9, fu_c (by omega), e7, fu_c (by omega), f1 _ (by omega)]
    · rw [e6]
      funext j
      rw [gcp_c (by omega), g1 _ (by omega)]
    · rw [e9, fu_c (by omega), e7, fu_s]
    · rw [e6, e79]
      simp only [gcp]
      rw [if_pos ⟨trivial, i0, by omega⟩, g1 18 (by omega)]
      congr 1
      omega
  refine ok_go rfl (by decide) (Nat.le_of_ble_eq_true rfl) (R_X2_save_0 hsh ?_)
  unfold V_X2_save_0
  refine ⟨fun _ => ⟨o0, o8, fun y => ?_, fun y => ?_⟩, fun y => absurd o8 y⟩
  · have lt : F 2 8 < n := by
      by_cases w : F 2 8 < n
      · exact w
      · rw [n3, if_neg (by omega)] at y
        exact absurd rfl y
    exact fin S F G n ⟨rfl, rfl⟩ hsh hsm hn lt (fun _ _ => rfl) (fun _ _ => rfl)
  · have eo : F 2 8 = n := by
      by_cases w : F 2 8 < n
      · rw [n3, if_pos (by omega)] at y
        omega
      · omega
    have et : (F 2 8).toNat = n := by omega
    refine ⟨by omega, fun x4 ex S5 e5 F6 ef6 G7 eg7 => ?_⟩
    have s5n : sn S5 = 78 + 2 * n := by rw [e5, na_n]; omega
    have x4e : x4 = 78 + 2 * n := by omega
    have k5 : ∀ c, c ≠ 78 + 2 * n → sK S5 c = sK S c := fun c hc => by rw [e5, na_K (by omega)]
    have l5 : ∀ c, c ≠ 78 + 2 * n → sN S5 c = sN S c := fun c hc => by rw [e5, na_N (by omega)]
    have r5 : ∀ c k, c ≠ 78 + 2 * n → sR S5 c k = sR S c k := fun c k hc => by rw [e5, na_R (by omega)]
    have sc5 : ShC S5 := by
      refine ⟨fun c c0 c1 => ?_, fun c k c0 c1 c2 => ?_, n, n1, fun j => ?_, fun j hj => ?_⟩
      · rw [k5 c (by omega), l5 c (by omega)]; exact hsh.1 c c0 c1
      · rw [r5 c k (by omega)]; exact hsh.2.1 c k c0 c1 c2
      · rw [r5 21 j (by omega)]; exact n3 j
      · rw [k5 _ (by omega), r5 _ _ (by omega), k5 _ (by omega), l5 _ (by omega)]; exact n4 j hj
    have sx5 : sL S5 = sL S ∧ sx S5 = sx S := by rw [e5]; exact ⟨rfl, rfl⟩
    refine ⟨sc5, by omega, by omega, ?_⟩
    refine ok_go rfl (by decide) (Nat.le_of_ble_eq_true rfl) (R_X4_init_0 ?_)
    unfold V_X4_init_0
    refine ⟨by omega, by omega, by omega, fun y4 ey S6 e6 F8 ef8 G9 eg9 => ?_⟩
    have y4e : y4 = 79 + 2 * n := by omega
    have s6n : sn S6 = 79 + 2 * n := by rw [e6, na_n]; omega
    have k6 : ∀ c, c ≠ 79 + 2 * n → sK S6 c = sK S5 c := fun c hc => by rw [e6, na_K (by omega)]
    have l6 : ∀ c, c ≠ 79 + 2 * n → sN S6 c = sN S5 c := fun c hc => by rw [e6, na_N (by omega)]
    have r6 : ∀ c k, c ≠ 79 + 2 * n → sR S6 c k = sR S5 c k := fun c k hc => by rw [e6, na_R (by omega)]
    have kx : sK S6 x4 = 4 := by rw [k6 _ (by omega), e5, ex, na_Ks]
    have ky : sK S6 (79 + 2 * n) = 21 := by
      have := na_Ks (S := S5) (K := 21) (N := 6912) (z := 6912)
      have e : sn S5 + 1 = 79 + 2 * n := by omega
      rw [e6, ← e]; exact this
    have ly : sN S6 (79 + 2 * n) = 6912 := by
      have := na_Ns (S := S5) (K := 21) (N := 6912) (z := 6912)
      have e : sn S5 + 1 = 79 + 2 * n := by omega
      rw [e6, ← e]; exact this
    refine ⟨kx, by omega, fun S10 e10 => ⟨rfl, ?_⟩⟩
    have k10 : sK S10 = sK S6 := by rw [e10, ru_K]
    have l10 : sN S10 = sN S6 := by rw [e10, ru_N]
    have r10 : ∀ c k, c ≠ x4 → sR S10 c k = sR S6 c k := fun c k hc => by rw [e10, ru_c hc]
    have rx : sR S10 x4 0 = y4 := by rw [e10, ru_s]
    have sc10 : ShC S10 := by
      refine ⟨fun c c0 c1 => ?_, fun c k c0 c1 c2 => ?_, n, n1, fun j => ?_, fun j hj => ?_⟩
      · rw [k10, l10, k6 c (by omega), l6 c (by omega)]; exact sc5.1 c c0 c1
      · rw [r10 c k (by omega), r6 c k (by omega)]; exact sc5.2.1 c k c0 c1 c2
      · rw [r10 21 j (by omega), r6 21 j (by omega), r5 21 j (by omega)]; exact n3 j
      · rw [k10, l10, r10 _ _ (by omega), k6 _ (by omega), r6 _ _ (by omega), k6 _ (by omega), l6 _ (by omega), k5 _ (by omega), r5 _ _ (by omega), k5 _ (by omega), l5 _ (by omega)]; exact n4 j hj
    have av : AtSaved S10 x4 := by
      have e : x4 + 1 = 79 + 2 * n := by omega
      refine ⟨by rw [k10]; exact kx, by rw [rx]; omega, ?_, ?_⟩
      · rw [k10, e]; exact ky
      · rw [l10, e]; exact ly
    refine ⟨sc10, o0, o8, av, fun S17 e17 => ?_⟩
    have k17 : sK S17 = sK S6 := by rw [e17, ru_K]; exact k10
    have l17 : sN S17 = sN S6 := by rw [e17, ru_N]; exact l10
    have r17 : ∀ c k, c ≠ 21 → sR S17 c k = sR S10 c k := fun c k hc => by rw [e17, ru_c hc]
    have sN17 : ShN S17 (n + 1) := by
      refine ⟨by omega, ?_, fun j => ?_, fun j hj => ?_⟩
      · have u10 : ss S17 = ss S + 2 + 6912 := by rw [e17, e10, e6, e5]; rfl
        refine ⟨?_, by omega⟩
        rw [e17, ru_n, e10, ru_n]; omega
      · by_cases w : j = n
        · rw [if_pos (by omega), e17, et, w, ru_s]; exact x4e
        · rw [e17, et, ru_k w, r10 21 j (by omega), r6 21 j (by omega), r5 21 j (by omega), n3 j]
          by_cases w2 : j < n
          · rw [if_pos w2, if_pos (by omega)]
          · rw [if_neg w2, if_neg (by omega)]
      · rw [k17, l17, r17 _ _ (by omega)]
        by_cases w : j = n
        · rw [w, ← x4e]
          exact ⟨kx, by omega, ky, ly⟩
        · rw [r10 _ _ (by omega), k6 _ (by omega), r6 _ _ (by omega), k6 _ (by omega), l6 _ (by omega), k5 _ (by omega), r5 _ _ (by omega), k5 _ (by omega), l5 _ (by omega)]; exact n4 j (by omega)
    have sc17 : ShC S17 := by
      refine ⟨fun c c0 c1 => ?_, fun c k c0 c1 c2 => ?_, n + 1, sN17.1, sN17.2.2.1, sN17.2.2.2⟩
      · have := sc10.1 c c0 c1
        rw [k10, l10] at this
        rw [k17, l17]; exact this
      · rw [r17 c k c2]; exact sc10.2.1 c k c0 c1 c2
    have sm17 : ShM S17 := by
      refine ⟨fun c c0 c1 => ?_, fun c k c0 c1 => ?_⟩
      · rw [k17, l17, k6 c (by omega), l6 c (by omega), k5 c (by omega), l5 c (by omega)]; exact hsm.1 c c0 c1
      · rw [r17 c k (by omega), r10 c k (by omega), r6 c k (by omega), r5 c k (by omega)]; exact hsm.2 c k c0 c1
    have sl17 : SLike S S17 := by
      rw [e17, e10, e6]
      exact sx5
    refine ⟨sc17, fin S17 F8 G9 (n + 1) sl17 sc17 sm17 sN17 (by omega) (fun c hc => ?_) (fun c hc => ?_)⟩
    · rw [ef8, ef6]
      funext k
      simp only [nF]
      rw [if_neg (by omega), if_neg (by omega)]
    · rw [eg9, eg7]
      funext k
      simp only [nG]
      rw [if_neg (by omega), if_neg (by omega)]
theorem ok_joinInnermost {d : Nat} {S : AS} {F : AF} {G : AG} (hd : 1 ≤ d) (hsh : ShC S) (ho : Opn S F) (o1 : 1 ≤ F 2 8) (ha : ∀ k : Nat, (k : Int) < F 2 8 → 0 ≤ F (78 + 2 * k) 1 ∧ F (78 + 2 * k) 1 ≤ 1000000000) {Q : AQ} (hq : ∀ F', (∀ c : Nat, c < 78 → c ≠ 2 → F' c = F c) → (∀ k : Nat, k ≠ 8 → F' 2 k = F 2 k) → F' 2 8 = F 2 8 - 1 → (∀ k : Nat, (k : Int) < F 2 8 - 1 → F' (78 + 2 * k) 1 = F (78 + 2 * k) 1 + (if (k : Int) = F 2 8 - 2 then F (78 + 2 * (k + 1)) 1 else 0)) → Q none S F' G) : Ok d MX2_joinInnermost [vR 2] S F G Q := by
  obtain ⟨o0, o8, osv⟩ := ho
  have fin : ∀ (z1 z2 : Nat) (F1 : AF), (∀ c : Nat, c < 78 → F1 c = F c) → (∀ k : Nat, (k : Int) < F 2 8 - 1 → F1 (78 + 2 * k) 1 = F (78 + 2 * k) 1 + (if (k : Int) = F 2 8 - 2 then F (78 + 2 * (k + 1)) 1 else 0)) → V_X2_joinInnermost_43 d S F1 G Q z1 z2 := by
    intro z1 z2 F1 f1 f2
    unfold V_X2_joinInnermost_43
    have e2 : F1 2 8 = F 2 8 := by rw [f1 2 (by omega)]
    rw [e2]
    refine ⟨by omega, fun F2 e => hq F2 (fun c c0 c1 => by rw [e, fu_row c1]; exact f1 c c0) (fun k hk => by rw [e, fu_k hk, f1 2 (by omega)]) (by rw [e, fu_s]) (fun k hk => by rw [e, fu_c (by omega)]; exact f2 k hk)⟩
  have sv1 := osv (F 2 8 - 1).toNat (by omega)
  refine ok_go rfl (by decide) (Nat.le_of_ble_eq_true rfl) (R_X2_joinInnermost_0 hsh ?_)
  unfold V_X2_joinInnermost_0
  refine ⟨by omega, hd, _, pu_savedAt hsh _, by omega, _, pu_savedAt hsh _, fun y => ?_, fun y => ⟨fun y2 => ?_, fun y2 => ?_⟩⟩
  · rw [if_pos ⟨by omega, by omega, by omega⟩, sv1.1] at y
    omega
  · refine fin _ _ F (fun _ _ => rfl) (fun k hk => ?_)
    by_cases w : F 2 8 = 1
    · omega
    · rw [if_pos ⟨by omega, by omega, by omega⟩, (osv (F 2 8 - 2).toNat (by omega)).1] at y2
      omega
  · have w : 2 ≤ F 2 8 := by
      by_cases w : 2 ≤ F 2 8
      · exact w
      · rw [if_neg (fun z => absurd z.1 (by omega))] at y2
        exact absurd rfl y2
    have sv2 := osv (F 2 8 - 2).toNat (by omega)
    have a1 := ha (F 2 8 - 1).toNat (by omega)
    have a2 := ha (F 2 8 - 2).toNat (by omega)
    rw [if_pos ⟨by omega, by omega, by omega⟩, if_pos ⟨by omega, by omega, by omega⟩, sv1.1, sv2.1]
    refine ⟨sv2.2, sv1.2, by omega, fun F19 e => fin _ _ F19 (fun c hc => by rw [e, fu_row (by omega)]) (fun k hk => ?_)⟩
    by_cases z : (k : Int) = F 2 8 - 2
    · have e1 : (F 2 8 - 2).toNat = k := by omega
      have e2 : (F 2 8 - 1).toNat = k + 1 := by omega
      rw [if_pos z, e, e1, e2, fu_s]
    · rw [if_neg z, e, fu_c (by omega), Int.add_zero]
theorem ok_restore {d : Nat} {S : AS} {F : AF} {G : AG} (hd : 1 ≤ d) (hsh : ShC S) (ho : Opn S F) (o1 : 1 ≤ F 2 8) {Q : AQ} (hq : ∀ G', (∀ c : Nat, c ≠ 18 → G' c = G c) → (∀ i : Int, 0 ≤ i → i < 6912 → G' 18 i = G (79 + 2 * (F 2 8 - 1).toNat) i) → Q (some (vI (F (78 + 2 * (F 2 8 - 1).toNat) 1))) S (fu F 2 8 (F 2 8 - 1)) G') : Ok d MX2_restore [vR 2] S F G Q := by
  obtain ⟨o0, o8, osv⟩ := ho
  have sv1 := osv (F 2 8 - 1).toNat (by omega)
  refine ok_go rfl (by decide) (Nat.le_of_ble_eq_true rfl) (R_X2_restore_0 hsh ?_)
  unfold V_X2_restore_0
  refine ⟨by omega, hd, _, pu_savedAt hsh _, fun y => ?_, fun y => ?_⟩
  · rw [if_pos ⟨by omega, by omega, by omega⟩, sv1.1]
    refine ⟨sv1.2, by omega, fun G11 e11 F12 e12 => ?_⟩
    have e79 : 78 + 2 * (F 2 8 - 1).toNat + 1 = 79 + 2 * (F 2 8 - 1).toNat := by omega
    have := hq G11 (fun c hc => by rw [e11]; funext j; exact gcp_c hc) (fun i i0 i1 => ?_)
    · rw [e12, fu_c (by omega)]; exact this
    · rw [e11, e79]
      simp only [gcp]
      rw [if_pos ⟨trivial, i0, by omega⟩]
      congr 1
      omega
  · rw [if_pos ⟨by omega, by omega, by omega⟩, sv1.1] at y
    omega
theorem ok_fillJ {d : Nat} {S : AS} {F : AF} {G : AG} {p : Nat} (hk : AtJ S p) {n : Int} (hn : (sN S p : Int) = n) (hn2 : n ≤ 1000000) {v : Int} {Q : AQ} (hq : ∀ G', (∀ c : Nat, c ≠ p → G' c = G c) → (∀ i : Int, 0 ≤ i → i < n → G' p i = v) → Q none S F G') : Ok d MJ7_fill_d0a16 [vR p, vJ v] S F G Q := by
  refine ok_go rfl (by decide) (Nat.le_of_ble_eq_true rfl) (R_J7_fill_d0a16_0 hk ?_)
  unfold V_J7_fill_d0a16_0
  rw [hn]
  intro x1 e1
  subst e1
  refine up_ind (α := AG) (x1 - 1) (fun i G1 => 0 ≤ i ∧ i ≤ x1 ∧ (∀ c : Nat, c ≠ p → G1 c = G c) ∧ ∀ k : Int, 0 ≤ k → k < i → G1 p k = v) (fun i G1 => Go d MJ7_fill_d0a16 6 [some (vR p), some (vJ v), none, some (vI i), some (vI x1)] [] S F G1 Q) ?_ ?_ 0 G ⟨by omega, by omega, fun _ _ => rfl, fun k _ z => absurd z (by omega)⟩
  · rintro i G1 ⟨i0, i1, u1, u2⟩ hi ih
    refine R_J7_fill_d0a16_6 hk ?_
    unfold V_J7_fill_d0a16_6
    refine ⟨fun y => absurd y (by omega), fun _ => ⟨i0, by omega, fun G3 e3 => ⟨by omega, ih G3 ⟨by omega, by omega, fun c hc => by rw [e3, gu_row hc]; exact u1 c hc, fun k k0 k1 => ?_⟩⟩⟩⟩
    by_cases z : k = i
    · rw [e3, z, gu_s]
    · rw [e3, gu_i z]; exact u2 k k0 (by omega)
  · rintro i G1 ⟨i0, i1, u1, u2⟩ hi
    refine R_J7_fill_d0a16_6 hk ?_
    unfold V_J7_fill_d0a16_6
    exact ⟨fun _ => hq G1 u1 (fun k k0 k1 => u2 k k0 (by omega)), fun y => absurd y (by omega)⟩
def ClrA (F F' : AF) (G G' : AG) (a : Nat) (w : Int) : Prop := (∀ c : Nat, c ≠ a → c ≠ a + 1 → c ≠ a + 3 → F' c = F c) ∧ (∀ c : Nat, c ≠ a + 2 → c ≠ a + 4 → G' c = G c) ∧ F' a 4 = 0 ∧ F' (a + 1) 1 = 1 ∧ F' (a + 1) 2 = w ∧ G' (a + 2) 0 = 0 ∧ G' (a + 2) 1 = w
theorem ok_aclear {d : Nat} {S : AS} {F : AF} {G : AG} {a : Nat} (hd : 1 ≤ d) (hk : AtAxis S a) (w : Int) {Q : AQ} (hq : ∀ F' G', ClrA F F' G G' a w → Q none S F' G') : Ok d MX0_clear [vR a, vI w] S F G Q := by
  have hk1 : AtCuts S (a + 1) := hk.2.2.2.2.2.1
  have hk3 : AtCuts S (a + 3) := hk.2.2.2.2.2.2.1
  refine ok_go rfl (by decide) (Nat.le_of_ble_eq_true rfl) (R_X0_clear_0 hk ?_)
  unfold V_X0_clear_0
  refine ⟨hd, ok_go rfl (by decide) (Nat.le_of_ble_eq_true rfl) (R_X1_clear_0 hk1 ?_)⟩
  unfold V_X1_clear_0
  intro F1 e1 F2 e2 G3 e3 G4 e4
  refine ⟨rfl, rfl, ok_go rfl (by decide) (Nat.le_of_ble_eq_true rfl) (R_X1_clear_0 hk3 ?_)⟩
  unfold V_X1_clear_0
  intro F5 e5 F6 e6 G7 e7 G8 e8
  refine ⟨rfl, rfl, fun F10 e10 => hq F10 G8 ⟨fun c c0 c1 c3 => ?_, fun c c2 c4 => ?_, ?_, ?_, ?_, ?_, ?_⟩⟩
  · rw [e10, fu_row c0, e6, fu_row c3, e5, fu_row c3, e2, fu_row c1, e1, fu_row c1]
  · rw [e8, gu_row c4, e7, gu_row c4, e4, gu_row c2, e3, gu_row c2]
  · rw [e10, fu_s]
  · rw [e10, fu_c (by omega), e6, fu_c (by omega), e5, fu_c (by omega), e2, fu_s]
  · rw [e10, fu_c (by omega), e6, fu_c (by omega), e5, fu_c (by omega), e2, fu_k (by decide), e1, fu_s]
  · show G8 (a + 1 + 1) 0 = 0
    rw [e8, gu_c (by omega), e7, gu_c (by omega), e4, gu_i (by decide), e3, gu_s]
  · show G8 (a + 1 + 1) 1 = w
    rw [e8, gu_c (by omega), e7, gu_c (by omega), e4, gu_s]
def ClrQ (F F' : AF) (G G' : AG) (w h cap : Int) : Prop := (∀ c : Nat, c ≠ 2 → c ≠ 3 → c ≠ 4 → c ≠ 6 → c ≠ 10 → c ≠ 11 → c ≠ 13 → c ≠ 17 → (c < 22 ∨ 33 < c) → F' c = F c) ∧ (∀ c : Nat, c ≠ 5 → c ≠ 7 → c ≠ 12 → c ≠ 14 → c ≠ 18 → G' c = G c) ∧ CC F' G' ∧ F' 4 1 = 1 ∧ F' 11 1 = 1 ∧ F' 4 2 = w ∧ F' 11 2 = h ∧ F' 3 4 = 0 ∧ F' 10 4 = 0 ∧ F' 2 7 = cap ∧ F' 2 8 = 0 ∧ (∀ i : Int, 0 ≤ i → i < 6912 → G' 18 i = 0) ∧ ∀ z : Int, 0 ≤ z → z < 6 → F' (22 + 2 * z.toNat) 2 = 0 ∧ F' (22 + 2 * z.toNat) 1 = F (22 + 2 * z.toNat) 1 ∧ F' (22 + 2 * z.toNat + 1) = F (22 + 2 * z.toNat + 1)
theorem ok_fclear {d : Nat} {S : AS} {F : AF} {G : AG} (hd : 2 ≤ d) (hsh : ShC S) {w h cap : Int} (w0 : 1 ≤ w) (w1 : w ≤ 10000) (h0 : 1 ≤ h) (h1 : h ≤ 10000) {Q : AQ} (hq : ∀ F' G', ClrQ F F' G G' w h cap → Q none S F' G') : Ok d MX2_clear [vR 2, vI w, vI h, vJ cap] S F G Q := by
  refine ok_go rfl (by decide) (Nat.le_of_ble_eq_true rfl) (R_X2_clear_0 hsh ?_)
  unfold V_X2_clear_0
  refine ⟨by omega, ok_aclear (a := 3) (by omega) (at_3 hsh) w (fun F1 G1 c1 => ⟨rfl, rfl, ok_aclear (a := 10) (by omega) (at_10 hsh) h (fun F2 G2 c2 => ⟨rfl, rfl, by omega, by omega, ok_set (at_17 hsh) 0 0 (w - 1) (h - 1) ⟨rfl, rfl, fun F16 e16 F17 e17 => ok_fillJ (at_18 hsh) (n := 6912) (by rw [shc_n hsh 18 (by decide) (by decide)]; rfl) (by omega) (fun G5 g1 g2 => ⟨rfl, rfl, ?_⟩)⟩⟩)⟩)⟩
  obtain ⟨a1, a2, a3, a4, a5, a6, a7⟩ := c1
  obtain ⟨b1, b2, b3, b4, b5, b6, b7⟩ := c2
  have kF : ∀ c : Nat, c ≠ 2 → c ≠ 17 → F17 c = F2 c := fun c c2 c17 => by rw [e17, fu_row c2, e16, fu_row c2]; exact setR_c c17
  have k4 : F17 4 = F1 4 := (kF 4 (by decide) (by decide)).trans (b1 4 (by decide) (by decide) (by decide))
  have k11 : F17 11 = F2 11 := kF 11 (by decide) (by decide)
  have g5 : G5 5 = G1 5 := (g1 5 (by decide)).trans (b2 5 (by decide) (by decide))
  have g12 : G5 12 = G2 12 := g1 12 (by decide)
  have k17 : ∀ k : Nat, F17 17 k = setR F2 17 0 0 (w - 1) (h - 1) 17 k := fun k => by rw [e17, fu_c (by decide), e16, fu_c (by decide)]
  refine up_ind (α := AF) 5 (fun i F3 => 0 ≤ i ∧ i ≤ 6 ∧ (∀ c : Nat, (c < 22 ∨ 33 < c) → F3 c = F17 c) ∧ (∀ z : Int, 0 ≤ z → z < 6 → F3 (22 + 2 * z.toNat) 1 = F17 (22 + 2 * z.toNat) 1 ∧ F3 (22 + 2 * z.toNat + 1) = F17 (22 + 2 * z.toNat + 1)) ∧ ∀ z : Int, 0 ≤ z → z < i → F3 (22 + 2 * z.toNat) 2 = 0) (fun i F3 => Go d MX2_clear 52 [some (vR 2), some (vI w), some (vI h), some (vJ cap), none, some (vI i)] [] S F3 G5 Q) ?_ ?_ 0 F17 ⟨by omega, by omega, fun _ _ => rfl, fun _ _ _ => ⟨rfl, rfl⟩, fun k _ z => absurd z (by omega)⟩
  · rintro i F3 ⟨i0, i1, u1, u2, u3⟩ hi ih
    refine R_X2_clear_52 hsh ?_
    unfold V_X2_clear_52
    refine ⟨fun y => absurd y (by omega), fun _ => ⟨i0, by omega, fun F4 e4 => ⟨by omega, ih F4 ⟨by omega, by omega, fun c hc => by rw [e4, fu_row (by omega)]; exact u1 c hc, fun z z0 z1 => ⟨?_, ?_⟩, fun z z0 z1 => ?_⟩⟩⟩⟩
    · rw [e4, fu_k (by decide)]; exact (u2 z z0 z1).1
    · rw [e4, fu_row (by omega)]; exact (u2 z z0 z1).2
    · by_cases y : z = i
      · rw [e4, y, fu_s]
      · rw [e4, fu_c (by omega)]; exact u3 z z0 (by omega)
  · rintro i F3 ⟨i0, i1, u1, u2, u3⟩ hi
    refine R_X2_clear_52 hsh ?_
    unfold V_X2_clear_52
    refine ⟨fun _ => hq F3 G5 ?_, fun y => absurd y (by omega)⟩
    have v4 : F3 4 = F1 4 := (u1 4 (by omega)).trans k4
    have v11 : F3 11 = F2 11 := (u1 11 (by omega)).trans k11
    have n4 : F3 4 1 = 1 := by rw [v4]; exact a4
    have w4 : F3 4 2 = w := by rw [v4]; exact a5
    have n11 : F3 11 1 = 1 := by rw [v11]; exact b4
    have w11 : F3 11 2 = h := by rw [v11]; exact b5
    have q50 : G5 5 0 = 0 := by rw [g5]; exact a6
    have q51 : G5 5 1 = w := by rw [g5]; exact a7
    have q120 : G5 12 0 = 0 := by rw [g12]; exact b6
    have q121 : G5 12 1 = h := by rw [g12]; exact b7
    refine ⟨fun c z2 z3 z4 z6 z10 z11 z13 z17 z22 => ?_, fun c z5 z7 z12 z14 z18 => ?_, ⟨⟨by omega, by omega, by omega, by omega, q50, ?_, fun i j0 j1 => ?_⟩, ⟨by omega, by omega, by omega, by omega, q120, ?_, fun i j0 j1 => ?_⟩, ?_, ?_, ?_, ?_⟩, n4, n11, w4, w11, ?_, ?_, ?_, ?_, g2, fun z z0 z1 => ⟨u3 z z0 (by omega), ?_, ?_⟩⟩
    · rw [u1 c z22, kF c z2 z17, b1 c z10 z11 z13, a1 c z3 z4 z6]
    · rw [g1 c z18, b2 c z12 z14, a2 c z5 z7]
    · show G5 5 (F3 4 1) = F3 4 2
      rw [n4, w4]; exact q51
    · have : i = 0 := by omega
      subst this
      show G5 5 0 < G5 5 1
      omega
    · show G5 12 (F3 11 1) = F3 11 2
      rw [n11, w11]; exact q121
    · have : i = 0 := by omega
      subst this
      show G5 12 0 < G5 12 1
      omega
    · rw [u1 17 (by omega), k17, setR_0]
    · rw [u1 17 (by omega), k17, setR_1]
    · rw [u1 17 (by omega), k17, setR_2, w4]
    · rw [u1 17 (by omega), k17, setR_3, w11]
    · rw [u1 3 (by omega), kF 3 (by decide) (by decide), b1 3 (by decide) (by decide) (by decide)]; exact a3
    · rw [u1 10 (by omega), kF 10 (by decide) (by decide)]; exact b3
    · rw [u1 2 (by omega), e17, fu_k (by decide), e16, fu_s]
    · rw [u1 2 (by omega), e17, fu_s]
    · rw [(u2 z z0 z1).1, kF _ (by omega) (by omega), b1 _ (by omega) (by omega) (by omega), a1 _ (by omega) (by omega) (by omega)]
    · rw [(u2 z z0 z1).2, kF _ (by omega) (by omega), b1 _ (by omega) (by omega) (by omega), a1 _ (by omega) (by omega) (by omega)]
