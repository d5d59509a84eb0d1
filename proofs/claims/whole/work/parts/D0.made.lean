section
/-! THE CONSTRUCTORS -/
/-! THE ORDER IN WHICH THE CELLS ARE MADE (behind the object: the Survey, its Floor, the rest), told by tables of its own -/
def kLu : List Nat := [99, 9, 7, 2, 0, 1, 20, 1, 20, 20, 20, 0, 1, 20, 1, 20, 20, 20, 3, 21, 21, 24, 25, 8, 3, 8, 3, 8, 3, 8, 3, 8, 3, 8, 3, 3, 20, 20, 20, 21, 21, 21, 20, 20, 6, 21, 5, 22, 20, 20, 21, 3, 3, 10, 20, 20, 20, 21, 21, 21, 21, 20, 21, 20, 21, 23, 20, 20, 20, 20, 21, 20, 22, 21, 23, 20, 20, 21]
def nLu : List Nat := [0, 0, 0, 0, 0, 0, 105, 0, 105, 48, 48, 0, 0, 105, 0, 105, 48, 48, 0, 6912, 2304, 6, 8, 0, 0, 0, 0, 0, 0, 0, 0, 0, 0, 0, 0, 0, 48, 48, 48, 2304, 48, 48, 97, 97, 0, 280, 0, 500, 30, 150, 30, 0, 0, 0, 96, 2, 2, 6912, 55296, 3, 24, 8, 280, 24, 6, 6, 2, 64, 96, 2, 2304, 64, 500, 210, 48, 98, 98, 48]
def rLu : List (List Nat) := [[], [2, 3, 44, 46, 51, 52], [3, 35, 0, 0, 0, 0, 0, 0, 0, 36, 37, 38, 39, 40, 41, 42, 43], [4, 11, 18, 19, 20, 21, 22], [5, 7, 9, 10], [6], [], [8], [], [], [], [12, 14, 16, 17], [13], [], [15], [], [], [], [], [], [], [23, 25, 27, 29, 31, 33], [], [24], [], [26], [], [28], [], [30], [], [32], [], [34], [], [], [], [], [], [], [], [], [], [], [45], [], [47, 0, 0, 0, 0, 0, 48, 49, 50], [], [], [], [], [], [], [0, 0, 0, 0, 54, 55, 56, 57, 58, 59, 60, 0, 61, 62, 0, 63, 64, 65, 66, 67, 0, 0, 0, 0, 0, 0, 0, 0, 68, 69, 70, 71, 0, 72, 0, 0, 0, 0, 0, 0, 73, 0, 0, 0, 0, 0, 0, 74, 75, 76, 77], [], [], [], [], [], [], [], [], [], [], [], [], [], [], [], [], [], [], [], [], [], [], [], []]
def kU (c : Nat) : Nat := kLu.getD c 99
def nU (c : Nat) : Nat := nLu.getD c 0
def rU (c k : Nat) : Nat := (rLu.getD c []).getD k 0
def PSx (kX nX : Nat → Nat) (rX : Nat → Nat → Nat) (S0 S : AS) (m u : Nat) (R : List (Nat × Nat)) : Prop := SLike S0 S ∧ sn S = m ∧ ss S ≤ u ∧ (∀ c, 1 ≤ c → c ≤ m → sK S c = kX c ∧ sN S c = nX c) ∧ (∀ c k, sR S c k = if (c, k) ∈ R then rX c k else 0) ∧ (∀ q ∈ R, q.1 ≤ m) ∧ m ≤ 77
abbrev PSh (S0 S : AS) (m u : Nat) (R : List (Nat × Nat)) : Prop := PSx kT nT rT S0 S m u R
abbrev PSu (S0 S : AS) (m u : Nat) (R : List (Nat × Nat)) : Prop := PSx kU nU rU S0 S m u R
def Zf (F : AF) (G : AG) (m : Nat) : Prop := (∀ c k, m < c → F c k = 0) ∧ ∀ c j, m < c → G c j = 0
theorem zf_up {F : AF} {G : AG} {m n : Nat} (h : Zf F G m) (k : m ≤ n) : Zf F G n := ⟨fun c k hc => h.1 c k (by omega), fun c j hc => h.2 c j (by omega)⟩
theorem ps_na {kX nX : Nat → Nat} {rX : Nat → Nat → Nat} {S0 S : AS} {m u K N z : Nat} {R : List (Nat × Nat)} (h : PSx kX nX rX S0 S m u R) (hK : K = kX (m + 1)) (hN : N = nX (m + 1)) (hm : m < 77) : PSx kX nX rX S0 (na S K N z) (m + 1) (u + z) R := by
  obtain ⟨h1, h2, h3, h4, h5, h6, h7⟩ := h
  refine ⟨h1, by rw [na_n, h2], by show ss S + z ≤ u + z; omega, fun c c0 c1 => ?_, fun c k => ?_, fun q hq => by have := h6 q hq; omega, by omega⟩
  · by_cases e : c = m + 1
    · have e2 : c = sn S + 1 := by omega
      rw [e2, na_Ks, na_Ns, h2, hK, hN]
      exact ⟨rfl, rfl⟩
    · rw [na_K (by omega), na_N (by omega)]
      exact h4 c c0 (by omega)
  · by_cases e : c = m + 1
    · have e2 : c = sn S + 1 := by omega
      have no : ¬ (c, k) ∈ R := fun z => by have := h6 _ z; dsimp only at this; omega
      rw [if_neg no, e2]
      exact if_pos rfl
    · rw [na_R (by omega)]
      exact h5 c k
theorem ps_ru {kX nX : Nat → Nat} {rX : Nat → Nat → Nat} {S0 S : AS} {m u c k r : Nat} {R : List (Nat × Nat)} (h : PSx kX nX rX S0 S m u R) (hc : c ≤ m) (hr : r = rX c k) : PSx kX nX rX S0 (ru S c k r) m u ((c, k) :: R) := by
  obtain ⟨h1, h2, h3, h4, h5, h6, h7⟩ := h
  refine ⟨h1, by rw [ru_n, h2], h3, fun b b0 b1 => by rw [ru_K, ru_N]; exact h4 b b0 b1, fun b j => ?_, fun q hq => ?_, h7⟩
  · by_cases e : b = c ∧ j = k
    · obtain ⟨e1, e2⟩ := e
      subst e1 e2
      rw [if_pos List.mem_cons_self, ru_s, hr]
    · have e2 : sR (ru S c k r) b j = sR S b j := by
        by_cases e1 : b = c
        · exact ru_k (fun z => e ⟨e1, z⟩)
        · exact ru_c e1
      rw [e2, h5 b j]
      by_cases q : (b, j) ∈ R
      · rw [if_pos q, if_pos (List.mem_cons_of_mem _ q)]
      · rw [if_neg q, if_neg (fun z => ?_)]
        rcases List.mem_cons.mp z with z | z
        · exact e ⟨congrArg Prod.fst z, congrArg Prod.snd z⟩
        · exact q z
  · rcases List.mem_cons.mp hq with z | z
    · rw [z]; exact hc
    · exact h6 q z
theorem ps_k {kX nX : Nat → Nat} {rX : Nat → Nat → Nat} {S0 S : AS} {m u : Nat} {R : List (Nat × Nat)} (h : PSx kX nX rX S0 S m u R) {c : Nat} (c0 : 1 ≤ c) (c1 : c ≤ m) : sK S c = kX c := (h.2.2.2.1 c c0 c1).1
theorem ps_l {kX nX : Nat → Nat} {rX : Nat → Nat → Nat} {S0 S : AS} {m u : Nat} {R : List (Nat × Nat)} (h : PSx kX nX rX S0 S m u R) {c : Nat} (c0 : 1 ≤ c) (c1 : c ≤ m) : sN S c = nX c := (h.2.2.2.1 c c0 c1).2
theorem nF_z {S : AS} {F : AF} {G : AG} {m : Nat} (hm : sn S = m) (h : Zf F G m) : nF S F = F ∧ nG S G = G := by
  constructor
  · funext c k
    unfold nF
    by_cases e : c = sn S + 1
    · rw [if_pos e, h.1 c k (by omega)]
    · rw [if_neg e]
  · funext c j
    unfold nG
    by_cases e : c = sn S + 1
    · rw [if_pos e, h.2 c j (by omega)]
    · rw [if_neg e]
/-- a row is made and kept in a field -/
theorem st_arr {kX nX : Nat → Nat} {rX : Nat → Nat → Nat} {S0 S : AS} {F : AF} {G : AG} {m u a0 κ K N z k : Nat} {R : List (Nat × Nat)} {P : AS → AF → AG → Prop} (h : PSx kX nX rX S0 S m u R) (zf : Zf F G m) (hm : m < 77) (a1 : 1 ≤ a0) (a2 : a0 ≤ m) (hκ : kX a0 = κ) (hK : K = kX (m + 1)) (hN : N = nX (m + 1)) (hr : m + 1 = rX a0 k) (hP : ∀ S8, PSx kX nX rX S0 S8 (m + 1) (u + z) ((a0, k) :: R) → P S8 F G) : (sn S < 999998) ∧ ∀ x2 : Nat, x2 = sn S + 1 → ∀ S3 : AS, S3 = na S K N z → ∀ F4 : AF, F4 = nF S F → ∀ G5 : AG, G5 = nG S G → (sK S3 a0 = κ) ∧ (x2 ≤ sn S3) ∧ ∀ S8 : AS, S8 = ru S3 a0 k x2 → P S8 F4 G5 := by
  have e := nF_z h.2.1 zf
  have h2 := h.2.1
  refine ⟨by omega, fun x ex S3 e3 F4 e4 G5 e5 => ?_⟩
  rw [e.1] at e4
  rw [e.2] at e5
  subst e3 e4 e5
  have h3 := ps_na (z := z) h hK hN hm
  refine ⟨by rw [ps_k h3 a1 (by omega), hκ], by rw [na_n]; omega, fun S8 e8 => ?_⟩
  subst e8
  exact hP _ (ps_ru h3 (by omega) (by omega))
/-- an object is made, its constructor runs, it is kept in a field -/
theorem st_obj {kX nX : Nat → Nat} {rX : Nat → Nat → Nat} {d : Nat} {S0 S : AS} {F : AF} {G : AG} {m u a0 κ K z k m' u' : Nat} {M : AM} {R R' : List (Nat × Nat)} {F' : AF} {P : AS → AF → AG → Prop} (hd : 1 ≤ d) (h : PSx kX nX rX S0 S m u R) (zf : Zf F G m) (hm : m < 77) (a1 : 1 ≤ a0) (a2 : a0 ≤ m) (hκ : kX a0 = κ) (hK : K = kX (m + 1)) (hN : 0 = nX (m + 1)) (hr : m + 1 = rX a0 k) (hmm : m + 1 ≤ m') (hC : ∀ S5, PSx kX nX rX S0 S5 (m + 1) (u + z) R → ∀ Q : AQ, (∀ S', PSx kX nX rX S0 S' m' u' R' → Q none S' F' G) → Ok (d - 1) M [vR (m + 1)] S5 F G Q) (hP : ∀ S8, PSx kX nX rX S0 S8 m' u' ((a0, k) :: R') → P S8 F' G) : (sn S < 999998) ∧ ∀ x4 : Nat, x4 = sn S + 1 → ∀ S5 : AS, S5 = na S K 0 z → ∀ F6 : AF, F6 = nF S F → ∀ G7 : AG, G7 = nG S G → (1 ≤ d) ∧ (1 ≤ x4) ∧ Ok (d - 1) M [vR x4] S5 F6 G7 (fun w9 S10 F11 G12 => w9 = none ∧ (sK S10 a0 = κ) ∧ (x4 ≤ sn S10) ∧ ∀ S16 : AS, S16 = ru S10 a0 k x4 → P S16 F11 G12) := by
  have e := nF_z h.2.1 zf
  have h2 := h.2.1
  refine ⟨by omega, fun x ex S3 e3 F4 e4 G5 e5 => ?_⟩
  rw [e.1] at e4
  rw [e.2] at e5
  have ex' : x = m + 1 := by omega
  subst e3 e4 e5 ex'
  refine ⟨hd, by omega, hC _ (ps_na h hK hN hm) _ (fun S' h' => ⟨rfl, by rw [ps_k h' a1 (by omega), hκ], by rw [h'.2.1]; omega, fun S8 e8 => ?_⟩)⟩
  subst e8
  exact hP _ (ps_ru h' (by omega) hr)
theorem ok_iX3 {d : Nat} {S : AS} {F : AF} {G : AG} {a0 : Nat} (hd : 1 ≤ d) (a1 : 1 ≤ a0) {Q : AQ} (hq : Q none S F G) : Ok d MX3_init [vR a0] S F G Q := by
  refine ok_go rfl (by decide) (Nat.le_of_ble_eq_true rfl) (R_X3_init_0 ?_)
  unfold V_X3_init_0
  exact ⟨hd, a1, hq⟩
theorem ok_iX1 {d : Nat} {S0 S : AS} {F : AF} {G : AG} {m u : Nat} {R : List (Nat × Nat)} (hd : 1 ≤ d) (h : PSu S0 S m u R) (zf : Zf F G m) (m1 : 1 ≤ m) (hm : m < 77) (k0 : kU m = 1) (k1 : 20 = kU (m + 1)) (n1 : 105 = nU (m + 1)) (r1 : m + 1 = rU m 0) {Q : AQ} (hq : ∀ S', PSu S0 S' (m + 1) (u + 105) ((m, 0) :: R) → Q none S' F G) : Ok d MX1_init [vR m] S F G Q := by
  refine ok_go rfl (by decide) (Nat.le_of_ble_eq_true rfl) (R_X1_init_0 ?_)
  unfold V_X1_init_0
  exact ⟨hd, m1, st_arr (P := fun S F G => Q none S F G) h zf hm m1 (Nat.le_refl _) k0 k1 n1 r1 hq⟩
theorem ok_iX0 {d : Nat} {S0 S : AS} {F : AF} {G : AG} {m u : Nat} {R : List (Nat × Nat)} (hd : 2 ≤ d) (h : PSu S0 S m u R) (zf : Zf F G m) (hm : m = 4 ∨ m = 11) {Q : AQ} (hq : ∀ S', PSu S0 S' (m + 6) (u + 312) ((m, 3) :: (m, 2) :: (m, 1) :: (m + 3, 0) :: (m, 0) :: (m + 1, 0) :: R) → Q none S' F G) : Ok d MX0_init [vR m] S F G Q := by
  have T : kU m = 0 ∧ kU (m + 1) = 1 ∧ kU (m + 1 + 1) = 20 ∧ kU (m + 2 + 1) = 1 ∧ kU (m + 3 + 1) = 20 ∧ kU (m + 4 + 1) = 20 ∧ kU (m + 5 + 1) = 20 ∧ nU (m + 1) = 0 ∧ nU (m + 1 + 1) = 105 ∧ nU (m + 2 + 1) = 0 ∧ nU (m + 3 + 1) = 105 ∧ nU (m + 4 + 1) = 48 ∧ nU (m + 5 + 1) = 48 ∧ rU m 0 = m + 1 ∧ rU (m + 1) 0 = m + 2 ∧ rU m 1 = m + 3 ∧ rU (m + 3) 0 = m + 4 ∧ rU m 2 = m + 5 ∧ rU m 3 = m + 6 := by
    rcases hm with e | e <;> subst e <;> decide
  obtain ⟨t1, t2, t3, t4, t5, t6, t7, t8, t9, t10, t11, t12, t13, t14, t15, t16, t17, t18, t19⟩ := T
  refine ok_go rfl (by decide) (Nat.le_of_ble_eq_true rfl) (R_X0_init_0 ?_)
  unfold V_X0_init_0
  refine ⟨by omega, by omega, ?_⟩
  refine st_obj (m' := m + 2) (u' := u + 3 + 105) (R' := (m + 1, 0) :: R) (F' := F) (by omega) h zf (by omega) (by omega) (Nat.le_refl _) t1 t2.symm t8.symm (by omega) (by omega) (fun S5 h5 Q' hq' => ok_iX1 (by omega) h5 (zf_up zf (by omega)) (by omega) (by omega) t2 t3.symm t9.symm (by omega) hq') (fun S8 h8 => ?_)
  refine st_obj (m' := m + 4) (u' := u + 3 + 105 + 3 + 105) (R' := (m + 3, 0) :: (m, 0) :: (m + 1, 0) :: R) (F' := F) (by omega) h8 (zf_up zf (by omega)) (by omega) (by omega) (by omega) t1 t4.symm t10.symm (by omega) (by omega) (fun S5 h5 Q' hq' => ok_iX1 (by omega) h5 (zf_up zf (by omega)) (by omega) (by omega) t4 t5.symm t11.symm (show m + 2 + 1 + 1 = rU (m + 3) 0 by omega) hq') (fun S9 h9 => ?_)
  refine st_arr h9 (zf_up zf (by omega)) (by omega) (by omega) (by omega) t1 t6.symm t12.symm (by omega) (fun S10 h10 => ?_)
  unfold V_X0_init_34
  exact st_arr (P := fun S F G => Q none S F G) h10 (zf_up zf (by omega)) (by omega) (by omega) (by omega) t1 t7.symm t13.symm (by omega) (fun S11 h11 => hq S11 h11)
theorem ok_iX8 {d : Nat} {S0 S : AS} {F : AF} {G : AG} {m u : Nat} {R : List (Nat × Nat)} (hd : 2 ≤ d) (h : PSu S0 S m u R) (zf : Zf F G m) (m1 : 1 ≤ m) (hm : m < 77) (k0 : kU m = 8) (k1 : 3 = kU (m + 1)) (n1 : 0 = nU (m + 1)) (r1 : m + 1 = rU m 0) {Q : AQ} (hq : ∀ S', PSu S0 S' (m + 1) (u + 4) ((m, 0) :: R) → Q none S' F G) : Ok d MX8_init [vR m] S F G Q := by
  refine ok_go rfl (by decide) (Nat.le_of_ble_eq_true rfl) (R_X8_init_0 ?_)
  unfold V_X8_init_0
  refine ⟨by omega, m1, ?_⟩
  exact st_obj (P := fun S F G => Q none S F G) (m' := m + 1) (u' := u + 4) (R' := R) (F' := F) (by omega) h zf hm m1 (Nat.le_refl _) k0 k1 n1 r1 (Nat.le_refl _) (fun S5 h5 Q' hq' => ok_iX3 (by omega) (by omega) (hq' S5 h5)) hq
theorem ok_iX6 {d : Nat} {S0 S : AS} {F : AF} {G : AG} {u : Nat} {R : List (Nat × Nat)} (hd : 1 ≤ d) (h : PSu S0 S 44 u R) (zf : Zf F G 44) {Q : AQ} (hq : ∀ S', PSu S0 S' 45 (u + 280) ((44, 0) :: R) → Q none S' F G) : Ok d MX6_init [vR 44] S F G Q := by
  refine ok_go rfl (by decide) (Nat.le_of_ble_eq_true rfl) (R_X6_init_0 ?_)
  unfold V_X6_init_0
  exact ⟨hd, by decide, st_arr (P := fun S F G => Q none S F G) h zf (by decide) (by decide) (by decide) rfl rfl rfl rfl hq⟩
theorem ok_iX5 {d : Nat} {S0 S : AS} {F : AF} {G : AG} {u : Nat} {R : List (Nat × Nat)} (hd : 1 ≤ d) (h : PSu S0 S 46 u R) (zf : Zf F G 46) {Q : AQ} (hq : ∀ S', PSu S0 S' 50 (u + 500 + 30 + 150 + 30) ((46, 8) :: (46, 7) :: (46, 6) :: (46, 0) :: R) → Q none S' (fu F 46 11 (-1)) G) : Ok d MX5_init [vR 46] S F G Q := by
  refine ok_go rfl (by decide) (Nat.le_of_ble_eq_true rfl) (R_X5_init_0 ?_)
  unfold V_X5_init_0
  refine ⟨hd, by decide, ?_⟩
  refine st_arr h zf (by decide) (by decide) (by decide) rfl rfl rfl rfl (fun S1 h1 => ?_)
  refine st_arr h1 (zf_up zf (by decide)) (by decide) (by decide) (by decide) rfl rfl rfl rfl (fun S2 h2 => ?_)
  refine st_arr h2 (zf_up zf (by decide)) (by decide) (by decide) (by decide) rfl rfl rfl rfl (fun S3 h3 => ?_)
  unfold V_X5_init_30
  refine st_arr h3 (zf_up zf (by decide)) (by decide) (by decide) (by decide) rfl rfl rfl rfl (fun S4 h4 => ?_)
  refine ⟨ps_k h4 (by decide) (by decide), fun F10 e10 => ?_⟩
  rw [e10]
  exact hq S4 h4
end
