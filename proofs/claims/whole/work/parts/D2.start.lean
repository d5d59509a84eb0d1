section
theorem rT_far {c k : Nat} (h : 60 ≤ k) : rT c k = 0 := by
  have all : ∀ l ∈ rL, l.length ≤ 51 := by decide
  have hl : (rL.getD c []).length ≤ 51 := by
    rw [List.getD_eq_getElem?_getD]
    by_cases q : c < rL.length
    · rw [List.getElem?_eq_getElem q]
      exact all _ (List.getElem_mem q)
    · rw [List.getElem?_eq_none (by omega)]
      decide
  unfold rT
  rw [List.getD_eq_getElem?_getD, List.getElem?_eq_none (by omega)]
  rfl
abbrev RFl : List (Nat × Nat) := (20, 5) :: (32, 0) :: (20, 4) :: (30, 0) :: (20, 3) :: (28, 0) :: (20, 2) :: (26, 0) :: (20, 1) :: (24, 0) :: (20, 0) :: (22, 0) :: (2, 6) :: (2, 5) :: (2, 4) :: (2, 3) :: (2, 2) :: (2, 1) :: (10, 3) :: (10, 2) :: (10, 1) :: (13, 0) :: (10, 0) :: (11, 0) :: (2, 0) :: (3, 3) :: (3, 2) :: (3, 1) :: (6, 0) :: (3, 0) :: (4, 0) :: []
abbrev R9 : List (Nat × Nat) := (1, 5) :: (1, 4) :: (1, 3) :: (46, 8) :: (46, 7) :: (46, 6) :: (46, 0) :: (1, 2) :: (44, 0) :: (1, 1) :: (34, 0) :: (34, 16) :: (34, 15) :: (34, 14) :: (34, 13) :: (34, 12) :: (34, 11) :: (34, 10) :: (34, 9) :: (34, 1) :: (1, 0) :: RFl
abbrev R77 : List (Nat × Nat) := (53, 50) :: (53, 49) :: (53, 48) :: (53, 47) :: (53, 40) :: (53, 33) :: (53, 31) :: (53, 30) :: (53, 29) :: (53, 28) :: (53, 19) :: (53, 18) :: (53, 17) :: (53, 16) :: (53, 15) :: (53, 13) :: (53, 12) :: (53, 10) :: (53, 9) :: (53, 8) :: (53, 7) :: (53, 6) :: (53, 5) :: (53, 4) :: R9
def r9_b (c k : Nat) : Bool := (rT c k == 0) || R9.elem (c, k)
theorem r9_t : ∀ c : Nat, c < 53 → ∀ k : Nat, k < 60 → r9_b c k = true := by decide +kernel
theorem r9_all : ∀ c : Nat, c < 53 → ∀ k : Nat, k < 60 → ¬ rT c k = 0 → (c, k) ∈ R9 := by
  intro c hc k hk z
  have := r9_t c hc k hk
  unfold r9_b at this
  rcases Bool.or_eq_true_iff.mp this with e | e
  · exact absurd (by simpa using e) z
  · exact List.elem_iff.mp e
def r77_b (c k : Nat) : Bool := (rT c k == 0) || R77.elem (c, k)
theorem r77_t : ∀ c : Nat, c < 78 → ∀ k : Nat, k < 60 → r77_b c k = true := by decide +kernel
theorem r77_all : ∀ c : Nat, c < 78 → ∀ k : Nat, k < 60 → ¬ rT c k = 0 → (c, k) ∈ R77 := by
  intro c hc k hk z
  have := r77_t c hc k hk
  unfold r77_b at this
  rcases Bool.or_eq_true_iff.mp this with e | e
  · exact absurd (by simpa using e) z
  · exact List.elem_iff.mp e
theorem ps_r {S0 S : AS} {m u : Nat} {R : List (Nat × Nat)} (h : PSh S0 S m u R) {c : Nat} (hR : ∀ k : Nat, k < 60 → ¬ rT c k = 0 → (c, k) ∈ R) (k : Nat) : sR S c k = rT c k := by
  rw [h.2.2.2.2.1 c k]
  by_cases q : (c, k) ∈ R
  · rw [if_pos q]
  · rw [if_neg q]
    by_cases e : k < 60
    · by_cases z : rT c k = 0
      · exact z.symm
      · exact absurd (hR k e z) q
    · exact (rT_far (by omega)).symm
theorem ps_u {S0 S : AS} {m u u' : Nat} {R : List (Nat × Nat)} (h : PSh S0 S m u R) (hu : u ≤ u') : PSh S0 S m u' R := ⟨h.1, h.2.1, by have := h.2.2.1; omega, h.2.2.2⟩
theorem ps_shc {S0 S : AS} {m u : Nat} {R : List (Nat × Nat)} (h : PSh S0 S m u R) (hm : 52 ≤ m) (hR : ∀ c : Nat, c < 53 → ∀ k : Nat, k < 60 → ¬ rT c k = 0 → (c, k) ∈ R) : ShC S := by
  refine ⟨fun c c0 c1 => h.2.2.2.1 c c0 (by omega), fun c k c0 c1 _ => ps_r h (hR c (by omega)) k, 0, by decide, fun j => ?_, fun j hj => absurd hj (by omega)⟩
  rw [if_neg (by omega), ps_r h (hR 21 (by decide)) j]
  rfl
theorem ps_shm {S0 S : AS} {u : Nat} (h : PSh S0 S 77 u R77) : ShM S := ⟨fun c c0 c1 => h.2.2.2.1 c (by omega) (by omega), fun c k c0 c1 => ps_r h (r77_all c (by omega)) k⟩
theorem ok_iX9 {d : Nat} {S0 S : AS} {F : AF} {G : AG} {u : Nat} (hd : 6 ≤ d) (h : PSh S0 S 1 u []) (zf : Zf F G 0) {Q : AQ} (hq : ∀ S' F' G', PSh S0 S' 52 (u + 20000) R9 → ClrQ (fu F 46 11 (-1)) F' G G' 1 1 1000000000000 → Q none S' F' G') : Ok d MX9_init [vR 1] S F G Q := by
  refine ok_go rfl (by decide) (Nat.le_of_ble_eq_true rfl) (R_X9_init_0 ?_)
  unfold V_X9_init_0
  refine ⟨by omega, by decide, ?_⟩
  refine st_obj (m' := 33) (F' := F) (by omega) h (zf_up zf (by decide)) (by decide) (by decide) (by decide) rfl rfl rfl rfl (by decide) (fun S5 h5 Q' hq' => ok_iX2 (by omega) h5 (zf_up zf (by decide)) hq') (fun S1 h1 => ?_)
  have e := nF_z h1.2.1 (zf_up zf (show 0 ≤ 33 by decide))
  have h2 := h1.2.1
  refine ⟨by omega, fun x ex S3 e3 F4 e4 G5 e5 => ?_⟩
  rw [e.1] at e4
  rw [e.2] at e5
  have ex' : x = 34 := by omega
  subst e3 e4 e5 ex'
  have h3 := ps_na (z := 17) (K := 7) (N := 0) h1 rfl rfl (by decide)
  have r10 : sR (na S1 7 0 17) 1 0 = 2 := x2_at h3 List.mem_cons_self
  rw [r10]
  refine ⟨ps_k h3 (by decide) (by decide), by omega, by decide, ok_iX7 (by omega) h3 (zf_up zf (by decide)) (fun S' h' => ⟨rfl, ps_k h' (by decide) (by decide), by rw [h'.2.1]; decide, fun S31 e31 => ?_⟩)⟩
  have h4 := ps_ru (c := 1) (k := 1) (r := 34) h' (by decide) rfl
  rw [← e31] at h4
  refine st_obj (m' := 45) (F' := F4) (by omega) h4 (zf_up zf (by decide)) (by decide) (by decide) (by decide) rfl rfl rfl rfl (by decide) (fun S5 h5 Q' hq' => ok_iX6 (by omega) h5 (zf_up zf (by decide)) hq') (fun S6 h6 => ?_)
  unfold V_X9_init_41
  refine st_obj (m' := 50) (F' := fu F4 46 11 (-1)) (by omega) h6 (zf_up zf (by decide)) (by decide) (by decide) (by decide) rfl rfl rfl rfl (by decide) (fun S5 h5 Q' hq' => ok_iX5 (by omega) h5 (zf_up zf (by decide)) hq') (fun S7 h7 => ?_)
  have zf2 : Zf (fu F4 46 11 (-1)) G5 50 := ⟨fun c k hc => by rw [fu_c (by omega)]; exact zf.1 c k (by omega), fun c j hc => zf.2 c j (by omega)⟩
  refine st_obj (m' := 51) (F' := fu F4 46 11 (-1)) (by omega) h7 zf2 (by decide) (by decide) (by decide) rfl rfl rfl rfl (by decide) (fun S5 h5 Q' hq' => ok_iX3 (by omega) (by decide) (hq' S5 h5)) (fun S8 h8 => ?_)
  refine st_obj (m' := 52) (F' := fu F4 46 11 (-1)) (by omega) h8 (zf_up zf2 (by decide)) (by decide) (by decide) (by decide) rfl rfl rfl rfl (by decide) (fun S5 h5 Q' hq' => ok_iX3 (by omega) (by decide) (hq' S5 h5)) (fun S9 h9 => ?_)
  have h9' : PSh S0 S9 52 (u + 20000) R9 := ps_u h9 (by omega)
  unfold V_X9_init_74
  have r1 : sR S9 1 0 = 2 := ps_r h9' (r9_all 1 (by decide)) 0
  rw [r1]
  refine ⟨ps_k h9 (by decide) (by decide), by omega, ps_k h9 (by decide) (by decide), ok_fclear (by omega) (ps_shc h9' (by decide) r9_all) (by omega) (by omega) (by omega) (by omega) (fun F' G' c => ⟨rfl, hq S9 F' G' h9' c⟩)⟩
def FaM (F : AF) : AF := fu (fu (fu (fu F 53 1 1) 53 2 1) 53 3 1000000000000) 53 38 (-1)
theorem ok_iX10 {d : Nat} {S0 S : AS} {F : AF} {G : AG} {u : Nat} (hd : 3 ≤ d) (h : PSh S0 S 53 u R9) (zf : Zf F G 52) {Q : AQ} (hq : ∀ S' F' G', PSh S0 S' 77 (u + 100000) R77 → BgnQ (FaM F) F' G G' → Q none S' F' G') : Ok d MX10_init [vR 53] S F G Q := by
  refine ok_go rfl (by decide) (Nat.le_of_ble_eq_true rfl) (R_X10_init_0 ?_)
  unfold V_X10_init_0
  refine ⟨by omega, by decide, ps_k h (by decide) (by decide), fun F4 e4 F5 e5 F6 e6 => ?_⟩
  have z6 : Zf F6 G 53 := ⟨fun c k hc => by rw [e6, fu_c (by omega), e5, fu_c (by omega), e4, fu_c (by omega)]; exact zf.1 c k (by omega), fun c j hc => zf.2 c j (by omega)⟩
  unfold V_X10_init_21
  refine st_arr h z6 (by decide) (by decide) (by decide) rfl rfl rfl rfl (fun S1 h1 => ?_)
  refine st_arr h1 (zf_up z6 (by decide)) (by decide) (by decide) (by decide) rfl rfl rfl rfl (fun S2 h2 => ?_)
  refine st_arr h2 (zf_up z6 (by decide)) (by decide) (by decide) (by decide) rfl rfl rfl rfl (fun S3 h3 => ?_)
  unfold V_X10_init_43
  refine st_arr h3 (zf_up z6 (by decide)) (by decide) (by decide) (by decide) rfl rfl rfl rfl (fun S4 h4 => ?_)
  refine st_arr h4 (zf_up z6 (by decide)) (by decide) (by decide) (by decide) rfl rfl rfl rfl (fun S5 h5 => ?_)
  refine st_arr h5 (zf_up z6 (by decide)) (by decide) (by decide) (by decide) rfl rfl rfl rfl (fun S6 h6 => ?_)
  unfold V_X10_init_67
  refine st_arr h6 (zf_up z6 (by decide)) (by decide) (by decide) (by decide) rfl rfl rfl rfl (fun S7 h7 => ?_)
  refine st_arr h7 (zf_up z6 (by decide)) (by decide) (by decide) (by decide) rfl rfl rfl rfl (fun S8 h8 => ?_)
  refine st_arr h8 (zf_up z6 (by decide)) (by decide) (by decide) (by decide) rfl rfl rfl rfl (fun S9 h9 => ?_)
  unfold V_X10_init_92
  refine st_arr h9 (zf_up z6 (by decide)) (by decide) (by decide) (by decide) rfl rfl rfl rfl (fun S10 h10 => ?_)
  refine st_arr h10 (zf_up z6 (by decide)) (by decide) (by decide) (by decide) rfl rfl rfl rfl (fun S11 h11 => ?_)
  refine st_arr h11 (zf_up z6 (by decide)) (by decide) (by decide) (by decide) rfl rfl rfl rfl (fun S12 h12 => ?_)
  unfold V_X10_init_116
  refine st_arr h12 (zf_up z6 (by decide)) (by decide) (by decide) (by decide) rfl rfl rfl rfl (fun S13 h13 => ?_)
  refine st_arr h13 (zf_up z6 (by decide)) (by decide) (by decide) (by decide) rfl rfl rfl rfl (fun S14 h14 => ?_)
  refine st_arr h14 (zf_up z6 (by decide)) (by decide) (by decide) (by decide) rfl rfl rfl rfl (fun S15 h15 => ?_)
  unfold V_X10_init_139
  refine st_arr h15 (zf_up z6 (by decide)) (by decide) (by decide) (by decide) rfl rfl rfl rfl (fun S16 h16 => ?_)
  refine st_arr h16 (zf_up z6 (by decide)) (by decide) (by decide) (by decide) rfl rfl rfl rfl (fun S17 h17 => ?_)
  refine st_arr h17 (zf_up z6 (by decide)) (by decide) (by decide) (by decide) rfl rfl rfl rfl (fun S18 h18 => ?_)
  unfold V_X10_init_163
  refine st_arr h18 (zf_up z6 (by decide)) (by decide) (by decide) (by decide) rfl rfl rfl rfl (fun S19 h19 => ?_)
  refine ⟨ps_k h19 (by decide) (by decide), fun F10 e10 => ?_⟩
  have eF : F10 = FaM F := by rw [e10, e6, e5, e4]; rfl
  have z10 : Zf F10 G 53 := ⟨fun c k hc => by rw [e10, fu_c (by omega)]; exact z6.1 c k hc, z6.2⟩
  refine st_arr h19 (zf_up z10 (by decide)) (by decide) (by decide) (by decide) rfl rfl rfl rfl (fun S20 h20 => ?_)
  unfold V_X10_init_186
  refine st_arr h20 (zf_up z10 (by decide)) (by decide) (by decide) (by decide) rfl rfl rfl rfl (fun S21 h21 => ?_)
  refine st_arr h21 (zf_up z10 (by decide)) (by decide) (by decide) (by decide) rfl rfl rfl rfl (fun S22 h22 => ?_)
  refine st_arr h22 (zf_up z10 (by decide)) (by decide) (by decide) (by decide) rfl rfl rfl rfl (fun S23 h23 => ?_)
  unfold V_X10_init_210
  refine st_arr h23 (zf_up z10 (by decide)) (by decide) (by decide) (by decide) rfl rfl rfl rfl (fun S24 h24 => ?_)
  have h24' : PSh S0 S24 77 (u + 100000) R77 := ps_u h24 (by omega)
  refine ⟨by omega, ps_k h24 (by decide) (by decide), ok_begins (ps_shm h24') (fun F' G' c => ⟨rfl, hq S24 F' G' h24' ?_⟩)⟩
  rw [eF] at c
  exact c
end
