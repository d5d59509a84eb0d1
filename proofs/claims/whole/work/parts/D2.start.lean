section
theorem rT_far {c k : Nat} (h : 60 ≤ k) : rT c k = 0 := by
  have all : ∀ l ∈ rL, l.length ≤ 51 := by decide
  have hl : (rL.getD c []).length ≤ 51 := by
    rw [List.getD_eq_getElem?_getD]
    by_cases q : c < rL.length
    · rw [List.getElem?_eq_getElem q]
      exact all _ (List.getElem_mem q)
    · rw [List.getElem?_eq_none (by omega)]
      decide
  unfold rT
  rw [List.getD_eq_getElem?_getD, List.getElem?_eq_none (by omega)]
  rfl
abbrev RFl : List (Nat × Nat) := (20, 5) :: (32, 0) :: (20, 4) :: (30, 0) :: (20, 3) :: (28, 0) :: (20, 2) :: (26, 0) :: (20, 1) :: (24, 0) :: (20, 0) :: (22, 0) :: (2, 6) :: (2, 5) :: (2, 4) :: (2, 3) :: (2, 2) :: (2, 1) :: (10, 3) :: (10, 2) :: (10, 1) :: (13, 0) :: (10, 0) :: (11, 0) :: (2, 0) :: (3, 3) :: (3, 2) :: (3, 1) :: (6, 0) :: (3, 0) :: (4, 0) :: []
abbrev R9 : List (Nat × Nat) := (1, 5) :: (1, 4) :: (1, 3) :: (46, 8) :: (46, 7) :: (46, 6) :: (46, 0) :: (1, 2) :: (44, 0) :: (1, 1) :: (34, 0) :: (34, 16) :: (34, 15) :: (34, 14) :: (34, 13) :: (34, 12) :: (34, 11) :: (34, 10) :: (34, 9) :: (34, 1) :: (1, 0) :: RFl
abbrev R77 : List (Nat × Nat) := (53, 50) :: (53, 49) :: (53, 48) :: (53, 47) :: (53, 40) :: (53, 33) :: (53, 31) :: (53, 30) :: (53, 29) :: (53, 28) :: (53, 19) :: (53, 18) :: (53, 17) :: (53, 16) :: (53, 15) :: (53, 13) :: (53, 12) :: (53, 10) :: (53, 9) :: (53, 8) :: (53, 7) :: (53, 6) :: (53, 5) :: (53, 4) :: R9
def r9_b (c k : Nat) : Bool := (rT c k == 0) || R9.elem (c, k)
theorem r9_t : ∀ c : Nat, c < 53 → ∀ k : Nat, k < 60 → r9_b c k = true := by decide +kernel
theorem r9_all : ∀ c : Nat, c < 53 → ∀ k : Nat, k < 60 → ¬ rT c k = 0 → (c, k) ∈ R9 := by
  intro c hc k hk z
  have := r9_t c hc k hk
  unfold r9_b at this
  rcases Bool.or_eq_true_iff.mp this with e | e
  · exact absurd (by simpa using e) z
  · exact List.elem_iff.mp e
def r77_b (c k : Nat) : Bool := (rT c k == 0) || R77.elem (c, k)
theorem r77_t : ∀ c : Nat, c < 78 → ∀ k : Nat, k < 60 → r77_b c k = true := by decide +kernel
theorem r77_all : ∀ c : Nat, c < 78 → ∀ k : Nat, k < 60 → ¬ rT c k = 0 → (c, k) ∈ R77 := by
  intro c hc k hk z
  have := r77_t c hc k hk
  unfold r77_b at this
  rcases Bool.or_eq_true_iff.mp this with e | e
  · exact absurd (by simpa using e) z
  · exact List.elem_iff.mp e
theorem ps_r {S0 S : AS} {m u : Nat} {R : List (Nat × Nat)} (h : PSh S0 S m u R) {c : Nat} (hR : ∀ k : Nat, k < 60 → ¬ rT c k = 0 → (c, k) ∈ R) (k : Nat) : sR S c k = rT c k := by
  rw [h.2.2.2.2.1 c k]
  by_cases q : (c, k) ∈ R
  · rw [if_pos q]
  · rw [if_neg q]
    by_cases e : k < 60
    · by_cases z : rT c k = 0
      · exact z.symm
      · exact absurd (hR k e z) q
    · exact (rT_far (by omega)).symm
theorem ps_u {kX nX : Nat → Nat} {rX : Nat → Nat → Nat} {S0 S : AS} {m u u' : Nat} {R : List (Nat × Nat)} (h : PSx kX nX rX S0 S m u R) (hu : u ≤ u') : PSx kX nX rX S0 S m u' R := ⟨h.1, h.2.1, by have := h.2.2.1; omega, h.2.2.2⟩
theorem ps_shc {S0 S : AS} {m u : Nat} {R : List (Nat × Nat)} (h : PSh S0 S m u R) (hm : 52 ≤ m) (hR : ∀ c : Nat, c < 53 → ∀ k : Nat, k < 60 → ¬ rT c k = 0 → (c, k) ∈ R) : ShC S := by
  refine ⟨fun c c0 c1 => h.2.2.2.1 c c0 (by omega), fun c k c0 c1 _ => ps_r h (hR c (by omega)) k, 0, by decide, fun j => ?_, fun j hj => absurd hj (by omega)⟩
  rw [if_neg (by omega), ps_r h (hR 21 (by decide)) j]
  rfl
theorem ps_shm {S0 S : AS} {u : Nat} (h : PSh S0 S 77 u R77) : ShM S := ⟨fun c c0 c1 => h.2.2.2.1 c (by omega) (by omega), fun c k c0 c1 => ps_r h (r77_all c (by omega)) k⟩
def pT (c : Nat) : Nat := if c = 2 then 34 else if 3 ≤ c ∧ c ≤ 34 then c - 1 else c
def pU (c : Nat) : Nat := if c = 34 then 2 else if 2 ≤ c ∧ c ≤ 33 then c + 1 else c
theorem prm9 : Prm pT pU 34 := by
  refine ⟨fun c => ?_, fun c => ?_, fun c hc => ?_⟩
  · unfold pT pU
    repeat' split
    all_goals omega
  · unfold pT pU
    repeat' split
    all_goals omega
  · unfold pT
    repeat' split
    all_goals omega
abbrev R9u : List (Nat × Nat) := (1, 5) :: (1, 4) :: (1, 3) :: (46, 8) :: (46, 7) :: (46, 6) :: (46, 0) :: (1, 2) :: (44, 0) :: (1, 1) :: (1, 0) :: (2, 16) :: (2, 15) :: (2, 14) :: (2, 13) :: (2, 12) :: (2, 11) :: (2, 10) :: (2, 9) :: (2, 1) :: (2, 0) :: (21, 5) :: (33, 0) :: (21, 4) :: (31, 0) :: (21, 3) :: (29, 0) :: (21, 2) :: (27, 0) :: (21, 1) :: (25, 0) :: (21, 0) :: (23, 0) :: (3, 6) :: (3, 5) :: (3, 4) :: (3, 3) :: (3, 2) :: (3, 1) :: (11, 3) :: (11, 2) :: (11, 1) :: (14, 0) :: (11, 0) :: (12, 0) :: (3, 0) :: (4, 3) :: (4, 2) :: (4, 1) :: (7, 0) :: (4, 0) :: (5, 0) :: []
theorem xu_all : ∀ c : Nat, c < 53 → kU (pU c) = kT c ∧ nU (pU c) = nT c := by decide +kernel
theorem r9_u : ∀ q ∈ R9, (pU q.1, q.2) ∈ R9u ∧ pT (rU (pU q.1) q.2) = rT q.1 q.2 := by decide +kernel
theorem u_r9 : ∀ q ∈ R9u, (pT q.1, q.2) ∈ R9 := by decide +kernel
theorem psu_psh {S0 S : AS} {u : Nat} (h : PSu S0 S 52 u R9u) : PSh S0 (pmS pT pU S) 52 u R9 := by
  obtain ⟨h1, h2, h3, h4, h5, h6, h7⟩ := h
  refine ⟨h1, h2, h3, fun c c0 c1 => ?_, fun c k => ?_, by decide, by decide⟩
  · have i := prm_in (prm_sym prm9) c0 c1 (show 34 ≤ 52 by decide)
    have t := xu_all c (by omega)
    have v := h4 (pU c) i.1 i.2
    exact ⟨v.1.trans t.1, v.2.trans t.2⟩
  · show pT (sR S (pU c) k) = if (c, k) ∈ R9 then rT c k else 0
    rw [h5 (pU c) k]
    by_cases q : (c, k) ∈ R9
    · have v := r9_u (c, k) q
      rw [if_pos q, if_pos v.1]
      exact v.2
    · have v : ¬ (pU c, k) ∈ R9u := fun z => q (by
        have w : (pT (pU c), k) ∈ R9 := u_r9 _ z
        rw [prm9.1] at w
        exact w)
      rw [if_neg q, if_neg v]
      rfl
theorem rn_zero {F : AF} {G : AG} (zf : Zf F G 0) : pmF pU (fu F 46 11 (-1)) = fu F 46 11 (-1) ∧ pmG pU G = G := by
  have p0 : ∀ c : Nat, c = 0 ∨ 34 < c → pU c = c := (prm_sym prm9).2.2
  have p1 : ∀ c : Nat, 1 ≤ c → c ≤ 34 → 1 ≤ pU c ∧ pU c ≤ 34 := fun c h1 h2 => prm_in (prm_sym prm9) h1 h2 (Nat.le_refl _)
  constructor
  · funext c k
    show fu F 46 11 (-1) (pU c) k = fu F 46 11 (-1) c k
    by_cases e : c = 0 ∨ 34 < c
    · rw [p0 c e]
    · have i := p1 c (by omega) (by omega)
      rw [fu_c (by omega), fu_c (by omega), zf.1 _ k (by omega), zf.1 c k (by omega)]
  · funext c j
    show G (pU c) j = G c j
    by_cases e : c = 0 ∨ 34 < c
    · rw [p0 c e]
    · have i := p1 c (by omega) (by omega)
      rw [zf.2 _ j (by omega), zf.2 c j (by omega)]
/-- the constructor, in the order in which it makes the cells; the clearing of the Floor is told in the shape's numbers -/
theorem ok_iX9u {d : Nat} {S0 S : AS} {F : AF} {G : AG} {u : Nat} (hd : 6 ≤ d) (h : PSu S0 S 1 u []) (zf : Zf F G 0) {Q : AQ} (hq : ∀ S' F' G', PSu S0 S' 52 (u + 20000) R9u → ClrQ (fu F 46 11 (-1)) F' G G' 1 1 1000000000000 → Q none S' (pmF pT F') (pmG pT G')) : Ok d MX9_init [vR 1] S F G Q := by
  refine ok_go rfl (by decide) (Nat.le_of_ble_eq_true rfl) (R_X9_init_0 ?_)
  unfold V_X9_init_0
  refine ⟨by omega, by decide, ?_⟩
  refine st_obj (m' := 43) (F' := F) (by omega) h (zf_up zf (by decide)) (by decide) (by decide) (by decide) rfl rfl rfl rfl (by decide) (fun S5 h5 Q' hq' => ok_iX7 (by omega) h5 (zf_up zf (by decide)) hq') (fun S1 h1 => ?_)
  have r10 : sR S1 1 0 = 2 := x2_at h1 List.mem_cons_self
  have r20 : sR S1 2 0 = 3 := x2_at h1 (by simp)
  rw [r10, r20]
  refine ⟨ps_k h1 (by decide) (by decide), ps_k h1 (by decide) (by decide), by rw [h1.2.1]; decide, fun S20 e20 => ?_⟩
  have h4 := ps_ru (c := 1) (k := 1) (r := 3) h1 (by decide) rfl
  rw [← e20] at h4
  refine st_obj (m' := 45) (F' := F) (by omega) h4 (zf_up zf (by decide)) (by decide) (by decide) (by decide) rfl rfl rfl rfl (by decide) (fun S5 h5 Q' hq' => ok_iX6 (by omega) h5 (zf_up zf (by decide)) hq') (fun S6 h6 => ?_)
  unfold V_X9_init_37
  refine st_obj (m' := 50) (F' := fu F 46 11 (-1)) (by omega) h6 (zf_up zf (by decide)) (by decide) (by decide) (by decide) rfl rfl rfl rfl (by decide) (fun S5 h5 Q' hq' => ok_iX5 (by omega) h5 (zf_up zf (by decide)) hq') (fun S7 h7 => ?_)
  have zf2 : Zf (fu F 46 11 (-1)) G 50 := ⟨fun c k hc => by rw [fu_c (by omega)]; exact zf.1 c k (by omega), fun c j hc => zf.2 c j (by omega)⟩
  refine st_obj (m' := 51) (F' := fu F 46 11 (-1)) (by omega) h7 zf2 (by decide) (by decide) (by decide) rfl rfl rfl rfl (by decide) (fun S5 h5 Q' hq' => ok_iX3 (by omega) (by decide) (hq' S5 h5)) (fun S8 h8 => ?_)
  refine st_obj (m' := 52) (F' := fu F 46 11 (-1)) (by omega) h8 (zf_up zf2 (by decide)) (by decide) (by decide) (by decide) rfl rfl rfl rfl (by decide) (fun S5 h5 Q' hq' => ok_iX3 (by omega) (by decide) (hq' S5 h5)) (fun S9 h9 => ?_)
  have h9' : PSu S0 S9 52 (u + 20000) R9u := ps_u h9 (by omega)
  unfold V_X9_init_70
  have r1 : sR S9 1 1 = 3 := x2_at h9' (by simp)
  rw [r1]
  have n9 := h9'.2.1
  refine ⟨ps_k h9 (by decide) (by decide), by omega, ps_k h9 (by decide) (by decide), ok_conj (f := pT) (g := pU) (n := 34) (av' := [vR 2, vI 1, vI 1, vJ 1000000000000]) prm9 (by decide) (by omega) (fun ad => rfl) (fun hav => okS_c (Or.inl (by omega)) (okS_t hav)) ?_⟩
  rw [(rn_zero zf).1, (rn_zero zf).2]
  refine ok_fclear (by omega) (ps_shc (psu_psh h9') (by decide) r9_all) (by omega) (by omega) (by omega) (by omega) (fun F' G' c => ⟨rfl, by show 34 ≤ sn S9; omega, rfl, ?_⟩)
  rw [pm_back prm9]
  exact hq S9 F' G' h9' c
/-- the constructor, told in the shape's numbers -/
theorem ok_iX9 {d : Nat} {S0 S : AS} {F : AF} {G : AG} {u : Nat} (hd : 6 ≤ d) (h : PSh S0 S 1 u []) (zf : Zf F G 0) {Q : AQ} (hq : ∀ S' F' G', PSh S0 S' 52 (u + 20000) R9 → ClrQ (fu F 46 11 (-1)) F' G G' 1 1 1000000000000 → Q none S' F' G') : Ok d MX9_init [vR 1] S F G Q := by
  have hU : PSu S0 S 1 u [] := by
    obtain ⟨h1, h2, h3, h4, h5, h6, h7⟩ := h
    refine ⟨h1, h2, h3, fun c c0 c1 => ?_, fun c k => ?_, h6, h7⟩
    · have e : c = 1 := by omega
      subst e
      exact h4 1 c0 c1
    · rw [h5 c k, if_neg (by simp), if_neg (by simp)]
  have n1 := h.2.1
  refine ok_post (f := pT) (g := pU) (n := 34) prm9 (fun c hc => ?_) (ok_iX9u hd hU zf (fun S' F' G' p c => ⟨rfl, by rw [p.2.1]; decide, ?_⟩))
  · have hc2 : c = 0 ∨ c = 1 := by omega
    rcases hc2 with e | e <;> subst e <;> rfl
  · rw [pmF_back prm9, pmG_back prm9]
    exact hq _ F' G' (psu_psh p) c
def FaM (F : AF) : AF := fu (fu (fu (fu F 53 1 1) 53 2 1) 53 3 1000000000000) 53 38 (-1)
theorem ok_iX10 {d : Nat} {S0 S : AS} {F : AF} {G : AG} {u : Nat} (hd : 3 ≤ d) (h : PSh S0 S 53 u R9) (zf : Zf F G 52) {Q : AQ} (hq : ∀ S' F' G', PSh S0 S' 77 (u + 100000) R77 → BgnQ (FaM F) F' G G' → Q none S' F' G') : Ok d MX10_init [vR 53] S F G Q := by
  refine ok_go rfl (by decide) (Nat.le_of_ble_eq_true rfl) (R_X10_init_0 ?_)
  unfold V_X10_init_0
  refine ⟨by omega, by decide, ps_k h (by decide) (by decide), fun F4 e4 F5 e5 F6 e6 => ?_⟩
  have z6 : Zf F6 G 53 := ⟨fun c k hc => by rw [e6, fu_c (by omega), e5, fu_c (by omega), e4, fu_c (by omega)]; exact zf.1 c k (by omega), fun c j hc => zf.2 c j (by omega)⟩
  unfold V_X10_init_21
  refine st_arr h z6 (by decide) (by decide) (by decide) rfl rfl rfl rfl (fun S1 h1 => ?_)
  refine st_arr h1 (zf_up z6 (by decide)) (by decide) (by decide) (by decide) rfl rfl rfl rfl (fun S2 h2 => ?_)
  refine st_arr h2 (zf_up z6 (by decide)) (by decide) (by decide) (by decide) rfl rfl rfl rfl (fun S3 h3 => ?_)
  unfold V_X10_init_43
  refine st_arr h3 (zf_up z6 (by decide)) (by decide) (by decide) (by decide) rfl rfl rfl rfl (fun S4 h4 => ?_)
  refine st_arr h4 (zf_up z6 (by decide)) (by decide) (by decide) (by decide) rfl rfl rfl rfl (fun S5 h5 => ?_)
  refine st_arr h5 (zf_up z6 (by decide)) (by decide) (by decide) (by decide) rfl rfl rfl rfl (fun S6 h6 => ?_)
  unfold V_X10_init_67
  refine st_arr h6 (zf_up z6 (by decide)) (by decide) (by decide) (by decide) rfl rfl rfl rfl (fun S7 h7 => ?_)
  refine st_arr h7 (zf_up z6 (by decide)) (by decide) (by decide) (by decide) rfl rfl rfl rfl (fun S8 h8 => ?_)
  refine st_arr h8 (zf_up z6 (by decide)) (by decide) (by decide) (by decide) rfl rfl rfl rfl (fun S9 h9 => ?_)
  unfold V_X10_init_92
  refine st_arr h9 (zf_up z6 (by decide)) (by decide) (by decide) (by decide) rfl rfl rfl rfl (fun S10 h10 => ?_)
  refine st_arr h10 (zf_up z6 (by decide)) (by decide) (by decide) (by decide) rfl rfl rfl rfl (fun S11 h11 => ?_)
  refine st_arr h11 (zf_up z6 (by decide)) (by decide) (by decide) (by decide) rfl rfl rfl rfl (fun S12 h12 => ?_)
  unfold V_X10_init_116
  refine st_arr h12 (zf_up z6 (by decide)) (by decide) (by decide) (by decide) rfl rfl rfl rfl (fun S13 h13 => ?_)
  refine st_arr h13 (zf_up z6 (by decide)) (by decide) (by decide) (by decide) rfl rfl rfl rfl (fun S14 h14 => ?_)
  refine st_arr h14 (zf_up z6 (by decide)) (by decide) (by decide) (by decide) rfl rfl rfl rfl (fun S15 h15 => ?_)
  unfold V_X10_init_139
  refine st_arr h15 (zf_up z6 (by decide)) (by decide) (by decide) (by decide) rfl rfl rfl rfl (fun S16 h16 => ?_)
  refine st_arr h16 (zf_up z6 (by decide)) (by decide) (by decide) (by decide) rfl rfl rfl rfl (fun S17 h17 => ?_)
  refine st_arr h17 (zf_up z6 (by decide)) (by decide) (by decide) (by decide) rfl rfl rfl rfl (fun S18 h18 => ?_)
  unfold V_X10_init_163
  refine st_arr h18 (zf_up z6 (by decide)) (by decide) (by decide) (by decide) rfl rfl rfl rfl (fun S19 h19 => ?_)
  refine ⟨ps_k h19 (by decide) (by decide), fun F10 e10 => ?_⟩
  have eF : F10 = FaM F := by rw [e10, e6, e5, e4]; rfl
  have z10 : Zf F10 G 53 := ⟨fun c k hc => by rw [e10, fu_c (by omega)]; exact z6.1 c k hc, z6.2⟩
  refine st_arr h19 (zf_up z10 (by decide)) (by decide) (by decide) (by decide) rfl rfl rfl rfl (fun S20 h20 => ?_)
  unfold V_X10_init_186
  refine st_arr h20 (zf_up z10 (by decide)) (by decide) (by decide) (by decide) rfl rfl rfl rfl (fun S21 h21 => ?_)
  refine st_arr h21 (zf_up z10 (by decide)) (by decide) (by decide) (by decide) rfl rfl rfl rfl (fun S22 h22 => ?_)
  refine st_arr h22 (zf_up z10 (by decide)) (by decide) (by decide) (by decide) rfl rfl rfl rfl (fun S23 h23 => ?_)
  unfold V_X10_init_210
  refine st_arr h23 (zf_up z10 (by decide)) (by decide) (by decide) (by decide) rfl rfl rfl rfl (fun S24 h24 => ?_)
  have h24' : PSh S0 S24 77 (u + 100000) R77 := ps_u h24 (by omega)
  refine ⟨by omega, ps_k h24 (by decide) (by decide), ok_begins (ps_shm h24') (fun F' G' c => ⟨rfl, hq S24 F' G' h24' ?_⟩)⟩
  rw [eF] at c
  exact c
end
