section
theorem zn_all : ∀ a : Nat, a < 6 → kU (23 + 2 * a) = 8 ∧ kU (24 + 2 * a) = 3 ∧ nU (23 + 2 * a) = 0 ∧ nU (24 + 2 * a) = 0 ∧ rU (23 + 2 * a) 0 = 24 + 2 * a ∧ rU 21 a = 23 + 2 * a := by decide
theorem x2_at {kX nX : Nat → Nat} {rX : Nat → Nat → Nat} {S0 S : AS} {m u : Nat} {R : List (Nat × Nat)} (h : PSx kX nX rX S0 S m u R) {c k : Nat} (hin : (c, k) ∈ R) : sR S c k = rX c k := by rw [h.2.2.2.2.1, if_pos hin]
theorem x2_step {d : Nat} {S0 S : AS} {F : AF} {G : AG} {u a : Nat} {R : List (Nat × Nat)} (hd : 3 ≤ d) (h : PSu S0 S (22 + 2 * a) u R) (zf : Zf F G (22 + 2 * a)) (ha : a < 6) (hin : (3, 5) ∈ R) {Q : AQ} (kk : ∀ S', PSu S0 S' (24 + 2 * a) (u + 7) ((21, a) :: (23 + 2 * a, 0) :: R) → Go d MX2_init 75 [some (vR 3), some (vI ((a : Int) + 1))] [] S' F G Q) : Go d MX2_init 75 [some (vR 3), some (vI a)] [] S F G Q := by
  obtain ⟨t1, t2, t3, t4, t5, t6⟩ := zn_all a ha
  have e := nF_z h.2.1 zf
  have h2 := h.2.1
  have r5 : sR S 3 5 = 21 := x2_at h hin
  have k20 : sK S 21 = 24 := ps_k h (by decide) (by omega)
  have n20 : sN S 21 = 6 := ps_l h (by decide) (by omega)
  refine R_X2_init_75 ?_
  unfold V_X2_init_75
  rw [r5]
  refine ⟨ps_k h (by decide) (by omega), k20, fun y => absurd y (by rw [n20]; omega), fun _ => ⟨by omega, fun x ex S5 e5 F6 e6 G7 e7 => ?_⟩⟩
  rw [e.1] at e6
  rw [e.2] at e7
  have ex' : x = 23 + 2 * a := by omega
  subst e5 e6 e7 ex'
  have h5 : PSu S0 (na S 8 0 3) (23 + 2 * a) (u + 3) R := by
    have := ps_na (z := 3) (K := 8) (N := 0) h (by rw [show 22 + 2 * a + 1 = 23 + 2 * a by omega, t1]) (by rw [show 22 + 2 * a + 1 = 23 + 2 * a by omega, t3]) (by omega)
    rw [show 22 + 2 * a + 1 = 23 + 2 * a by omega] at this
    exact this
  refine ⟨by omega, by omega, ok_iX8 (m := 23 + 2 * a) (by omega) h5 (zf_up zf (by omega)) (by omega) (by omega) t1 (by rw [show 23 + 2 * a + 1 = 24 + 2 * a by omega, t2]) (by rw [show 23 + 2 * a + 1 = 24 + 2 * a by omega, t4]) (by omega) (fun S' h' => ?_)⟩
  rw [show 23 + 2 * a + 1 = 24 + 2 * a by omega] at h'
  refine ⟨rfl, ps_k h' (by decide) (by omega), by omega, by rw [ps_l h' (show 1 ≤ 21 by decide) (by omega)]; show (a : Int) < ((6 : Nat) : Int); omega, by rw [ps_k h' (by omega) (by omega), t1], fun S18 e18 => ⟨by omega, ?_⟩⟩
  have ea : Int.toNat (a : Int) = a := by omega
  rw [ea] at e18
  rw [e18]
  exact kk _ (ps_ru h' (by omega) (by omega))
theorem ok_iX2 {d : Nat} {S0 S : AS} {F : AF} {G : AG} {u : Nat} {R : List (Nat × Nat)} (hd : 4 ≤ d) (h : PSu S0 S 3 u R) (zf : Zf F G 3) {Q : AQ} (hq : ∀ S', PSu S0 S' 34 (u + 5 + 312 + 5 + 312 + 4 + 6912 + 2304 + 6 + 8 + 7 + 7 + 7 + 7 + 7 + 7) ((21, 5) :: (33, 0) :: (21, 4) :: (31, 0) :: (21, 3) :: (29, 0) :: (21, 2) :: (27, 0) :: (21, 1) :: (25, 0) :: (21, 0) :: (23, 0) :: (3, 6) :: (3, 5) :: (3, 4) :: (3, 3) :: (3, 2) :: (3, 1) :: (11, 3) :: (11, 2) :: (11, 1) :: (14, 0) :: (11, 0) :: (12, 0) :: (3, 0) :: (4, 3) :: (4, 2) :: (4, 1) :: (7, 0) :: (4, 0) :: (5, 0) :: R) → Q none S' F G) : Ok d MX2_init [vR 3] S F G Q := by
  refine ok_go rfl (by decide) (Nat.le_of_ble_eq_true rfl) (R_X2_init_0 ?_)
  unfold V_X2_init_0
  refine ⟨by omega, by decide, ?_⟩
  refine st_obj (m' := 10) (u' := u + 5 + 312) (R' := (4, 3) :: (4, 2) :: (4, 1) :: (7, 0) :: (4, 0) :: (5, 0) :: R) (F' := F) (by omega) h zf (by decide) (by decide) (by decide) rfl rfl rfl rfl (by decide) (fun S5 h5 Q' hq' => ok_iX0 (by omega) h5 (zf_up zf (by decide)) (Or.inl rfl) hq') (fun S1 h1 => ?_)
  refine st_obj (m' := 17) (u' := u + 5 + 312 + 5 + 312) (R' := (11, 3) :: (11, 2) :: (11, 1) :: (14, 0) :: (11, 0) :: (12, 0) :: (3, 0) :: (4, 3) :: (4, 2) :: (4, 1) :: (7, 0) :: (4, 0) :: (5, 0) :: R) (F' := F) (by omega) h1 (zf_up zf (by decide)) (by decide) (by decide) (by decide) rfl rfl rfl rfl (by decide) (fun S5 h5 Q' hq' => ok_iX0 (by omega) h5 (zf_up zf (by decide)) (Or.inr rfl) hq') (fun S2 h2 => ?_)
  refine st_obj (m' := 18) (u' := u + 5 + 312 + 5 + 312 + 4) (F' := F) (by omega) h2 (zf_up zf (by decide)) (by decide) (by decide) (by decide) rfl rfl rfl rfl (by decide) (fun S5 h5 Q' hq' => ok_iX3 (by omega) (by decide) (hq' S5 h5)) (fun S3 h3 => ?_)
  unfold V_X2_init_37
  refine st_arr h3 (zf_up zf (by decide)) (by decide) (by decide) (by decide) rfl rfl rfl rfl (fun S4 h4 => ?_)
  refine st_arr h4 (zf_up zf (by decide)) (by decide) (by decide) (by decide) rfl rfl rfl rfl (fun S5 h5 => ?_)
  refine st_arr h5 (zf_up zf (by decide)) (by decide) (by decide) (by decide) rfl rfl rfl rfl (fun S6 h6 => ?_)
  unfold V_X2_init_64
  refine st_arr h6 (zf_up zf (by decide)) (by decide) (by decide) (by decide) rfl rfl rfl rfl (fun S7 h7 => ?_)
  have i5 : ∀ L : List (Nat × Nat), (3, 5) ∈ (3, 6) :: (3, 5) :: L := fun L => List.mem_cons_of_mem _ List.mem_cons_self
  refine x2_step (a := 0) (by omega) h7 (zf_up zf (by decide)) (by decide) (i5 _) (fun S8 h8 => ?_)
  refine x2_step (a := 1) (by omega) h8 (zf_up zf (by decide)) (by decide) (by simp) (fun S9 h9 => ?_)
  refine x2_step (a := 2) (by omega) h9 (zf_up zf (by decide)) (by decide) (by simp) (fun S10 h10 => ?_)
  refine x2_step (a := 3) (by omega) h10 (zf_up zf (by decide)) (by decide) (by simp) (fun S11 h11 => ?_)
  refine x2_step (a := 4) (by omega) h11 (zf_up zf (by decide)) (by decide) (by simp) (fun S12 h12 => ?_)
  refine x2_step (a := 5) (by omega) h12 (zf_up zf (by decide)) (by decide) (by simp) (fun S13 h13 => ?_)
  have r5 : sR S13 3 5 = 21 := x2_at h13 (by simp)
  refine R_X2_init_75 ?_
  unfold V_X2_init_75
  rw [r5]
  exact ⟨ps_k h13 (by decide) (by decide), ps_k h13 (by decide) (by decide), fun _ => hq S13 h13, fun y => absurd (by rw [ps_l h13 (show 1 ≤ 21 by decide) (by decide)]; decide) y⟩
theorem ok_iX7 {d : Nat} {S0 S : AS} {F : AF} {G : AG} {u : Nat} {R : List (Nat × Nat)} (hd : 5 ≤ d) (h : PSu S0 S 2 u R) (zf : Zf F G 2) {Q : AQ} (hq : ∀ S', PSu S0 S' 43 (u + 9 + 5 + 312 + 5 + 312 + 4 + 6912 + 2304 + 6 + 8 + 7 + 7 + 7 + 7 + 7 + 7 + 4 + 48 + 48 + 48 + 2304 + 48 + 48 + 97 + 97) ((2, 16) :: (2, 15) :: (2, 14) :: (2, 13) :: (2, 12) :: (2, 11) :: (2, 10) :: (2, 9) :: (2, 1) :: (2, 0) :: (21, 5) :: (33, 0) :: (21, 4) :: (31, 0) :: (21, 3) :: (29, 0) :: (21, 2) :: (27, 0) :: (21, 1) :: (25, 0) :: (21, 0) :: (23, 0) :: (3, 6) :: (3, 5) :: (3, 4) :: (3, 3) :: (3, 2) :: (3, 1) :: (11, 3) :: (11, 2) :: (11, 1) :: (14, 0) :: (11, 0) :: (12, 0) :: (3, 0) :: (4, 3) :: (4, 2) :: (4, 1) :: (7, 0) :: (4, 0) :: (5, 0) :: R) → Q none S' F G) : Ok d MX7_init [vR 2] S F G Q := by
  refine ok_go rfl (by decide) (Nat.le_of_ble_eq_true rfl) (R_X7_init_0 ?_)
  unfold V_X7_init_0
  refine ⟨by omega, by decide, ?_⟩
  refine st_obj (m' := 34) (F' := F) (by omega) h zf (by decide) (by decide) (by decide) rfl rfl rfl rfl (by decide) (fun S5 h5 Q' hq' => ok_iX2 (by omega) h5 (zf_up zf (by decide)) hq') (fun Sf hf => ?_)
  refine st_obj (m' := 35) (F' := F) (by omega) hf (zf_up zf (by decide)) (by decide) (by decide) (by decide) rfl rfl rfl rfl (by decide) (fun S5 h5 Q' hq' => ok_iX3 (by omega) (by decide) (hq' S5 h5)) (fun S1 h1 => ?_)
  refine st_arr h1 (zf_up zf (by decide)) (by decide) (by decide) (by decide) rfl rfl rfl rfl (fun S2 h2 => ?_)
  unfold V_X7_init_34
  refine st_arr h2 (zf_up zf (by decide)) (by decide) (by decide) (by decide) rfl rfl rfl rfl (fun S3 h3 => ?_)
  refine st_arr h3 (zf_up zf (by decide)) (by decide) (by decide) (by decide) rfl rfl rfl rfl (fun S4 h4 => ?_)
  refine st_arr h4 (zf_up zf (by decide)) (by decide) (by decide) (by decide) rfl rfl rfl rfl (fun S5 h5 => ?_)
  unfold V_X7_init_59
  refine st_arr h5 (zf_up zf (by decide)) (by decide) (by decide) (by decide) rfl rfl rfl rfl (fun S6 h6 => ?_)
  refine st_arr h6 (zf_up zf (by decide)) (by decide) (by decide) (by decide) rfl rfl rfl rfl (fun S7 h7 => ?_)
  refine st_arr h7 (zf_up zf (by decide)) (by decide) (by decide) (by decide) rfl rfl rfl rfl (fun S8 h8 => ?_)
  unfold V_X7_init_83
  exact st_arr (P := fun S F G => Q none S F G) h8 (zf_up zf (by decide)) (by decide) (by decide) (by decide) rfl rfl rfl rfl (fun S9 h9 => hq S9 h9)
end
