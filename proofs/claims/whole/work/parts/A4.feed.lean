section
/-! FEED -/
def ag5 (a b c d e i : Int) : Int := if i < 4 then a else if i < 8 then b else if i < 12 then c else if i < 16 then d else e
def bt5 (a b c d e i : Int) : Int := iB (bShr (ag5 a b c d e i) (24 - 8 * (i % 4)))
theorem put4_at {G : AG} {c : Nat} {f a j : Int} : put4 G c f a c j = if f ≤ j ∧ j < f + 4 then iB (bShr a (24 - 8 * (j - f))) else G c j := by
  unfold put4
  by_cases h : f ≤ j ∧ j < f + 4
  · rw [if_pos h]
    have : j = f ∨ j = f + 1 ∨ j = f + 2 ∨ j = f + 3 := by omega
    rcases this with e | e | e | e
    · have e2 : (24 : Int) - 8 * (j - f) = 24 := by omega
      rw [e2, e, gu_i (by omega), gu_i (by omega), gu_i (by omega), gu_s]
    · have e2 : (24 : Int) - 8 * (j - f) = 16 := by omega
      rw [e2, e, gu_i (by omega), gu_i (by omega), gu_s]
    · have e2 : (24 : Int) - 8 * (j - f) = 8 := by omega
      rw [e2, e, gu_i (by omega), gu_s]
    · have e2 : (24 : Int) - 8 * (j - f) = 0 := by omega
      rw [e2, e, gu_s]
  · rw [if_neg h, gu_i (by omega), gu_i (by omega), gu_i (by omega), gu_i (by omega)]
theorem put4_c {G : AG} {c c' : Nat} {f a : Int} (h : c' ≠ c) : put4 G c f a c' = G c' := by
  unfold put4
  rw [gu_row h, gu_row h, gu_row h, gu_row h]
theorem feed5 {G : AG} {f a b c d e j : Int} : put4 (put4 (put4 (put4 (put4 G 47 f a) 47 (f + 4) b) 47 (f + 4 + 4) c) 47 (f + 4 + 4 + 4) d) 47 (f + 4 + 4 + 4 + 4) e 47 j = if f ≤ j ∧ j < f + 20 then bt5 a b c d e (j - f) else G 47 j := by
  rw [put4_at, put4_at, put4_at, put4_at, put4_at]
  by_cases h : f ≤ j ∧ j < f + 20
  · rw [if_pos h]
    unfold bt5 ag5
    by_cases h1 : j < f + 4
    · rw [if_neg (by omega), if_neg (by omega), if_neg (by omega), if_neg (by omega), if_pos (by omega), if_pos (by omega)]
      congr 2
      omega
    · by_cases h2 : j < f + 8
      · rw [if_neg (by omega), if_neg (by omega), if_neg (by omega), if_pos (by omega), if_neg (by omega), if_pos (by omega)]
        congr 2
        omega
      · by_cases h3 : j < f + 12
        · rw [if_neg (by omega), if_neg (by omega), if_pos (by omega), if_neg (by omega), if_neg (by omega), if_pos (by omega)]
          congr 2
          omega
        · by_cases h4 : j < f + 16
          · rw [if_neg (by omega), if_pos (by omega), if_neg (by omega), if_neg (by omega), if_neg (by omega), if_pos (by omega)]
            congr 2
            omega
          · rw [if_pos (by omega), if_neg (by omega), if_neg (by omega), if_neg (by omega), if_neg (by omega)]
            congr 2
            omega
  · rw [if_neg h, if_neg (by omega), if_neg (by omega), if_neg (by omega), if_neg (by omega), if_neg (by omega)]
theorem prb_feed {d : Nat} {S : AS} {F : AF} {G : AG} {b : Int} (hd : 3 ≤ d) (h : Inv S F G b) (a1 a2 a3 a4 a5 : Int) : PrB d MX9_feed MX10_feed [vR 1, vI a1, vI a2, vI a3, vI a4, vI a5] [vR 53, vI a1, vI a2, vI a3, vI a4, vI a5] vI S F G b := by
  obtain ⟨ci, kk, kx⟩ := inv_ci h
  obtain ⟨x1, x2, x3, x4, x5⟩ := id kx
  have hsh := ci.1.1
  have hsm := ci.1.2.1
  have t0 := ci.2.2.2.2.2.2.2.2.2.1
  have t5 := ci.2.2.2.2.2.2.2.2.2.2
  refine ok_go rfl (by decide) (Nat.le_of_ble_eq_true rfl) (R_X9_feed_0 hsh ?_)
  unfold V_X9_feed_0
  refine ⟨by omega, _, pu_hasRoomS hsh t0 t5, fun q => ?_, fun q => ?_⟩
  · have yr : F 46 1 + 20 ≤ 500 := Classical.byContradiction (fun z => q (bI_f z))
    refine ok_sputT hsh t0 (by omega) a1 ⟨rfl, rfl, ?_⟩
    refine ok_sputT hsh (by rw [fu_s]; omega) (by rw [fu_s]; omega) a2 ⟨rfl, rfl, ?_⟩
    rw [fu_s, fu_fu]
    refine ok_sputT hsh (by rw [fu_s]; omega) (by rw [fu_s]; omega) a3 ⟨rfl, rfl, ?_⟩
    rw [fu_s, fu_fu]
    refine ok_sputT hsh (by rw [fu_s]; omega) (by rw [fu_s]; omega) a4 ⟨rfl, rfl, ?_⟩
    rw [fu_s, fu_fu]
    refine ok_sputT hsh (by rw [fu_s]; omega) (by rw [fu_s]; omega) a5 ⟨rfl, rfl, ?_⟩
    rw [fu_s, fu_fu, fu_s]
    generalize hG : put4 (put4 (put4 (put4 (put4 G 47 (F 46 1) a1) 47 (F 46 1 + 4) a2) 47 (F 46 1 + 4 + 4) a3) 47 (F 46 1 + 4 + 4 + 4) a4) 47 (F 46 1 + 4 + 4 + 4 + 4) a5 = G1
    have g1 : ∀ c : Nat, c ≠ 47 → G1 c = G c := fun c hc => by rw [← hG, put4_c hc, put4_c hc, put4_c hc, put4_c hc, put4_c hc]
    have g47 : ∀ j : Int, G1 47 j = if F 46 1 ≤ j ∧ j < F 46 1 + 20 then bt5 a1 a2 a3 a4 a5 (j - F 46 1) else G 47 j := fun j => by rw [← hG]; exact feed5
    have e20 : F 46 1 + 4 + 4 + 4 + 4 + 4 = F 46 1 + 20 := by omega
    rw [e20]
    generalize hF : fu F 46 1 (F 46 1 + 20) = F1
    have f1 : ∀ c : Nat, c ≠ 46 → F1 c = F c := fun c hc => by rw [← hF, fu_row hc]
    have f46 : ∀ j : Nat, j ≠ 1 → F1 46 j = F 46 j := fun j hj => by rw [← hF, fu_k hj]
    have f461 : F1 46 1 = F 46 1 + 20 := by rw [← hF, fu_s]
    refine ⟨_, rfl, ⟨rfl, rfl⟩, hsh, hsm, ok_go rfl (by decide) (Nat.le_of_ble_eq_true rfl) (R_X10_feed_0 hsm ?_)⟩
    unfold V_X10_feed_0
    intro F0 e0
    have k0 : F0 53 34 = F 46 1 := by rw [e0, fu_k (by decide), f1 53 (by decide)]; exact x2.symm
    refine ⟨by omega, fun _ => ?_, fun n => absurd (by omega) n⟩
    have e00 : fu F0 53 34 (F 46 1 + 0) = F0 := fu_id (by omega)
    have main : ∀ (i : Int) (G3 : AG), (0 ≤ i ∧ i ≤ 20 ∧ (∀ c : Nat, c ≠ 72 → G3 c = G1 c) ∧ ∀ j : Int, G3 72 j = if F 46 1 ≤ j ∧ j < F 46 1 + i then bt5 a1 a2 a3 a4 a5 (j - F 46 1) else G 72 j) → Go d MX10_feed 24 [some (vR 53), some (vI a1), some (vI a2), some (vI a3), some (vI a4), some (vI a5), some (vI i), none] [] S (fu F0 53 34 (F 46 1 + i)) G3 (fun w2 S2 F2 G2 => w2 = some (vI (F 46 1 + 20)) ∧ SLike S S2 ∧ Inv S2 F2 G2 b) := by
      refine up_ind (α := AG) 19 _ _ ?_ ?_
      · rintro i G3 ⟨i0, i1, w1, w2⟩ hi ih
        have st : ∀ s0 : Int, s0 = ag5 a1 a2 a3 a4 a5 i → V_X10_feed_77 d S (fu F0 53 34 (F 46 1 + i)) G3 (fun w2 S2 F2 G2 => w2 = some (vI (F 46 1 + 20)) ∧ SLike S S2 ∧ Inv S2 F2 G2 b) a1 a2 a3 a4 a5 i s0 := by
          intro s0 es
          unfold V_X10_feed_77
          rw [fu_s, tdiv_pos i0, tmod_pos i0, fu_fu]
          refine ⟨by omega, by omega, by omega, by omega, by omega, by omega, iB_in _, fun G8 e8 => ⟨by omega, fun F10 e10 => ⟨by omega, ?_⟩⟩⟩
          have ei : F 46 1 + i + 1 = F 46 1 + (i + 1) := by omega
          rw [e10, ei]
          refine ih G8 ⟨by omega, by omega, fun c hc => by rw [e8, gu_row hc]; exact w1 c hc, fun j => ?_⟩
          by_cases ej : j = F 46 1 + i
          · have ej2 : j - F 46 1 = i := by omega
            rw [if_pos (by omega), ej2, ej, e8, gu_s]
            unfold bt5
            rw [es]
          · rw [e8, gu_i ej, w2 j]
            by_cases c : F 46 1 ≤ j ∧ j < F 46 1 + i
            · rw [if_pos c, if_pos (by omega)]
            · rw [if_neg c, if_neg (by omega)]
        refine R_X10_feed_24 hsm ?_
        unfold V_X10_feed_24
        refine ⟨fun q => absurd q (by omega), fun _ => ⟨fun q1 => ⟨fun q2 => ⟨fun q3 => ⟨fun q4 => st a5 ?_, fun q4 => st a4 ?_⟩, fun q3 => st a3 ?_⟩, fun q2 => st a2 ?_⟩, fun q1 => st a1 ?_⟩⟩
        · unfold ag5
          rw [if_neg (by omega), if_neg (by omega), if_neg (by omega), if_neg (by omega)]
        · unfold ag5
          rw [if_neg (by omega), if_neg (by omega), if_neg (by omega), if_pos (by omega)]
        · unfold ag5
          rw [if_neg (by omega), if_neg (by omega), if_pos (by omega)]
        · unfold ag5
          rw [if_neg (by omega), if_pos (by omega)]
        · unfold ag5
          rw [if_pos (by omega)]
      · rintro i G3 ⟨i0, i1, w1, w2⟩ hi
        have e : i = 20 := by omega
        subst e
        refine R_X10_feed_24 hsm ?_
        unfold V_X10_feed_24
        refine ⟨fun _ => ⟨by rw [fu_s], ⟨rfl, rfl⟩, ?_⟩, fun q => absurd (by omega) q⟩
        generalize hF2 : fu F0 53 34 (F 46 1 + 20) = F2
        have fx : ∀ c : Nat, c ≠ 53 → F2 c = F1 c := fun c hc => by rw [← hF2, fu_row hc, e0, fu_row hc]
        have fy : ∀ c : Nat, c ≠ 53 → c ≠ 46 → F2 c = F c := fun c hc h1 => by rw [fx c hc, f1 c h1]
        have fk : ∀ j : Nat, j ≠ 0 → j ≠ 34 → F2 53 j = F 53 j := fun j h1 h2 => by rw [← hF2, fu_k h2, e0, fu_k h1, f1 53 (by decide)]
        have gx : ∀ c : Nat, c ≠ 47 → c ≠ 72 → G3 c = G c := fun c h1 h2 => by rw [w1 c h2, g1 c h1]
        have ci2 : CI S F2 G3 b := ci_cg ci (fy 2 (by decide) (by decide)) (fy 3 (by decide) (by decide)) (fy 4 (by decide) (by decide)) (fy 10 (by decide) (by decide)) (fy 11 (by decide) (by decide)) (fy 17 (by decide) (by decide)) (fy 44 (by decide) (by decide)) (fun c _ _ => fy c (by omega) (by omega)) (gx 5 (by decide) (by decide)) (gx 12 (by decide) (by decide)) (gx 18 (by decide) (by decide)) (fun j => ⟨fy _ (by omega) (by omega), gx _ (by omega) (by omega)⟩) (by rw [fx 46 (by decide), f461]; omega) (by rw [fx 46 (by decide), f461]; omega)
        have kk2 : KK F2 G3 F G := kk_cg kk (fy 2 (by decide) (by decide)) (fy 3 (by decide) (by decide)) (fy 4 (by decide) (by decide)) (fy 10 (by decide) (by decide)) (fy 11 (by decide) (by decide)) (fy 44 (by decide) (by decide)) (fun c _ _ => fy c (by omega) (by omega)) (gx 5 (by decide) (by decide)) (gx 12 (by decide) (by decide)) (gx 18 (by decide) (by decide)) (gx 45 (by decide) (by decide)) (fun j => ⟨fy _ (by omega) (by omega), gx _ (by omega) (by omega)⟩)
        have kk3 : KK F2 G3 F2 G3 := kk_cr kk2 (fk 1 (by decide) (by decide)) (fk 2 (by decide) (by decide)) (fk 3 (by decide) (by decide)) (fk 11 (by decide) (by decide)) (fk 14 (by decide) (by decide)) (fun c c0 c1 => gx c (by omega) (by omega))
        refine ci_inv ci2 kk3 ⟨?_, ?_, ?_, ?_, ?_⟩
        · funext j
          rw [w1 47 (by decide), g47 j, w2 j, x1]
        · rw [fx 46 (by decide), f461, ← hF2, fu_s]
        · rw [fx 46 (by decide), f46 10 (by decide), fk 37 (by decide) (by decide)]; exact x3
        · rw [fx 46 (by decide), f46 11 (by decide), fk 38 (by decide) (by decide)]; exact x4
        · rw [fx 1 (by decide), f1 1 (by decide), fk 39 (by decide) (by decide)]; exact x5
    have := main 0 G1 ⟨by omega, by omega, fun _ _ => rfl, fun j => by rw [if_neg (by omega), g1 72 (by decide)]⟩
    rw [e00] at this
    exact this
  · have no := bI_0.mp q
    refine ⟨-4, rfl, ⟨rfl, rfl⟩, hsh, hsm, ok_go rfl (by decide) (Nat.le_of_ble_eq_true rfl) (R_X10_feed_0 hsm ?_)⟩
    unfold V_X10_feed_0
    intro F0 e0
    have k0 : F0 53 34 = F 46 1 := by rw [e0, fu_k (by decide)]; exact x2.symm
    refine ⟨by omega, fun z => absurd z (by omega), fun _ => ⟨rfl, ⟨rfl, rfl⟩, ?_⟩⟩
    subst e0
    exact inv_scr h scr_thrown
end
