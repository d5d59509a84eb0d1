section
/-! THE LAW -/
theorem law_c2086 {d : Nat} {S : AS} {F : AF} {G : AG} {Q : AQ} {b : Int} {a3 : Int} (hd : 1 ≤ d) (hk9 : sK S 1 = 9) (a0 : 0 ≤ a3) (a1 : a3 + 8 ≤ sL S) (a2 : sL S ≤ 4096) (pb : PrB (d - 1) MX9_count MX10_count [vR 1, vI (sx S (a3 + 1))] [vR 53, vI (sx S (a3 + 1))] vJ S F G b) (nx : ∀ S2 F2 G2, SLike S S2 → Inv S2 F2 G2 b → Go d Mlaw 18 [some (vR 999999), some (vR 1), some (vR 53), some (vI (a3 + 8))] [] S2 F2 G2 Q) : V_law_2086 d S F G Q 1 53 a3 := by
  unfold V_law_2086
  refine ⟨by omega, by omega, by omega, by omega, hk9, ok_mono pb (fun w S1 F1 G1 hp => ?_)⟩
  obtain ⟨z, e, sl, shc, shm, hp2⟩ := hp
  have eL := sl.1
  refine ⟨z, e, by omega, by omega, by omega, shm_k shm 53 (by decide) (by decide), ?_⟩
  rw [sl.2]
  refine ok_mono hp2 (fun w2 S2 F2 G2 h2 => ⟨z, h2.1, fun _ => ?_, fun n => absurd rfl n⟩)
  unfold V_law_2110
  exact ⟨by omega, nx S2 F2 G2 h2.2.1 h2.2.2⟩
theorem law_c2052 {d : Nat} {S : AS} {F : AF} {G : AG} {Q : AQ} {b : Int} {a3 : Int} (hd : 1 ≤ d) (hk9 : sK S 1 = 9) (a0 : 0 ≤ a3) (a1 : a3 + 8 ≤ sL S) (a2 : sL S ≤ 4096) (pb : PrB (d - 1) MX9_act MX10_act [vR 1, vI (sx S (a3 + 1)), vI (sx S (a3 + 2))] [vR 53, vI (sx S (a3 + 1)), vI (sx S (a3 + 2))] vJ S F G b) (nx : ∀ S2 F2 G2, SLike S S2 → Inv S2 F2 G2 b → Go d Mlaw 18 [some (vR 999999), some (vR 1), some (vR 53), some (vI (a3 + 8))] [] S2 F2 G2 Q) : V_law_2052 d S F G Q 1 53 a3 := by
  unfold V_law_2052
  refine ⟨by omega, by omega, by omega, by omega, by omega, by omega, by omega, hk9, ok_mono pb (fun w S1 F1 G1 hp => ?_)⟩
  obtain ⟨z, e, sl, shc, shm, hp2⟩ := hp
  have eL := sl.1
  refine ⟨z, e, by omega, by omega, by omega, by omega, by omega, by omega, shm_k shm 53 (by decide) (by decide), ?_⟩
  rw [sl.2]
  refine ok_mono hp2 (fun w2 S2 F2 G2 h2 => ⟨z, h2.1, fun _ => ?_, fun n => absurd rfl n⟩)
  unfold V_law_2110
  exact ⟨by omega, nx S2 F2 G2 h2.2.1 h2.2.2⟩
theorem law_c2019 {d : Nat} {S : AS} {F : AF} {G : AG} {Q : AQ} {b : Int} {a3 : Int} (hd : 1 ≤ d) (hk9 : sK S 1 = 9) (a0 : 0 ≤ a3) (a1 : a3 + 8 ≤ sL S) (a2 : sL S ≤ 4096) (pb : PrB (d - 1) MX9_border MX10_border [vR 1, vI (sx S (a3 + 1)), vI (sx S (a3 + 2))] [vR 53, vI (sx S (a3 + 1)), vI (sx S (a3 + 2))] vI S F G b) (nx : ∀ S2 F2 G2, SLike S S2 → Inv S2 F2 G2 b → Go d Mlaw 18 [some (vR 999999), some (vR 1), some (vR 53), some (vI (a3 + 8))] [] S2 F2 G2 Q) : V_law_2019 d S F G Q 1 53 a3 := by
  unfold V_law_2019
  refine ⟨by omega, by omega, by omega, by omega, by omega, by omega, by omega, hk9, ok_mono pb (fun w S1 F1 G1 hp => ?_)⟩
  obtain ⟨z, e, sl, shc, shm, hp2⟩ := hp
  have eL := sl.1
  refine ⟨z, e, by omega, by omega, by omega, by omega, by omega, by omega, shm_k shm 53 (by decide) (by decide), ?_⟩
  rw [sl.2]
  refine ok_mono hp2 (fun w2 S2 F2 G2 h2 => ⟨z, h2.1, fun _ => ?_, fun n => absurd rfl n⟩)
  unfold V_law_2110
  exact ⟨by omega, nx S2 F2 G2 h2.2.1 h2.2.2⟩
theorem law_c1986 {d : Nat} {S : AS} {F : AF} {G : AG} {Q : AQ} {b : Int} {a3 : Int} (hd : 1 ≤ d) (hk9 : sK S 1 = 9) (a0 : 0 ≤ a3) (a1 : a3 + 8 ≤ sL S) (a2 : sL S ≤ 4096) (pb : PrB (d - 1) MX9_borders MX10_borders [vR 1, vI (sx S (a3 + 1)), vI (sx S (a3 + 2))] [vR 53, vI (sx S (a3 + 1)), vI (sx S (a3 + 2))] vI S F G b) (nx : ∀ S2 F2 G2, SLike S S2 → Inv S2 F2 G2 b → Go d Mlaw 18 [some (vR 999999), some (vR 1), some (vR 53), some (vI (a3 + 8))] [] S2 F2 G2 Q) : V_law_1986 d S F G Q 1 53 a3 := by
  unfold V_law_1986
  refine ⟨by omega, by omega, by omega, by omega, by omega, by omega, by omega, hk9, ok_mono pb (fun w S1 F1 G1 hp => ?_)⟩
  obtain ⟨z, e, sl, shc, shm, hp2⟩ := hp
  have eL := sl.1
  refine ⟨z, e, by omega, by omega, by omega, by omega, by omega, by omega, shm_k shm 53 (by decide) (by decide), ?_⟩
  rw [sl.2]
  refine ok_mono hp2 (fun w2 S2 F2 G2 h2 => ⟨z, h2.1, fun _ => ?_, fun n => absurd rfl n⟩)
  unfold V_law_2110
  exact ⟨by omega, nx S2 F2 G2 h2.2.1 h2.2.2⟩
theorem law_c1942 {d : Nat} {S : AS} {F : AF} {G : AG} {Q : AQ} {b : Int} {a3 : Int} (hd : 1 ≤ d) (hk9 : sK S 1 = 9) (a0 : 0 ≤ a3) (a1 : a3 + 8 ≤ sL S) (a2 : sL S ≤ 4096) (pb : PrB (d - 1) MX9_line MX10_line [vR 1, vI (sx S (a3 + 1)), vI (sx S (a3 + 2)), vI (sx S (a3 + 3))] [vR 53, vI (sx S (a3 + 1)), vI (sx S (a3 + 2)), vI (sx S (a3 + 3))] vJ S F G b) (nx : ∀ S2 F2 G2, SLike S S2 → Inv S2 F2 G2 b → Go d Mlaw 18 [some (vR 999999), some (vR 1), some (vR 53), some (vI (a3 + 8))] [] S2 F2 G2 Q) : V_law_1942 d S F G Q 1 53 a3 := by
  unfold V_law_1942
  refine ⟨by omega, by omega, by omega, by omega, by omega, by omega, by omega, by omega, by omega, by omega, hk9, ok_mono pb (fun w S1 F1 G1 hp => ?_)⟩
  obtain ⟨z, e, sl, shc, shm, hp2⟩ := hp
  have eL := sl.1
  refine ⟨z, e, by omega, by omega, by omega, by omega, by omega, by omega, by omega, by omega, by omega, shm_k shm 53 (by decide) (by decide), ?_⟩
  rw [sl.2]
  refine ok_mono hp2 (fun w2 S2 F2 G2 h2 => ⟨z, h2.1, fun _ => ?_, fun n => absurd rfl n⟩)
  unfold V_law_2110
  exact ⟨by omega, nx S2 F2 G2 h2.2.1 h2.2.2⟩
theorem law_c1888 {d : Nat} {S : AS} {F : AF} {G : AG} {Q : AQ} {b : Int} {a3 : Int} (hd : 1 ≤ d) (hk9 : sK S 1 = 9) (a0 : 0 ≤ a3) (a1 : a3 + 8 ≤ sL S) (a2 : sL S ≤ 4096) (pb : PrB (d - 1) MX9_window MX10_window [vR 1, vI (sx S (a3 + 1)), vI (sx S (a3 + 2)), vI (sx S (a3 + 3)), vI (sx S (a3 + 4))] [vR 53, vI (sx S (a3 + 1)), vI (sx S (a3 + 2)), vI (sx S (a3 + 3)), vI (sx S (a3 + 4))] vJ S F G b) (nx : ∀ S2 F2 G2, SLike S S2 → Inv S2 F2 G2 b → Go d Mlaw 18 [some (vR 999999), some (vR 1), some (vR 53), some (vI (a3 + 8))] [] S2 F2 G2 Q) : V_law_1888 d S F G Q 1 53 a3 := by
  unfold V_law_1888
  refine ⟨by omega, by omega, by omega, by omega, by omega, by omega, by omega, by omega, by omega, by omega, by omega, by omega, by omega, hk9, ok_mono pb (fun w S1 F1 G1 hp => ?_)⟩
  obtain ⟨z, e, sl, shc, shm, hp2⟩ := hp
  have eL := sl.1
  refine ⟨z, e, by omega, by omega, by omega, by omega, by omega, by omega, by omega, by omega, by omega, by omega, by omega, by omega, shm_k shm 53 (by decide) (by decide), ?_⟩
  rw [sl.2]
  refine ok_mono hp2 (fun w2 S2 F2 G2 h2 => ⟨z, h2.1, fun _ => ?_, fun n => absurd rfl n⟩)
  unfold V_law_2110
  exact ⟨by omega, nx S2 F2 G2 h2.2.1 h2.2.2⟩
theorem law_c1854 {d : Nat} {S : AS} {F : AF} {G : AG} {Q : AQ} {b : Int} {a3 : Int} (hd : 1 ≤ d) (hk9 : sK S 1 = 9) (a0 : 0 ≤ a3) (a1 : a3 + 8 ≤ sL S) (a2 : sL S ≤ 4096) (pb : PrB (d - 1) MX9_depot MX10_depot [vR 1, vI (sx S (a3 + 1)), vI (sx S (a3 + 2))] [vR 53, vI (sx S (a3 + 1)), vI (sx S (a3 + 2))] vJ S F G b) (nx : ∀ S2 F2 G2, SLike S S2 → Inv S2 F2 G2 b → Go d Mlaw 18 [some (vR 999999), some (vR 1), some (vR 53), some (vI (a3 + 8))] [] S2 F2 G2 Q) : V_law_1854 d S F G Q 1 53 a3 := by
  unfold V_law_1854
  refine ⟨by omega, by omega, by omega, by omega, by omega, by omega, by omega, hk9, ok_mono pb (fun w S1 F1 G1 hp => ?_)⟩
  obtain ⟨z, e, sl, shc, shm, hp2⟩ := hp
  have eL := sl.1
  refine ⟨z, e, by omega, by omega, by omega, by omega, by omega, by omega, shm_k shm 53 (by decide) (by decide), ?_⟩
  rw [sl.2]
  refine ok_mono hp2 (fun w2 S2 F2 G2 h2 => ⟨z, h2.1, fun _ => ?_, fun n => absurd rfl n⟩)
  unfold V_law_2110
  exact ⟨by omega, nx S2 F2 G2 h2.2.1 h2.2.2⟩
theorem law_c1800 {d : Nat} {S : AS} {F : AF} {G : AG} {Q : AQ} {b : Int} {a3 : Int} (hd : 1 ≤ d) (hk9 : sK S 1 = 9) (a0 : 0 ≤ a3) (a1 : a3 + 8 ≤ sL S) (a2 : sL S ≤ 4096) (pb : PrB (d - 1) MX9_ahead MX10_ahead [vR 1, vI (sx S (a3 + 1)), vI (sx S (a3 + 2)), vI (sx S (a3 + 3)), vI (sx S (a3 + 4))] [vR 53, vI (sx S (a3 + 1)), vI (sx S (a3 + 2)), vI (sx S (a3 + 3)), vI (sx S (a3 + 4))] vJ S F G b) (nx : ∀ S2 F2 G2, SLike S S2 → Inv S2 F2 G2 b → Go d Mlaw 18 [some (vR 999999), some (vR 1), some (vR 53), some (vI (a3 + 8))] [] S2 F2 G2 Q) : V_law_1800 d S F G Q 1 53 a3 := by
  unfold V_law_1800
  refine ⟨by omega, by omega, by omega, by omega, by omega, by omega, by omega, by omega, by omega, by omega, by omega, by omega, by omega, hk9, ok_mono pb (fun w S1 F1 G1 hp => ?_)⟩
  obtain ⟨z, e, sl, shc, shm, hp2⟩ := hp
  have eL := sl.1
  refine ⟨z, e, by omega, by omega, by omega, by omega, by omega, by omega, by omega, by omega, by omega, by omega, by omega, by omega, shm_k shm 53 (by decide) (by decide), ?_⟩
  rw [sl.2]
  refine ok_mono hp2 (fun w2 S2 F2 G2 h2 => ⟨z, h2.1, fun _ => ?_, fun n => absurd rfl n⟩)
  unfold V_law_2110
  exact ⟨by omega, nx S2 F2 G2 h2.2.1 h2.2.2⟩
theorem law_c1692 {d : Nat} {S : AS} {F : AF} {G : AG} {Q : AQ} {b : Int} {a3 : Int} (hd : 1 ≤ d) (hk9 : sK S 1 = 9) (a0 : 0 ≤ a3) (a1 : a3 + 8 ≤ sL S) (a2 : sL S ≤ 4096) (pb : PrB (d - 1) MX9_touched MX10_touched [vR 1, vI (sx S (a3 + 1)), vI (sx S (a3 + 2)), vI (sx S (a3 + 3)), vI (sx S (a3 + 4)), vI (sx S (a3 + 5)), vJ (jOr (jShl (sx S (a3 + 6)) 32) (jAnd (sx S (a3 + 7)) 4294967295))] [vR 53, vI (sx S (a3 + 1)), vI (sx S (a3 + 2)), vI (sx S (a3 + 3)), vI (sx S (a3 + 4)), vI (sx S (a3 + 5)), vJ (jOr (jShl (sx S (a3 + 6)) 32) (jAnd (sx S (a3 + 7)) 4294967295))] vJ S F G b) (nx : ∀ S2 F2 G2, SLike S S2 → Inv S2 F2 G2 b → Go d Mlaw 18 [some (vR 999999), some (vR 1), some (vR 53), some (vI (a3 + 8))] [] S2 F2 G2 Q) : V_law_1692 d S F G Q 1 53 a3 := by
  unfold V_law_1692
  refine ⟨by omega, by omega, by omega, by omega, by omega, by omega, by omega, by omega, by omega, by omega, by omega, by omega, by omega, by omega, by omega, by omega, by omega, by omega, by omega, by omega, by omega, by omega, hk9, ok_mono pb (fun w S1 F1 G1 hp => ?_)⟩
  obtain ⟨z, e, sl, shc, shm, hp2⟩ := hp
  have eL := sl.1
  refine ⟨z, e, by omega, by omega, by omega, by omega, by omega, by omega, by omega, by omega, by omega, by omega, by omega, by omega, by omega, by omega, by omega, by omega, by omega, by omega, by omega, by omega, by omega, shm_k shm 53 (by decide) (by decide), ?_⟩
  rw [sl.2]
  refine ok_mono hp2 (fun w2 S2 F2 G2 h2 => ⟨z, h2.1, fun _ => ?_, fun n => absurd rfl n⟩)
  unfold V_law_2110
  exact ⟨by omega, nx S2 F2 G2 h2.2.1 h2.2.2⟩
theorem law_c1584 {d : Nat} {S : AS} {F : AF} {G : AG} {Q : AQ} {b : Int} {a3 : Int} (hd : 1 ≤ d) (hk9 : sK S 1 = 9) (a0 : 0 ≤ a3) (a1 : a3 + 8 ≤ sL S) (a2 : sL S ≤ 4096) (pb : PrB (d - 1) MX9_findIn MX10_findIn [vR 1, vI (sx S (a3 + 1)), vI (sx S (a3 + 2)), vI (sx S (a3 + 3)), vI (sx S (a3 + 4)), vI (sx S (a3 + 5)), vJ (jOr (jShl (sx S (a3 + 6)) 32) (jAnd (sx S (a3 + 7)) 4294967295))] [vR 53, vI (sx S (a3 + 1)), vI (sx S (a3 + 2)), vI (sx S (a3 + 3)), vI (sx S (a3 + 4)), vI (sx S (a3 + 5)), vJ (jOr (jShl (sx S (a3 + 6)) 32) (jAnd (sx S (a3 + 7)) 4294967295))] vJ S F G b) (nx : ∀ S2 F2 G2, SLike S S2 → Inv S2 F2 G2 b → Go d Mlaw 18 [some (vR 999999), some (vR 1), some (vR 53), some (vI (a3 + 8))] [] S2 F2 G2 Q) : V_law_1584 d S F G Q 1 53 a3 := by
  unfold V_law_1584
  refine ⟨by omega, by omega, by omega, by omega, by omega, by omega, by omega, by omega, by omega, by omega, by omega, by omega, by omega, by omega, by omega, by omega, by omega, by omega, by omega, by omega, by omega, by omega, hk9, ok_mono pb (fun w S1 F1 G1 hp => ?_)⟩
  obtain ⟨z, e, sl, shc, shm, hp2⟩ := hp
  have eL := sl.1
  refine ⟨z, e, by omega, by omega, by omega, by omega, by omega, by omega, by omega, by omega, by omega, by omega, by omega, by omega, by omega, by omega, by omega, by omega, by omega, by omega, by omega, by omega, by omega, shm_k shm 53 (by decide) (by decide), ?_⟩
  rw [sl.2]
  refine ok_mono hp2 (fun w2 S2 F2 G2 h2 => ⟨z, h2.1, fun _ => ?_, fun n => absurd rfl n⟩)
  unfold V_law_2110
  exact ⟨by omega, nx S2 F2 G2 h2.2.1 h2.2.2⟩
theorem law_c1510 {d : Nat} {S : AS} {F : AF} {G : AG} {Q : AQ} {b : Int} {a3 : Int} (hd : 1 ≤ d) (hk9 : sK S 1 = 9) (a0 : 0 ≤ a3) (a1 : a3 + 8 ≤ sL S) (a2 : sL S ≤ 4096) (pb : PrB (d - 1) MX9_find MX10_find [vR 1, vI (sx S (a3 + 1)), vI (sx S (a3 + 2)), vJ (jOr (jShl (sx S (a3 + 3)) 32) (jAnd (sx S (a3 + 4)) 4294967295))] [vR 53, vI (sx S (a3 + 1)), vI (sx S (a3 + 2)), vJ (jOr (jShl (sx S (a3 + 3)) 32) (jAnd (sx S (a3 + 4)) 4294967295))] vJ S F G b) (nx : ∀ S2 F2 G2, SLike S S2 → Inv S2 F2 G2 b → Go d Mlaw 18 [some (vR 999999), some (vR 1), some (vR 53), some (vI (a3 + 8))] [] S2 F2 G2 Q) : V_law_1510 d S F G Q 1 53 a3 := by
  unfold V_law_1510
  refine ⟨by omega, by omega, by omega, by omega, by omega, by omega, by omega, by omega, by omega, by omega, by omega, by omega, by omega, hk9, ok_mono pb (fun w S1 F1 G1 hp => ?_)⟩
  obtain ⟨z, e, sl, shc, shm, hp2⟩ := hp
  have eL := sl.1
  refine ⟨z, e, by omega, by omega, by omega, by omega, by omega, by omega, by omega, by omega, by omega, by omega, by omega, by omega, shm_k shm 53 (by decide) (by decide), ?_⟩
  rw [sl.2]
  refine ok_mono hp2 (fun w2 S2 F2 G2 h2 => ⟨z, h2.1, fun _ => ?_, fun n => absurd rfl n⟩)
  unfold V_law_2110
  exact ⟨by omega, nx S2 F2 G2 h2.2.1 h2.2.2⟩
theorem law_c1434 {d : Nat} {S : AS} {F : AF} {G : AG} {Q : AQ} {b : Int} {a3 : Int} (hd : 1 ≤ d) (hk9 : sK S 1 = 9) (a0 : 0 ≤ a3) (a1 : a3 + 8 ≤ sL S) (a2 : sL S ≤ 4096) (pb : PrB (d - 1) MX9_before MX10_before [vR 1, vI (sx S (a3 + 1)), vI (sx S (a3 + 2)), vI (sx S (a3 + 3)), vI (sx S (a3 + 4)), vI (sx S (a3 + 5)), vI (sx S (a3 + 6))] [vR 53, vI (sx S (a3 + 1)), vI (sx S (a3 + 2)), vI (sx S (a3 + 3)), vI (sx S (a3 + 4)), vI (sx S (a3 + 5)), vI (sx S (a3 + 6))] vJ S F G b) (nx : ∀ S2 F2 G2, SLike S S2 → Inv S2 F2 G2 b → Go d Mlaw 18 [some (vR 999999), some (vR 1), some (vR 53), some (vI (a3 + 8))] [] S2 F2 G2 Q) : V_law_1434 d S F G Q 1 53 a3 := by
  unfold V_law_1434
  refine ⟨by omega, by omega, by omega, by omega, by omega, by omega, by omega, by omega, by omega, by omega, by omega, by omega, by omega, by omega, by omega, by omega, by omega, by omega, by omega, hk9, ok_mono pb (fun w S1 F1 G1 hp => ?_)⟩
  obtain ⟨z, e, sl, shc, shm, hp2⟩ := hp
  have eL := sl.1
  refine ⟨z, e, by omega, by omega, by omega, by omega, by omega, by omega, by omega, by omega, by omega, by omega, by omega, by omega, by omega, by omega, by omega, by omega, by omega, by omega, shm_k shm 53 (by decide) (by decide), ?_⟩
  rw [sl.2]
  refine ok_mono hp2 (fun w2 S2 F2 G2 h2 => ⟨z, h2.1, fun _ => ?_, fun n => absurd rfl n⟩)
  unfold V_law_2110
  exact ⟨by omega, nx S2 F2 G2 h2.2.1 h2.2.2⟩
theorem law_c1410 {d : Nat} {S : AS} {F : AF} {G : AG} {Q : AQ} {b : Int} {a3 : Int} (hd : 1 ≤ d) (hk9 : sK S 1 = 9) (a0 : 0 ≤ a3) (a1 : a3 + 8 ≤ sL S) (a2 : sL S ≤ 4096) (pb : PrB (d - 1) MX9_hole MX10_hole [vR 1, vI (sx S (a3 + 1))] [vR 53, vI (sx S (a3 + 1))] vJ S F G b) (nx : ∀ S2 F2 G2, SLike S S2 → Inv S2 F2 G2 b → Go d Mlaw 18 [some (vR 999999), some (vR 1), some (vR 53), some (vI (a3 + 8))] [] S2 F2 G2 Q) : V_law_1410 d S F G Q 1 53 a3 := by
  unfold V_law_1410
  refine ⟨by omega, by omega, by omega, by omega, hk9, ok_mono pb (fun w S1 F1 G1 hp => ?_)⟩
  obtain ⟨z, e, sl, shc, shm, hp2⟩ := hp
  have eL := sl.1
  refine ⟨z, e, by omega, by omega, by omega, shm_k shm 53 (by decide) (by decide), ?_⟩
  rw [sl.2]
  refine ok_mono hp2 (fun w2 S2 F2 G2 h2 => ⟨z, h2.1, fun _ => ?_, fun n => absurd rfl n⟩)
  unfold V_law_2110
  exact ⟨by omega, nx S2 F2 G2 h2.2.1 h2.2.2⟩
theorem law_c1302 {d : Nat} {S : AS} {F : AF} {G : AG} {Q : AQ} {b : Int} {a3 : Int} (hd : 1 ≤ d) (hk9 : sK S 1 = 9) (a0 : 0 ≤ a3) (a1 : a3 + 8 ≤ sL S) (a2 : sL S ≤ 4096) (pb : PrB (d - 1) MX9_value MX10_value [vR 1, vI (sx S (a3 + 1)), vI (sx S (a3 + 2)), vI (sx S (a3 + 3)), vI (sx S (a3 + 4)), vI (sx S (a3 + 5)), vJ (jOr (jShl (sx S (a3 + 6)) 32) (jAnd (sx S (a3 + 7)) 4294967295))] [vR 53, vI (sx S (a3 + 1)), vI (sx S (a3 + 2)), vI (sx S (a3 + 3)), vI (sx S (a3 + 4)), vI (sx S (a3 + 5)), vJ (jOr (jShl (sx S (a3 + 6)) 32) (jAnd (sx S (a3 + 7)) 4294967295))] vJ S F G b) (nx : ∀ S2 F2 G2, SLike S S2 → Inv S2 F2 G2 b → Go d Mlaw 18 [some (vR 999999), some (vR 1), some (vR 53), some (vI (a3 + 8))] [] S2 F2 G2 Q) : V_law_1302 d S F G Q 1 53 a3 := by
  unfold V_law_1302
  refine ⟨by omega, by omega, by omega, by omega, by omega, by omega, by omega, by omega, by omega, by omega, by omega, by omega, by omega, by omega, by omega, by omega, by omega, by omega, by omega, by omega, by omega, by omega, hk9, ok_mono pb (fun w S1 F1 G1 hp => ?_)⟩
  obtain ⟨z, e, sl, shc, shm, hp2⟩ := hp
  have eL := sl.1
  refine ⟨z, e, by omega, by omega, by omega, by omega, by omega, by omega, by omega, by omega, by omega, by omega, by omega, by omega, by omega, by omega, by omega, by omega, by omega, by omega, by omega, by omega, by omega, shm_k shm 53 (by decide) (by decide), ?_⟩
  rw [sl.2]
  refine ok_mono hp2 (fun w2 S2 F2 G2 h2 => ⟨z, h2.1, fun _ => ?_, fun n => absurd rfl n⟩)
  unfold V_law_2110
  exact ⟨by omega, nx S2 F2 G2 h2.2.1 h2.2.2⟩
theorem law_c1194 {d : Nat} {S : AS} {F : AF} {G : AG} {Q : AQ} {b : Int} {a3 : Int} (hd : 1 ≤ d) (hk9 : sK S 1 = 9) (a0 : 0 ≤ a3) (a1 : a3 + 8 ≤ sL S) (a2 : sL S ≤ 4096) (pb : PrB (d - 1) MX9_atLeast MX10_atLeast [vR 1, vI (sx S (a3 + 1)), vI (sx S (a3 + 2)), vI (sx S (a3 + 3)), vI (sx S (a3 + 4)), vI (sx S (a3 + 5)), vJ (jOr (jShl (sx S (a3 + 6)) 32) (jAnd (sx S (a3 + 7)) 4294967295))] [vR 53, vI (sx S (a3 + 1)), vI (sx S (a3 + 2)), vI (sx S (a3 + 3)), vI (sx S (a3 + 4)), vI (sx S (a3 + 5)), vJ (jOr (jShl (sx S (a3 + 6)) 32) (jAnd (sx S (a3 + 7)) 4294967295))] vJ S F G b) (nx : ∀ S2 F2 G2, SLike S S2 → Inv S2 F2 G2 b → Go d Mlaw 18 [some (vR 999999), some (vR 1), some (vR 53), some (vI (a3 + 8))] [] S2 F2 G2 Q) : V_law_1194 d S F G Q 1 53 a3 := by
  unfold V_law_1194
  refine ⟨by omega, by omega, by omega, by omega, by omega, by omega, by omega, by omega, by omega, by omega, by omega, by omega, by omega, by omega, by omega, by omega, by omega, by omega, by omega, by omega, by omega, by omega, hk9, ok_mono pb (fun w S1 F1 G1 hp => ?_)⟩
  obtain ⟨z, e, sl, shc, shm, hp2⟩ := hp
  have eL := sl.1
  refine ⟨z, e, by omega, by omega, by omega, by omega, by omega, by omega, by omega, by omega, by omega, by omega, by omega, by omega, by omega, by omega, by omega, by omega, by omega, by omega, by omega, by omega, by omega, shm_k shm 53 (by decide) (by decide), ?_⟩
  rw [sl.2]
  refine ok_mono hp2 (fun w2 S2 F2 G2 h2 => ⟨z, h2.1, fun _ => ?_, fun n => absurd rfl n⟩)
  unfold V_law_2110
  exact ⟨by omega, nx S2 F2 G2 h2.2.1 h2.2.2⟩
theorem law_c1118 {d : Nat} {S : AS} {F : AF} {G : AG} {Q : AQ} {b : Int} {a3 : Int} (hd : 1 ≤ d) (hk9 : sK S 1 = 9) (a0 : 0 ≤ a3) (a1 : a3 + 8 ≤ sL S) (a2 : sL S ≤ 4096) (pb : PrB (d - 1) MX9_share MX10_share [vR 1, vI (sx S (a3 + 1)), vI (sx S (a3 + 2)), vI (sx S (a3 + 3)), vI (sx S (a3 + 4)), vI (sx S (a3 + 5)), vI (sx S (a3 + 6))] [vR 53, vI (sx S (a3 + 1)), vI (sx S (a3 + 2)), vI (sx S (a3 + 3)), vI (sx S (a3 + 4)), vI (sx S (a3 + 5)), vI (sx S (a3 + 6))] vJ S F G b) (nx : ∀ S2 F2 G2, SLike S S2 → Inv S2 F2 G2 b → Go d Mlaw 18 [some (vR 999999), some (vR 1), some (vR 53), some (vI (a3 + 8))] [] S2 F2 G2 Q) : V_law_1118 d S F G Q 1 53 a3 := by
  unfold V_law_1118
  refine ⟨by omega, by omega, by omega, by omega, by omega, by omega, by omega, by omega, by omega, by omega, by omega, by omega, by omega, by omega, by omega, by omega, by omega, by omega, by omega, hk9, ok_mono pb (fun w S1 F1 G1 hp => ?_)⟩
  obtain ⟨z, e, sl, shc, shm, hp2⟩ := hp
  have eL := sl.1
  refine ⟨z, e, by omega, by omega, by omega, by omega, by omega, by omega, by omega, by omega, by omega, by omega, by omega, by omega, by omega, by omega, by omega, by omega, by omega, by omega, shm_k shm 53 (by decide) (by decide), ?_⟩
  rw [sl.2]
  refine ok_mono hp2 (fun w2 S2 F2 G2 h2 => ⟨z, h2.1, fun _ => ?_, fun n => absurd rfl n⟩)
  unfold V_law_2110
  exact ⟨by omega, nx S2 F2 G2 h2.2.1 h2.2.2⟩
theorem law_c1064 {d : Nat} {S : AS} {F : AF} {G : AG} {Q : AQ} {b : Int} {a3 : Int} (hd : 1 ≤ d) (hk9 : sK S 1 = 9) (a0 : 0 ≤ a3) (a1 : a3 + 8 ≤ sL S) (a2 : sL S ≤ 4096) (pb : PrB (d - 1) MX9_empty MX10_empty [vR 1, vI (sx S (a3 + 1)), vI (sx S (a3 + 2)), vI (sx S (a3 + 3)), vI (sx S (a3 + 4))] [vR 53, vI (sx S (a3 + 1)), vI (sx S (a3 + 2)), vI (sx S (a3 + 3)), vI (sx S (a3 + 4))] vJ S F G b) (nx : ∀ S2 F2 G2, SLike S S2 → Inv S2 F2 G2 b → Go d Mlaw 18 [some (vR 999999), some (vR 1), some (vR 53), some (vI (a3 + 8))] [] S2 F2 G2 Q) : V_law_1064 d S F G Q 1 53 a3 := by
  unfold V_law_1064
  refine ⟨by omega, by omega, by omega, by omega, by omega, by omega, by omega, by omega, by omega, by omega, by omega, by omega, by omega, hk9, ok_mono pb (fun w S1 F1 G1 hp => ?_)⟩
  obtain ⟨z, e, sl, shc, shm, hp2⟩ := hp
  have eL := sl.1
  refine ⟨z, e, by omega, by omega, by omega, by omega, by omega, by omega, by omega, by omega, by omega, by omega, by omega, by omega, shm_k shm 53 (by decide) (by decide), ?_⟩
  rw [sl.2]
  refine ok_mono hp2 (fun w2 S2 F2 G2 h2 => ⟨z, h2.1, fun _ => ?_, fun n => absurd rfl n⟩)
  unfold V_law_2110
  exact ⟨by omega, nx S2 F2 G2 h2.2.1 h2.2.2⟩
theorem law_c988 {d : Nat} {S : AS} {F : AF} {G : AG} {Q : AQ} {b : Int} {a3 : Int} (hd : 1 ≤ d) (hk9 : sK S 1 = 9) (a0 : 0 ≤ a3) (a1 : a3 + 8 ≤ sL S) (a2 : sL S ≤ 4096) (pb : PrB (d - 1) MX9_bound MX10_bound [vR 1, vI (sx S (a3 + 1)), vI (sx S (a3 + 2)), vI (sx S (a3 + 3)), vI (sx S (a3 + 4)), vI (sx S (a3 + 5)), vI (sx S (a3 + 6))] [vR 53, vI (sx S (a3 + 1)), vI (sx S (a3 + 2)), vI (sx S (a3 + 3)), vI (sx S (a3 + 4)), vI (sx S (a3 + 5)), vI (sx S (a3 + 6))] vJ S F G b) (nx : ∀ S2 F2 G2, SLike S S2 → Inv S2 F2 G2 b → Go d Mlaw 18 [some (vR 999999), some (vR 1), some (vR 53), some (vI (a3 + 8))] [] S2 F2 G2 Q) : V_law_988 d S F G Q 1 53 a3 := by
  unfold V_law_988
  refine ⟨by omega, by omega, by omega, by omega, by omega, by omega, by omega, by omega, by omega, by omega, by omega, by omega, by omega, by omega, by omega, by omega, by omega, by omega, by omega, hk9, ok_mono pb (fun w S1 F1 G1 hp => ?_)⟩
  obtain ⟨z, e, sl, shc, shm, hp2⟩ := hp
  have eL := sl.1
  refine ⟨z, e, by omega, by omega, by omega, by omega, by omega, by omega, by omega, by omega, by omega, by omega, by omega, by omega, by omega, by omega, by omega, by omega, by omega, by omega, shm_k shm 53 (by decide) (by decide), ?_⟩
  rw [sl.2]
  refine ok_mono hp2 (fun w2 S2 F2 G2 h2 => ⟨z, h2.1, fun _ => ?_, fun n => absurd rfl n⟩)
  unfold V_law_2110
  exact ⟨by omega, nx S2 F2 G2 h2.2.1 h2.2.2⟩
theorem law_c944 {d : Nat} {S : AS} {F : AF} {G : AG} {Q : AQ} {b : Int} {a3 : Int} (hd : 1 ≤ d) (hk9 : sK S 1 = 9) (a0 : 0 ≤ a3) (a1 : a3 + 8 ≤ sL S) (a2 : sL S ≤ 4096) (pb : PrB (d - 1) MX9_at MX10_at [vR 1, vI (sx S (a3 + 1)), vI (sx S (a3 + 2)), vI (sx S (a3 + 3))] [vR 53, vI (sx S (a3 + 1)), vI (sx S (a3 + 2)), vI (sx S (a3 + 3))] vJ S F G b) (nx : ∀ S2 F2 G2, SLike S S2 → Inv S2 F2 G2 b → Go d Mlaw 18 [some (vR 999999), some (vR 1), some (vR 53), some (vI (a3 + 8))] [] S2 F2 G2 Q) : V_law_944 d S F G Q 1 53 a3 := by
  unfold V_law_944
  refine ⟨by omega, by omega, by omega, by omega, by omega, by omega, by omega, by omega, by omega, by omega, hk9, ok_mono pb (fun w S1 F1 G1 hp => ?_)⟩
  obtain ⟨z, e, sl, shc, shm, hp2⟩ := hp
  have eL := sl.1
  refine ⟨z, e, by omega, by omega, by omega, by omega, by omega, by omega, by omega, by omega, by omega, shm_k shm 53 (by decide) (by decide), ?_⟩
  rw [sl.2]
  refine ok_mono hp2 (fun w2 S2 F2 G2 h2 => ⟨z, h2.1, fun _ => ?_, fun n => absurd rfl n⟩)
  unfold V_law_2110
  exact ⟨by omega, nx S2 F2 G2 h2.2.1 h2.2.2⟩
theorem law_c880 {d : Nat} {S : AS} {F : AF} {G : AG} {Q : AQ} {b : Int} {a3 : Int} (hd : 1 ≤ d) (hk9 : sK S 1 = 9) (a0 : 0 ≤ a3) (a1 : a3 + 8 ≤ sL S) (a2 : sL S ≤ 4096) (pb : PrB (d - 1) MX9_sum MX10_sum [vR 1, vI (sx S (a3 + 1)), vI (sx S (a3 + 2)), vI (sx S (a3 + 3)), vI (sx S (a3 + 4)), vI (sx S (a3 + 5))] [vR 53, vI (sx S (a3 + 1)), vI (sx S (a3 + 2)), vI (sx S (a3 + 3)), vI (sx S (a3 + 4)), vI (sx S (a3 + 5))] vJ S F G b) (nx : ∀ S2 F2 G2, SLike S S2 → Inv S2 F2 G2 b → Go d Mlaw 18 [some (vR 999999), some (vR 1), some (vR 53), some (vI (a3 + 8))] [] S2 F2 G2 Q) : V_law_880 d S F G Q 1 53 a3 := by
  unfold V_law_880
  refine ⟨by omega, by omega, by omega, by omega, by omega, by omega, by omega, by omega, by omega, by omega, by omega, by omega, by omega, by omega, by omega, by omega, hk9, ok_mono pb (fun w S1 F1 G1 hp => ?_)⟩
  obtain ⟨z, e, sl, shc, shm, hp2⟩ := hp
  have eL := sl.1
  refine ⟨z, e, by omega, by omega, by omega, by omega, by omega, by omega, by omega, by omega, by omega, by omega, by omega, by omega, by omega, by omega, by omega, shm_k shm 53 (by decide) (by decide), ?_⟩
  rw [sl.2]
  refine ok_mono hp2 (fun w2 S2 F2 G2 h2 => ⟨z, h2.1, fun _ => ?_, fun n => absurd rfl n⟩)
  unfold V_law_2110
  exact ⟨by omega, nx S2 F2 G2 h2.2.1 h2.2.2⟩
theorem law_c857 {d : Nat} {S : AS} {F : AF} {G : AG} {Q : AQ} {b : Int} {a3 : Int} (hd : 1 ≤ d) (hk9 : sK S 1 = 9) (a0 : 0 ≤ a3) (a1 : a3 + 8 ≤ sL S) (a2 : sL S ≤ 4096) (pb : PrB (d - 1) MX9_fault MX10_fault [vR 1, vI (sx S (a3 + 1))] [vR 53, vI (sx S (a3 + 1))] vI S F G b) (nx : ∀ S2 F2 G2, SLike S S2 → Inv S2 F2 G2 b → Go d Mlaw 18 [some (vR 999999), some (vR 1), some (vR 53), some (vI (a3 + 8))] [] S2 F2 G2 Q) : V_law_857 d S F G Q 1 53 a3 := by
  unfold V_law_857
  refine ⟨by omega, by omega, by omega, by omega, hk9, ok_mono pb (fun w S1 F1 G1 hp => ?_)⟩
  obtain ⟨z, e, sl, shc, shm, hp2⟩ := hp
  have eL := sl.1
  refine ⟨z, e, by omega, by omega, by omega, shm_k shm 53 (by decide) (by decide), ?_⟩
  rw [sl.2]
  refine ok_mono hp2 (fun w2 S2 F2 G2 h2 => ⟨z, h2.1, fun _ => ?_, fun n => absurd rfl n⟩)
  unfold V_law_2110
  exact ⟨by omega, nx S2 F2 G2 h2.2.1 h2.2.2⟩
theorem law_c834 {d : Nat} {S : AS} {F : AF} {G : AG} {Q : AQ} {b : Int} {a3 : Int} (hd : 1 ≤ d) (hk9 : sK S 1 = 9) (a0 : 0 ≤ a3) (a1 : a3 + 8 ≤ sL S) (a2 : sL S ≤ 4096) (pb : PrB (d - 1) MX9_run MX10_run [vR 1, vI (sx S (a3 + 1))] [vR 53, vI (sx S (a3 + 1))] vI S F G b) (nx : ∀ S2 F2 G2, SLike S S2 → Inv S2 F2 G2 b → Go d Mlaw 18 [some (vR 999999), some (vR 1), some (vR 53), some (vI (a3 + 8))] [] S2 F2 G2 Q) : V_law_834 d S F G Q 1 53 a3 := by
  unfold V_law_834
  refine ⟨by omega, by omega, by omega, by omega, hk9, ok_mono pb (fun w S1 F1 G1 hp => ?_)⟩
  obtain ⟨z, e, sl, shc, shm, hp2⟩ := hp
  have eL := sl.1
  refine ⟨z, e, by omega, by omega, by omega, shm_k shm 53 (by decide) (by decide), ?_⟩
  rw [sl.2]
  refine ok_mono hp2 (fun w2 S2 F2 G2 h2 => ⟨z, h2.1, fun _ => ?_, fun n => absurd rfl n⟩)
  unfold V_law_2110
  exact ⟨by omega, nx S2 F2 G2 h2.2.1 h2.2.2⟩
theorem law_c771 {d : Nat} {S : AS} {F : AF} {G : AG} {Q : AQ} {b : Int} {a3 : Int} (hd : 1 ≤ d) (hk9 : sK S 1 = 9) (a0 : 0 ≤ a3) (a1 : a3 + 8 ≤ sL S) (a2 : sL S ≤ 4096) (pb : PrB (d - 1) MX9_feed MX10_feed [vR 1, vI (sx S (a3 + 1)), vI (sx S (a3 + 2)), vI (sx S (a3 + 3)), vI (sx S (a3 + 4)), vI (sx S (a3 + 5))] [vR 53, vI (sx S (a3 + 1)), vI (sx S (a3 + 2)), vI (sx S (a3 + 3)), vI (sx S (a3 + 4)), vI (sx S (a3 + 5))] vI S F G b) (nx : ∀ S2 F2 G2, SLike S S2 → Inv S2 F2 G2 b → Go d Mlaw 18 [some (vR 999999), some (vR 1), some (vR 53), some (vI (a3 + 8))] [] S2 F2 G2 Q) : V_law_771 d S F G Q 1 53 a3 := by
  unfold V_law_771
  refine ⟨by omega, by omega, by omega, by omega, by omega, by omega, by omega, by omega, by omega, by omega, by omega, by omega, by omega, by omega, by omega, by omega, hk9, ok_mono pb (fun w S1 F1 G1 hp => ?_)⟩
  obtain ⟨z, e, sl, shc, shm, hp2⟩ := hp
  have eL := sl.1
  refine ⟨z, e, by omega, by omega, by omega, by omega, by omega, by omega, by omega, by omega, by omega, by omega, by omega, by omega, by omega, by omega, by omega, shm_k shm 53 (by decide) (by decide), ?_⟩
  rw [sl.2]
  refine ok_mono hp2 (fun w2 S2 F2 G2 h2 => ⟨z, h2.1, fun _ => ?_, fun n => absurd rfl n⟩)
  unfold V_law_2110
  exact ⟨by omega, nx S2 F2 G2 h2.2.1 h2.2.2⟩
theorem law_c758 {d : Nat} {S : AS} {F : AF} {G : AG} {Q : AQ} {b : Int} {a3 : Int} (hd : 1 ≤ d) (hk9 : sK S 1 = 9) (a0 : 0 ≤ a3) (a1 : a3 + 8 ≤ sL S) (a2 : sL S ≤ 4096) (pb : PrB (d - 1) MX9_cancel MX10_cancel [vR 1] [vR 53] vI S F G b) (nx : ∀ S2 F2 G2, SLike S S2 → Inv S2 F2 G2 b → Go d Mlaw 18 [some (vR 999999), some (vR 1), some (vR 53), some (vI (a3 + 8))] [] S2 F2 G2 Q) : V_law_758 d S F G Q 1 53 a3 := by
  unfold V_law_758
  refine ⟨by omega, hk9, ok_mono pb (fun w S1 F1 G1 hp => ?_)⟩
  obtain ⟨z, e, sl, shc, shm, hp2⟩ := hp
  have eL := sl.1
  refine ⟨z, e, shm_k shm 53 (by decide) (by decide), ?_⟩
  refine ok_mono hp2 (fun w2 S2 F2 G2 h2 => ⟨z, h2.1, fun _ => ?_, fun n => absurd rfl n⟩)
  unfold V_law_2110
  exact ⟨by omega, nx S2 F2 G2 h2.2.1 h2.2.2⟩
theorem law_c745 {d : Nat} {S : AS} {F : AF} {G : AG} {Q : AQ} {b : Int} {a3 : Int} (hd : 1 ≤ d) (hk9 : sK S 1 = 9) (a0 : 0 ≤ a3) (a1 : a3 + 8 ≤ sL S) (a2 : sL S ≤ 4096) (pb : PrB (d - 1) MX9_commit MX10_commit [vR 1] [vR 53] vI S F G b) (nx : ∀ S2 F2 G2, SLike S S2 → Inv S2 F2 G2 b → Go d Mlaw 18 [some (vR 999999), some (vR 1), some (vR 53), some (vI (a3 + 8))] [] S2 F2 G2 Q) : V_law_745 d S F G Q 1 53 a3 := by
  unfold V_law_745
  refine ⟨by omega, hk9, ok_mono pb (fun w S1 F1 G1 hp => ?_)⟩
  obtain ⟨z, e, sl, shc, shm, hp2⟩ := hp
  have eL := sl.1
  refine ⟨z, e, shm_k shm 53 (by decide) (by decide), ?_⟩
  refine ok_mono hp2 (fun w2 S2 F2 G2 h2 => ⟨z, h2.1, fun _ => ?_, fun n => absurd rfl n⟩)
  unfold V_law_2110
  exact ⟨by omega, nx S2 F2 G2 h2.2.1 h2.2.2⟩
theorem law_c732 {d : Nat} {S : AS} {F : AF} {G : AG} {Q : AQ} {b : Int} {a3 : Int} (hd : 1 ≤ d) (hk9 : sK S 1 = 9) (a0 : 0 ≤ a3) (a1 : a3 + 8 ≤ sL S) (a2 : sL S ≤ 4096) (pb : PrB (d - 1) MX9_begin MX10_begin [vR 1] [vR 53] vI S F G b) (nx : ∀ S2 F2 G2, SLike S S2 → Inv S2 F2 G2 b → Go d Mlaw 18 [some (vR 999999), some (vR 1), some (vR 53), some (vI (a3 + 8))] [] S2 F2 G2 Q) : V_law_732 d S F G Q 1 53 a3 := by
  unfold V_law_732
  refine ⟨by omega, hk9, ok_mono pb (fun w S1 F1 G1 hp => ?_)⟩
  obtain ⟨z, e, sl, shc, shm, hp2⟩ := hp
  have eL := sl.1
  refine ⟨z, e, shm_k shm 53 (by decide) (by decide), ?_⟩
  refine ok_mono hp2 (fun w2 S2 F2 G2 h2 => ⟨z, h2.1, fun _ => ?_, fun n => absurd rfl n⟩)
  unfold V_law_2110
  exact ⟨by omega, nx S2 F2 G2 h2.2.1 h2.2.2⟩
theorem law_c698 {d : Nat} {S : AS} {F : AF} {G : AG} {Q : AQ} {b : Int} {a3 : Int} (hd : 1 ≤ d) (hk9 : sK S 1 = 9) (a0 : 0 ≤ a3) (a1 : a3 + 8 ≤ sL S) (a2 : sL S ≤ 4096) (pb : PrB (d - 1) MX9_zoneAt MX10_zoneAt [vR 1, vI (sx S (a3 + 1)), vI (sx S (a3 + 2))] [vR 53, vI (sx S (a3 + 1)), vI (sx S (a3 + 2))] vJ S F G b) (nx : ∀ S2 F2 G2, SLike S S2 → Inv S2 F2 G2 b → Go d Mlaw 18 [some (vR 999999), some (vR 1), some (vR 53), some (vI (a3 + 8))] [] S2 F2 G2 Q) : V_law_698 d S F G Q 1 53 a3 := by
  unfold V_law_698
  refine ⟨by omega, by omega, by omega, by omega, by omega, by omega, by omega, hk9, ok_mono pb (fun w S1 F1 G1 hp => ?_)⟩
  obtain ⟨z, e, sl, shc, shm, hp2⟩ := hp
  have eL := sl.1
  refine ⟨z, e, by omega, by omega, by omega, by omega, by omega, by omega, shm_k shm 53 (by decide) (by decide), ?_⟩
  rw [sl.2]
  refine ok_mono hp2 (fun w2 S2 F2 G2 h2 => ⟨z, h2.1, fun _ => ?_, fun n => absurd rfl n⟩)
  unfold V_law_2110
  exact ⟨by omega, nx S2 F2 G2 h2.2.1 h2.2.2⟩
theorem law_c590 {d : Nat} {S : AS} {F : AF} {G : AG} {Q : AQ} {b : Int} {a3 : Int} (hd : 1 ≤ d) (hk9 : sK S 1 = 9) (a0 : 0 ≤ a3) (a1 : a3 + 8 ≤ sL S) (a2 : sL S ≤ 4096) (pb : PrB (d - 1) MX9_zone MX10_zone [vR 1, vI (sx S (a3 + 1)), vI (sx S (a3 + 2)), vI (sx S (a3 + 3)), vI (sx S (a3 + 4)), vI (sx S (a3 + 5)), vJ (jOr (jShl (sx S (a3 + 6)) 32) (jAnd (sx S (a3 + 7)) 4294967295))] [vR 53, vI (sx S (a3 + 1)), vI (sx S (a3 + 2)), vI (sx S (a3 + 3)), vI (sx S (a3 + 4)), vI (sx S (a3 + 5)), vJ (jOr (jShl (sx S (a3 + 6)) 32) (jAnd (sx S (a3 + 7)) 4294967295))] vJ S F G b) (nx : ∀ S2 F2 G2, SLike S S2 → Inv S2 F2 G2 b → Go d Mlaw 18 [some (vR 999999), some (vR 1), some (vR 53), some (vI (a3 + 8))] [] S2 F2 G2 Q) : V_law_590 d S F G Q 1 53 a3 := by
  unfold V_law_590
  refine ⟨by omega, by omega, by omega, by omega, by omega, by omega, by omega, by omega, by omega, by omega, by omega, by omega, by omega, by omega, by omega, by omega, by omega, by omega, by omega, by omega, by omega, by omega, hk9, ok_mono pb (fun w S1 F1 G1 hp => ?_)⟩
  obtain ⟨z, e, sl, shc, shm, hp2⟩ := hp
  have eL := sl.1
  refine ⟨z, e, by omega, by omega, by omega, by omega, by omega, by omega, by omega, by omega, by omega, by omega, by omega, by omega, by omega, by omega, by omega, by omega, by omega, by omega, by omega, by omega, by omega, shm_k shm 53 (by decide) (by decide), ?_⟩
  rw [sl.2]
  refine ok_mono hp2 (fun w2 S2 F2 G2 h2 => ⟨z, h2.1, fun _ => ?_, fun n => absurd rfl n⟩)
  unfold V_law_2110
  exact ⟨by omega, nx S2 F2 G2 h2.2.1 h2.2.2⟩
theorem law_c526 {d : Nat} {S : AS} {F : AF} {G : AG} {Q : AQ} {b : Int} {a3 : Int} (hd : 1 ≤ d) (hk9 : sK S 1 = 9) (a0 : 0 ≤ a3) (a1 : a3 + 8 ≤ sL S) (a2 : sL S ≤ 4096) (pb : PrB (d - 1) MX9_level MX10_level [vR 1, vI (sx S (a3 + 1)), vI (sx S (a3 + 2)), vI (sx S (a3 + 3)), vI (sx S (a3 + 4)), vI (sx S (a3 + 5))] [vR 53, vI (sx S (a3 + 1)), vI (sx S (a3 + 2)), vI (sx S (a3 + 3)), vI (sx S (a3 + 4)), vI (sx S (a3 + 5))] vJ S F G b) (nx : ∀ S2 F2 G2, SLike S S2 → Inv S2 F2 G2 b → Go d Mlaw 18 [some (vR 999999), some (vR 1), some (vR 53), some (vI (a3 + 8))] [] S2 F2 G2 Q) : V_law_526 d S F G Q 1 53 a3 := by
  unfold V_law_526
  refine ⟨by omega, by omega, by omega, by omega, by omega, by omega, by omega, by omega, by omega, by omega, by omega, by omega, by omega, by omega, by omega, by omega, hk9, ok_mono pb (fun w S1 F1 G1 hp => ?_)⟩
  obtain ⟨z, e, sl, shc, shm, hp2⟩ := hp
  have eL := sl.1
  refine ⟨z, e, by omega, by omega, by omega, by omega, by omega, by omega, by omega, by omega, by omega, by omega, by omega, by omega, by omega, by omega, by omega, shm_k shm 53 (by decide) (by decide), ?_⟩
  rw [sl.2]
  refine ok_mono hp2 (fun w2 S2 F2 G2 h2 => ⟨z, h2.1, fun _ => ?_, fun n => absurd rfl n⟩)
  unfold V_law_2110
  exact ⟨by omega, nx S2 F2 G2 h2.2.1 h2.2.2⟩
theorem law_c438 {d : Nat} {S : AS} {F : AF} {G : AG} {Q : AQ} {b : Int} {a3 : Int} (hd : 1 ≤ d) (hk9 : sK S 1 = 9) (a0 : 0 ≤ a3) (a1 : a3 + 8 ≤ sL S) (a2 : sL S ≤ 4096) (pb : PrB (d - 1) MX9_move MX10_move [vR 1, vI (sx S (a3 + 1)), vI (sx S (a3 + 2)), vI (sx S (a3 + 3)), vI (sx S (a3 + 4)), vI (sx S (a3 + 5)), vI (sx S (a3 + 6)), vI (sx S (a3 + 7))] [vR 53, vI (sx S (a3 + 1)), vI (sx S (a3 + 2)), vI (sx S (a3 + 3)), vI (sx S (a3 + 4)), vI (sx S (a3 + 5)), vI (sx S (a3 + 6)), vI (sx S (a3 + 7))] vJ S F G b) (nx : ∀ S2 F2 G2, SLike S S2 → Inv S2 F2 G2 b → Go d Mlaw 18 [some (vR 999999), some (vR 1), some (vR 53), some (vI (a3 + 8))] [] S2 F2 G2 Q) : V_law_438 d S F G Q 1 53 a3 := by
  unfold V_law_438
  refine ⟨by omega, by omega, by omega, by omega, by omega, by omega, by omega, by omega, by omega, by omega, by omega, by omega, by omega, by omega, by omega, by omega, by omega, by omega, by omega, by omega, by omega, by omega, hk9, ok_mono pb (fun w S1 F1 G1 hp => ?_)⟩
  obtain ⟨z, e, sl, shc, shm, hp2⟩ := hp
  have eL := sl.1
  refine ⟨z, e, by omega, by omega, by omega, by omega, by omega, by omega, by omega, by omega, by omega, by omega, by omega, by omega, by omega, by omega, by omega, by omega, by omega, by omega, by omega, by omega, by omega, shm_k shm 53 (by decide) (by decide), ?_⟩
  rw [sl.2]
  refine ok_mono hp2 (fun w2 S2 F2 G2 h2 => ⟨z, h2.1, fun _ => ?_, fun n => absurd rfl n⟩)
  unfold V_law_2110
  exact ⟨by omega, nx S2 F2 G2 h2.2.1 h2.2.2⟩
theorem law_c330 {d : Nat} {S : AS} {F : AF} {G : AG} {Q : AQ} {b : Int} {a3 : Int} (hd : 1 ≤ d) (hk9 : sK S 1 = 9) (a0 : 0 ≤ a3) (a1 : a3 + 8 ≤ sL S) (a2 : sL S ≤ 4096) (pb : PrB (d - 1) MX9_pick MX10_pick [vR 1, vI (sx S (a3 + 1)), vI (sx S (a3 + 2)), vI (sx S (a3 + 3)), vI (sx S (a3 + 4)), vI (sx S (a3 + 5)), vJ (jOr (jShl (sx S (a3 + 6)) 32) (jAnd (sx S (a3 + 7)) 4294967295))] [vR 53, vI (sx S (a3 + 1)), vI (sx S (a3 + 2)), vI (sx S (a3 + 3)), vI (sx S (a3 + 4)), vI (sx S (a3 + 5)), vJ (jOr (jShl (sx S (a3 + 6)) 32) (jAnd (sx S (a3 + 7)) 4294967295))] vJ S F G b) (nx : ∀ S2 F2 G2, SLike S S2 → Inv S2 F2 G2 b → Go d Mlaw 18 [some (vR 999999), some (vR 1), some (vR 53), some (vI (a3 + 8))] [] S2 F2 G2 Q) : V_law_330 d S F G Q 1 53 a3 := by
  unfold V_law_330
  refine ⟨by omega, by omega, by omega, by omega, by omega, by omega, by omega, by omega, by omega, by omega, by omega, by omega, by omega, by omega, by omega, by omega, by omega, by omega, by omega, by omega, by omega, by omega, hk9, ok_mono pb (fun w S1 F1 G1 hp => ?_)⟩
  obtain ⟨z, e, sl, shc, shm, hp2⟩ := hp
  have eL := sl.1
  refine ⟨z, e, by omega, by omega, by omega, by omega, by omega, by omega, by omega, by omega, by omega, by omega, by omega, by omega, by omega, by omega, by omega, by omega, by omega, by omega, by omega, by omega, by omega, shm_k shm 53 (by decide) (by decide), ?_⟩
  rw [sl.2]
  refine ok_mono hp2 (fun w2 S2 F2 G2 h2 => ⟨z, h2.1, fun _ => ?_, fun n => absurd rfl n⟩)
  unfold V_law_2110
  exact ⟨by omega, nx S2 F2 G2 h2.2.1 h2.2.2⟩
theorem law_c254 {d : Nat} {S : AS} {F : AF} {G : AG} {Q : AQ} {b : Int} {a3 : Int} (hd : 1 ≤ d) (hk9 : sK S 1 = 9) (a0 : 0 ≤ a3) (a1 : a3 + 8 ≤ sL S) (a2 : sL S ≤ 4096) (pb : PrB (d - 1) MX9_add MX10_add [vR 1, vI (sx S (a3 + 1)), vI (sx S (a3 + 2)), vI (sx S (a3 + 3)), vI (sx S (a3 + 4)), vI (sx S (a3 + 5)), vI (sx S (a3 + 6))] [vR 53, vI (sx S (a3 + 1)), vI (sx S (a3 + 2)), vI (sx S (a3 + 3)), vI (sx S (a3 + 4)), vI (sx S (a3 + 5)), vI (sx S (a3 + 6))] vJ S F G b) (nx : ∀ S2 F2 G2, SLike S S2 → Inv S2 F2 G2 b → Go d Mlaw 18 [some (vR 999999), some (vR 1), some (vR 53), some (vI (a3 + 8))] [] S2 F2 G2 Q) : V_law_254 d S F G Q 1 53 a3 := by
  unfold V_law_254
  refine ⟨by omega, by omega, by omega, by omega, by omega, by omega, by omega, by omega, by omega, by omega, by omega, by omega, by omega, by omega, by omega, by omega, by omega, by omega, by omega, hk9, ok_mono pb (fun w S1 F1 G1 hp => ?_)⟩
  obtain ⟨z, e, sl, shc, shm, hp2⟩ := hp
  have eL := sl.1
  refine ⟨z, e, by omega, by omega, by omega, by omega, by omega, by omega, by omega, by omega, by omega, by omega, by omega, by omega, by omega, by omega, by omega, by omega, by omega, by omega, shm_k shm 53 (by decide) (by decide), ?_⟩
  rw [sl.2]
  refine ok_mono hp2 (fun w2 S2 F2 G2 h2 => ⟨z, h2.1, fun _ => ?_, fun n => absurd rfl n⟩)
  unfold V_law_2110
  exact ⟨by omega, nx S2 F2 G2 h2.2.1 h2.2.2⟩
theorem law_c180 {d : Nat} {S : AS} {F : AF} {G : AG} {Q : AQ} {b : Int} {a3 : Int} (hd : 1 ≤ d) (hk9 : sK S 1 = 9) (a0 : 0 ≤ a3) (a1 : a3 + 8 ≤ sL S) (a2 : sL S ≤ 4096) (pb : PrB (d - 1) MX9_world MX10_world [vR 1, vI (sx S (a3 + 1)), vI (sx S (a3 + 2)), vJ (jOr (jShl (sx S (a3 + 3)) 32) (jAnd (sx S (a3 + 4)) 4294967295))] [vR 53, vI (sx S (a3 + 1)), vI (sx S (a3 + 2)), vJ (jOr (jShl (sx S (a3 + 3)) 32) (jAnd (sx S (a3 + 4)) 4294967295))] vJ S F G b) (nx : ∀ S2 F2 G2, SLike S S2 → Inv S2 F2 G2 b → Go d Mlaw 18 [some (vR 999999), some (vR 1), some (vR 53), some (vI (a3 + 8))] [] S2 F2 G2 Q) : V_law_180 d S F G Q 1 53 a3 := by
  unfold V_law_180
  refine ⟨by omega, by omega, by omega, by omega, by omega, by omega, by omega, by omega, by omega, by omega, by omega, by omega, by omega, hk9, ok_mono pb (fun w S1 F1 G1 hp => ?_)⟩
  obtain ⟨z, e, sl, shc, shm, hp2⟩ := hp
  have eL := sl.1
  refine ⟨z, e, by omega, by omega, by omega, by omega, by omega, by omega, by omega, by omega, by omega, by omega, by omega, by omega, shm_k shm 53 (by decide) (by decide), ?_⟩
  rw [sl.2]
  refine ok_mono hp2 (fun w2 S2 F2 G2 h2 => ⟨z, h2.1, fun _ => ?_, fun n => absurd rfl n⟩)
  unfold V_law_2110
  exact ⟨by omega, nx S2 F2 G2 h2.2.1 h2.2.2⟩
theorem law_loop {d : Nat} {S0 : AS} {F0' : AF} {G0 : AG} {Q : AQ} (hd : 131 ≤ d) (hL : sL S0 ≤ 4096) (h0 : Inv S0 F0' G0 0) (hq : ∀ S F G b, Inv S F G b → Q (some (vI 1)) S F G) : Go d Mlaw 18 [some (vR 999999), some (vR 1), some (vR 53), some (vI 0)] [] S0 F0' G0 Q := by
  have hd1 : 1 ≤ d := by omega
  have st := up_ind (α := AS × AF × AG) 512 (fun k s => 0 ≤ k ∧ 8 * k ≤ sL S0 ∧ SLike S0 s.1 ∧ Inv s.1 s.2.1 s.2.2 (31 * k)) (fun k s => Go d Mlaw 18 [some (vR 999999), some (vR 1), some (vR 53), some (vI (8 * k))] [] s.1 s.2.1 s.2.2 Q) ?_ (fun k s h hk => by have := h.2.1; omega) 0 (S0, F0', G0) ⟨by omega, by omega, ⟨rfl, rfl⟩, h0⟩
  · exact st
  rintro k ⟨S, F, G⟩ ⟨k0, k1, sl, h⟩ hk ih
  dsimp only at sl h ih ⊢
  have eL := sl.1
  have hk9 : sK S 1 = 9 := shc_k (inv_shc h) 1 (by decide) (by decide)
  refine R_law_18 ?_
  unfold V_law_18
  refine ⟨by omega, fun _ => hq S F G _ h, fun y => ?_⟩
  have a1 : 8 * k + 8 ≤ sL S := by omega
  have a2 : sL S ≤ 4096 := by omega
  have nx : ∀ b : Int, b ≤ 31 * k + 31 → ∀ S2 F2 G2, SLike S S2 → Inv S2 F2 G2 b → Go d Mlaw 18 [some (vR 999999), some (vR 1), some (vR 53), some (vI (8 * k + 8))] [] S2 F2 G2 Q := by
    intro b hb S2 F2 G2 sl2 h2
    have := ih (S2, F2, G2) ⟨by omega, by omega, ⟨sl2.1.trans sl.1, sl2.2.trans sl.2⟩, inv_up h2 (by omega)⟩
    rw [show 8 * (k + 1) = 8 * k + 8 by omega] at this
    exact this
  refine ⟨by omega,
    by omega,
    fun _ => law_c180 hd1 hk9 (by omega) a1 a2 (prb_world (by omega) h (sx S (8 * k + 1)) (sx S (8 * k + 2)) (jOr (jShl (sx S (8 * k + 3)) 32) (jAnd (sx S (8 * k + 4)) 4294967295))) (nx _ (by omega)),
    fun _ => law_c254 hd1 hk9 (by omega) a1 a2 (prb_add (by omega) h (by omega) (sx S (8 * k + 1)) (sx S (8 * k + 2)) (sx S (8 * k + 3)) (sx S (8 * k + 4)) (sx S (8 * k + 5)) (sx S (8 * k + 6))) (nx _ (by omega)),
    fun _ => law_c330 hd1 hk9 (by omega) a1 a2 (prb_pick (by omega) h (by omega) (zj_r _) (sx S (8 * k + 1)) (sx S (8 * k + 2)) (sx S (8 * k + 3)) (sx S (8 * k + 4)) (sx S (8 * k + 5))) (nx _ (by omega)),
    fun _ => law_c438 hd1 hk9 (by omega) a1 a2 (prb_move (by omega) h (by omega) (sx S (8 * k + 1)) (sx S (8 * k + 2)) (sx S (8 * k + 3)) (sx S (8 * k + 4)) (sx S (8 * k + 5)) (sx S (8 * k + 6)) (sx S (8 * k + 7))) (nx _ (by omega)),
    fun _ => law_c526 hd1 hk9 (by omega) a1 a2 (prb_level (by omega) h (by omega) (sx S (8 * k + 1)) (sx S (8 * k + 2)) (sx S (8 * k + 3)) (sx S (8 * k + 4)) (sx S (8 * k + 5))) (nx _ (by omega)),
    fun _ => law_c590 hd1 hk9 (by omega) a1 a2 (prb_zone (by omega) h (sx S (8 * k + 1)) (sx S (8 * k + 2)) (sx S (8 * k + 3)) (sx S (8 * k + 4)) (sx S (8 * k + 5)) (jOr (jShl (sx S (8 * k + 6)) 32) (jAnd (sx S (8 * k + 7)) 4294967295))) (nx _ (by omega)),
    fun _ => law_c698 hd1 hk9 (by omega) a1 a2 (pr_prb (pr_zoneAt (by omega) h (sx S (8 * k + 1)) (sx S (8 * k + 2)))) (nx _ (by omega)),
    fun _ => law_c732 hd1 hk9 (by omega) a1 a2 (prb_begin (by omega) h ) (nx _ (by omega)),
    fun _ => law_c745 hd1 hk9 (by omega) a1 a2 (prb_commit (by omega) h (by omega) ) (nx _ (by omega)),
    fun _ => law_c758 hd1 hk9 (by omega) a1 a2 (prb_cancel (by omega) h (by omega) ) (nx _ (by omega)),
    fun _ => law_c771 hd1 hk9 (by omega) a1 a2 (prb_feed (by omega) h (sx S (8 * k + 1)) (sx S (8 * k + 2)) (sx S (8 * k + 3)) (sx S (8 * k + 4)) (sx S (8 * k + 5))) (nx _ (by omega)),
    fun _ => law_c834 hd1 hk9 (by omega) a1 a2 (prb_run (by omega) (fun S hs => kws hs) (fun S hs => kwm hs) h (by omega) (sx S (8 * k + 1))) (nx _ (by omega)),
    fun _ => law_c857 hd1 hk9 (by omega) a1 a2 (pr_prb (pr_fault h (sx S (8 * k + 1)))) (nx _ (by omega)),
    fun _ => law_c880 hd1 hk9 (by omega) a1 a2 (pr_prb (pr_sum (by omega) h (sx S (8 * k + 1)) (sx S (8 * k + 2)) (sx S (8 * k + 3)) (sx S (8 * k + 4)) (sx S (8 * k + 5)))) (nx _ (by omega)),
    fun _ => law_c944 hd1 hk9 (by omega) a1 a2 (pr_prb (pr_at (by omega) h (sx S (8 * k + 1)) (sx S (8 * k + 2)) (sx S (8 * k + 3)))) (nx _ (by omega)),
    fun _ => law_c988 hd1 hk9 (by omega) a1 a2 (pr_prb (pr_bound (by omega) h (sx S (8 * k + 1)) (sx S (8 * k + 2)) (sx S (8 * k + 3)) (sx S (8 * k + 4)) (sx S (8 * k + 5)) (sx S (8 * k + 6)))) (nx _ (by omega)),
    fun _ => law_c1064 hd1 hk9 (by omega) a1 a2 (pr_prb (pr_empty (by omega) h (sx S (8 * k + 1)) (sx S (8 * k + 2)) (sx S (8 * k + 3)) (sx S (8 * k + 4)))) (nx _ (by omega)),
    fun _ => law_c1118 hd1 hk9 (by omega) a1 a2 (pr_prb (pr_share (by omega) h (sx S (8 * k + 1)) (sx S (8 * k + 2)) (sx S (8 * k + 3)) (sx S (8 * k + 4)) (sx S (8 * k + 5)) (sx S (8 * k + 6)))) (nx _ (by omega)),
    fun _ => law_c1194 hd1 hk9 (by omega) a1 a2 (pr_prb (pr_atLeast (by omega) h (sx S (8 * k + 1)) (sx S (8 * k + 2)) (sx S (8 * k + 3)) (sx S (8 * k + 4)) (sx S (8 * k + 5)) (jOr (jShl (sx S (8 * k + 6)) 32) (jAnd (sx S (8 * k + 7)) 4294967295)))) (nx _ (by omega)),
    fun _ => law_c1302 hd1 hk9 (by omega) a1 a2 (pr_prb (pr_value (by omega) h (sx S (8 * k + 1)) (sx S (8 * k + 2)) (sx S (8 * k + 3)) (sx S (8 * k + 4)) (sx S (8 * k + 5)) (jOr (jShl (sx S (8 * k + 6)) 32) (jAnd (sx S (8 * k + 7)) 4294967295)) (zj_r _))) (nx _ (by omega)),
    fun _ => law_c1410 hd1 hk9 (by omega) a1 a2 (pr_prb (pr_hole (by omega) h (sx S (8 * k + 1)))) (nx _ (by omega)),
    fun _ => law_c1434 hd1 hk9 (by omega) a1 a2 (pr_prb (pr_before (by omega) h (sx S (8 * k + 1)) (sx S (8 * k + 2)) (sx S (8 * k + 3)) (sx S (8 * k + 4)) (sx S (8 * k + 5)) (sx S (8 * k + 6)))) (nx _ (by omega)),
    fun _ => law_c1510 hd1 hk9 (by omega) a1 a2 (pr_prb (pr_find (by omega) h (sx S (8 * k + 1)) (sx S (8 * k + 2)) (jOr (jShl (sx S (8 * k + 3)) 32) (jAnd (sx S (8 * k + 4)) 4294967295)) (zj_r _))) (nx _ (by omega)),
    fun _ => law_c1584 hd1 hk9 (by omega) a1 a2 (pr_prb (pr_findIn (by omega) h (sx S (8 * k + 1)) (sx S (8 * k + 2)) (sx S (8 * k + 3)) (sx S (8 * k + 4)) (sx S (8 * k + 5)) (jOr (jShl (sx S (8 * k + 6)) 32) (jAnd (sx S (8 * k + 7)) 4294967295)) (zj_r _))) (nx _ (by omega)),
    fun _ => law_c1692 hd1 hk9 (by omega) a1 a2 (pr_prb (pr_touched (by omega) h (sx S (8 * k + 1)) (sx S (8 * k + 2)) (sx S (8 * k + 3)) (sx S (8 * k + 4)) (sx S (8 * k + 5)) (jOr (jShl (sx S (8 * k + 6)) 32) (jAnd (sx S (8 * k + 7)) 4294967295)) (zj_r _))) (nx _ (by omega)),
    fun _ => law_c1800 hd1 hk9 (by omega) a1 a2 (pr_prb (pr_ahead (by omega) h (sx S (8 * k + 1)) (sx S (8 * k + 2)) (sx S (8 * k + 3)) (sx S (8 * k + 4)))) (nx _ (by omega)),
    fun _ => law_c1854 hd1 hk9 (by omega) a1 a2 (pr_prb (pr_depot (by omega) h (sx S (8 * k + 1)) (sx S (8 * k + 2)))) (nx _ (by omega)),
    fun _ => law_c1888 hd1 hk9 (by omega) a1 a2 (pr_prb (pr_window (by omega) h (sx S (8 * k + 1)) (sx S (8 * k + 2)) (sx S (8 * k + 3)) (sx S (8 * k + 4)))) (nx _ (by omega)),
    fun _ => law_c1942 hd1 hk9 (by omega) a1 a2 (pr_prb (pr_line (by omega) h (sx S (8 * k + 1)) (sx S (8 * k + 2)) (sx S (8 * k + 3)))) (nx _ (by omega)),
    fun _ => law_c1986 hd1 hk9 (by omega) a1 a2 (pr_prb (pr_borders (by omega) h (sx S (8 * k + 1)) (sx S (8 * k + 2)))) (nx _ (by omega)),
    fun _ => law_c2019 hd1 hk9 (by omega) a1 a2 (pr_prb (pr_border (by omega) h (sx S (8 * k + 1)) (sx S (8 * k + 2)))) (nx _ (by omega)),
    fun _ => law_c2052 hd1 hk9 (by omega) a1 a2 (pr_prb (pr_act (by omega) h (sx S (8 * k + 1)) (sx S (8 * k + 2)))) (nx _ (by omega)),
    fun _ => law_c2086 hd1 hk9 (by omega) a1 a2 (pr_prb (pr_count (by omega) h (sx S (8 * k + 1)))) (nx _ (by omega)),
    fun _ => ?_⟩
  unfold V_law_2110
  exact ⟨by omega, nx _ (by omega) S F G ⟨rfl, rfl⟩ (inv_up h (Int.le_refl _))⟩
end
