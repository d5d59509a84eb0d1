section
theorem go_law0 {d : Nat} {S : AS} {F : AF} {G : AG} {Q : AQ} (hd : 140 ≤ d) (hn : sn S = 0) (hs : ss S = 0) (hR : ∀ c k, sR S c k = 0) (hL : sL S ≤ 4096) (z : ∀ c k, F c k = 0) (zg : ∀ c j, G c j = 0) (hq : ∀ S' F' G' b, Inv S' F' G' b → Q (some (vI 1)) S' F' G') : Go d Mlaw 0 [some (vR 999999), none, none, none] [] S F G Q := by
  have zf : Zf F G 0 := ⟨fun c k _ => z c k, fun c j _ => zg c j⟩
  have h0 : PSh S S 0 0 [] := ⟨⟨rfl, rfl⟩, hn, by omega, fun c c0 c1 => absurd c1 (by omega), fun c k => by rw [hR]; rfl, fun q hq => (by cases hq), by decide⟩
  have e := nF_z hn zf
  refine R_law_0 ?_
  unfold V_law_0
  refine ⟨by omega, fun x ex S3 e3 F4 e4 G5 e5 => ⟨by omega, by omega, ?_⟩⟩
  rw [e.1] at e4
  rw [e.2] at e5
  have ex' : x = 1 := by omega
  subst e3 e4 e5 ex'
  have h1 := ps_na (z := 7) (K := 9) (N := 0) h0 rfl rfl (by decide)
  refine ok_iX9 (by omega) h1 zf (fun S1 F1 G1 p1 c1 => ⟨rfl, ?_⟩)
  obtain ⟨c2, c3, c4, c5, c6, c7, c8, c9, c10, c11, c12, c13, c14⟩ := c1
  have f1 : ∀ c : Nat, 33 < c → F1 c = fu F4 46 11 (-1) c := fun c hc => c2 c (by omega) (by omega) (by omega) (by omega) (by omega) (by omega) (by omega) (by omega) (by omega)
  have g1 : ∀ c : Nat, 18 < c → G1 c = G5 c := fun c hc => c3 c (by omega) (by omega) (by omega) (by omega) (by omega)
  have zf1 : Zf F1 G1 52 := ⟨fun c k hc => by rw [f1 c (by omega), fu_c (by omega)]; exact z c k, fun c j hc => by rw [g1 c (by omega)]; exact zg c j⟩
  have n1 := p1.2.1
  have e1 := nF_z n1 zf1
  refine ⟨by omega, fun x13 ex13 S14 e14 F15 e15 G16 e16 => ⟨by omega, by omega, ?_⟩⟩
  rw [e1.1] at e15
  rw [e1.2] at e16
  have ex2 : x13 = 53 := by omega
  subst e14 e15 e16 ex2
  have p2 := ps_na (z := 51) (K := 10) (N := 0) p1 rfl rfl (by decide)
  refine ok_iX10 (by omega) p2 zf1 (fun S2 F2 G2 p3 b => ⟨rfl, ?_⟩)
  obtain ⟨b1, b2, b3, b4, b5, b6, b7, b8, b9⟩ := b
  have fa : ∀ c : Nat, c ≠ 53 → FaM F15 c = F15 c := fun c hc => by
    unfold FaM
    rw [fu_row hc, fu_row hc, fu_row hc, fu_row hc]
  have f2 : ∀ c : Nat, c ≠ 53 → F2 c = F15 c := fun c hc => (b1 c hc).trans (fa c hc)
  have f53 : ∀ k : Nat, k ≠ 1 → k ≠ 2 → k ≠ 3 → k ≠ 38 → k ≠ 11 → k ≠ 14 → F2 53 k = 0 := by
    intro k h1 h2 h3 h4 h5 h6
    rw [b2 k h5 h6]
    unfold FaM
    rw [fu_k h4, fu_k h3, fu_k h2, fu_k h1]
    exact zf1.1 53 k (by decide)
  have v1 : F2 53 1 = 1 := by
    rw [b2 1 (by decide) (by decide)]
    unfold FaM
    rw [fu_k (by decide), fu_k (by decide), fu_k (by decide), fu_s]
  have v2 : F2 53 2 = 1 := by
    rw [b2 2 (by decide) (by decide)]
    unfold FaM
    rw [fu_k (by decide), fu_k (by decide), fu_s]
  have v3 : F2 53 3 = 1000000000000 := by
    rw [b2 3 (by decide) (by decide)]
    unfold FaM
    rw [fu_k (by decide), fu_s]
  have v38 : F2 53 38 = -1 := by
    rw [b2 38 (by decide) (by decide)]
    unfold FaM
    rw [fu_s]
  have g2 : ∀ c : Nat, c < 54 → G2 c = G16 c := fun c hc => b5 c (Or.inl hc) (by omega) (by omega)
  have sc : ShC S2 := ps_shc p3 (by decide) (fun c hc k hk q => by
    have := r9_all c hc k hk q
    exact List.mem_append_right [(53, 50), (53, 49), (53, 48), (53, 47), (53, 40), (53, 33), (53, 31), (53, 30), (53, 29), (53, 28), (53, 19), (53, 18), (53, 17), (53, 16), (53, 15), (53, 13), (53, 12), (53, 10), (53, 9), (53, 8), (53, 7), (53, 6), (53, 5), (53, 4)] this)
  have sm : ShM S2 := ps_shm p3
  have sN : ShN S2 0 := ⟨by decide, ⟨by rw [p3.2.1], by have := p3.2.2.1; omega⟩, fun j => by rw [if_neg (by omega), ps_r p3 (r77_all 21 (by decide)) j]; rfl, fun j hj => absurd hj (by omega)⟩
  have e28 : F2 2 8 = 0 := by rw [f2 2 (by decide)]; exact c12
  have ca : CA S2 F2 := ⟨sc, sm, 0, sN, by rw [e28]; decide⟩
  have cc : CC F2 G2 := cc_cg (f2 4 (by decide)) (f2 11 (by decide)) (f2 17 (by decide)) (g2 5 (by decide)) (g2 12 (by decide)) c4
  have z18 : ∀ i : Int, 0 ≤ i → i < 6912 → G2 18 i = 0 := fun i i0 i1 => by rw [g2 18 (by decide)]; exact c13 i i0 i1
  have zz : ∀ w : Int, 0 ≤ w → w < 6 → F2 (22 + 2 * w.toNat) 2 = 0 ∧ RO F2 (22 + 2 * w.toNat + 1) := fun w w0 w1 => by
    have q := c14 w w0 w1
    refine ⟨by rw [f2 _ (by omega)]; exact q.1, ?_⟩
    unfold RO
    rw [f2 _ (by omega), q.2.2, fu_c (by omega), fu_c (by omega), fu_c (by omega), fu_c (by omega), z, z, z, z]
    omega
  have t44 : ∀ k : Nat, F2 44 k = 0 := fun k => by rw [f2 44 (by decide), f1 44 (by decide), fu_c (by decide)]; exact z 44 k
  have t46 : ∀ k : Nat, k ≠ 11 → F2 46 k = 0 := fun k hk => by rw [f2 46 (by decide), f1 46 (by decide), fu_k hk]; exact z 46 k
  have t4611 : F2 46 11 = -1 := by rw [f2 46 (by decide), f1 46 (by decide), fu_s]
  have t16 : F2 1 6 = 0 := by
    rw [f2 1 (by decide), c2 1 (by decide) (by decide) (by decide) (by decide) (by decide) (by decide) (by decide) (by decide) (by decide), fu_c (by decide)]
    exact z 1 6
  have ci : CI S2 F2 G2 0 := ci_new ca cc (by rw [f2 4 (by decide)]; exact c5) (by rw [f2 11 (by decide)]; exact c6) (by rw [f2 3 (by decide)]; exact c9) (by rw [f2 10 (by decide)]; exact c10) (by rw [f2 2 (by decide), c11]; decide) (by rw [f2 2 (by decide), c11]; decide) e28 z18 zz ⟨by rw [t44]; decide, by rw [t44]; decide, by rw [t44]; decide, by rw [t44]; decide⟩ (by rw [t46 1 (by decide)]; decide) (by rw [t46 1 (by decide)]; decide) (by decide)
  have kk : KK F2 G2 F2 G2 := kk_new cc (by rw [f2 4 (by decide)]; exact c5) (by rw [f2 11 (by decide)]; exact c6) (by rw [f2 4 (by decide), c7, v1]) (by rw [f2 11 (by decide), c8, v2]) (by rw [f2 3 (by decide)]; exact c9) (by rw [f2 10 (by decide)]; exact c10) (by rw [f2 2 (by decide), c11, v3]) e28 z18 (fun w w0 w1 => (zz w w0 w1).1) (t44 2) b3 b4 b6 b7 b8 b9
  have kx : KX F2 G2 F2 G2 := by
    refine ⟨?_, by rw [t46 1 (by decide), f53 34 (by decide) (by decide) (by decide) (by decide) (by decide) (by decide)], by rw [t46 10 (by decide), f53 37 (by decide) (by decide) (by decide) (by decide) (by decide) (by decide)], by rw [t4611, v38], by rw [t16, f53 39 (by decide) (by decide) (by decide) (by decide) (by decide) (by decide)]⟩
    funext j
    rw [g2 47 (by decide), b5 72 (by decide) (by decide) (by decide), g1 47 (by decide), g1 72 (by decide), zg, zg]
  have inv := ci_inv ci kk kx
  refine law_loop (by omega) ?_ inv hq
  rw [p3.1.1]
  exact hL
end
