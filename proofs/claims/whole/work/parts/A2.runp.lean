section
/-! RUN OF BOTH -/
def Acc (d : Nat) (tp : Int → Int) (n : Int) (K : Nat) (F0 : AF) (G0 : AG) (k : Int) (F : AF) (G : AG) : Prop := ∀ (S' : AS) (F' : AF) (G' : AG) (Q : AQ), ShM S' → KK F0 G0 F' G' → F' 53 41 = K → (∀ j : Nat, j < K → RowM tp n G' j (Pn tp n j)) → (∀ F2 G2, KK F G F2 G2 → RFr F' F2 G' G2 → Go d MX10_run 88 [some (vR 53), some (vI n), some (vI k), none, none] [] S' F2 G2 Q) → Go d MX10_run 88 [some (vR 53), some (vI n), some (vI 0), none, none] [] S' F' G' Q
theorem rfr_tr {F F1 F2 : AF} {G G1 G2 : AG} (h : RFr F F1 G G1) (k : RFr F1 F2 G1 G2) : RFr F F2 G G2 := ⟨fun c hc => (k.1 c hc).trans (h.1 c hc), fun j a b => (k.2.1 j a b).trans (h.2.1 j a b), fun c hc => (k.2.2 c hc).trans (h.2.2 c hc)⟩
theorem sfr_tr {F F1 F2 : AF} {G G1 G2 : AG} (h : SFr F F1 G G1) (k : SFr F1 F2 G1 G2) : SFr F F2 G G2 := ⟨k.1.trans h.1, fun c a b c1 c2 => (k.2.1 c a b c1 c2).trans (h.2.1 c a b c1 c2), fun c a b => (k.2.2 c a b).trans (h.2.2 c a b)⟩
theorem acc_s {d : Nat} {tp : Int → Int} {n : Int} {K : Nat} {F0 : AF} {G0 : AG} {k : Nat} {S S1 : AS} {F F1 : AF} {G G1 : AG} {b z : Int} (hd : 9 ≤ d) (h : Acc d tp n K F0 G0 k F G) (ci : CI S F G b) (hb : b ≤ 1000000) (kK : k < K) (K30 : K ≤ 30) (ac : (acS tp n k (Pn tp n k)).1 = 0) (st : StS tp n (Pn tp n k) S S1 F F1 G G1 z) (z0 : 0 ≤ z) : Acc d tp n K F0 G0 ((k : Int) + 1) F1 G1 := by
  intro S' F' G' Q hsm k0 e41 rows hq
  refine h S' F' G' Q hsm k0 e41 rows (fun F2 G2 k2 r2 => ?_)
  have e2 : F2 53 41 = K := by rw [r2.2.1 41 (by decide) (by decide)]; exact e41
  refine R_X10_run_88 hsm ?_
  unfold V_X10_run_88
  refine ⟨fun q => absurd q (by omega), fun _ => ⟨by omega, ?_⟩⟩
  have row : RowM tp n G2 k (Pn tp n k) := by
    have := rows k kK
    unfold RowM at *
    rw [r2.2.2 73 (by omega)]
    exact this
  refine cr_does (by omega) hsm ci hb k2 (by omega) (by omega) row ac st (fun F3 G3 k3 r3 => ⟨rfl, _, rfl, fun q => absurd q (by omega), fun _ => ⟨by omega, hq F3 G3 k3 (rfr_tr r2 r3)⟩⟩)
theorem prb_run {d : Nat} {S : AS} {F : AF} {G : AG} {b : Int} (hd : 12 ≤ d) (kws : ∀ S : AS, ShC S → KWs S) (kwm : ∀ S : AS, ShM S → KWm S) (h : Inv S F G b) (hb : b ≤ 900000) (n : Int) : PrB d MX9_run MX10_run [vR 1, vI n] [vR 53, vI n] vI S F G (b + 31) := by
  obtain ⟨ci, kk, kx⟩ := inv_ci h
  obtain ⟨x1, x2, x3, x4, x5⟩ := id kx
  have hsh := ci.1.1
  have hsm := ci.1.2.1
  have t0 := ci.2.2.2.2.2.2.2.2.2.1
  have t5 := ci.2.2.2.2.2.2.2.2.2.2
  refine ok_go rfl (by decide) (Nat.le_of_ble_eq_true rfl) (R_X9_run_0 hsh ?_)
  unfold V_X9_run_0
  have bad : ¬ (0 ≤ n ∧ n ≤ F 46 1) → ∃ z : Int, some (vI (-3)) = some (vI z) ∧ SLike S S ∧ ShC S ∧ ShM S ∧ Ok d MX10_run [vR 53, vI n] S F G (fun w2 S2 F2 G2 => w2 = some (vI z) ∧ SLike S S2 ∧ Inv S2 F2 G2 (b + 31)) := by
    intro no
    refine ⟨-3, rfl, ⟨rfl, rfl⟩, hsh, hsm, ok_go rfl (by decide) (Nat.le_of_ble_eq_true rfl) (R_X10_run_0 hsm ?_)⟩
    unfold V_X10_run_0
    intro F1 e1
    have v34 : F1 53 34 = F 46 1 := by rw [e1, fu_k (by decide)]; exact x2.symm
    refine ⟨by omega, _, pu_isIn hsm _ _ _, fun q => absurd (Classical.byContradiction (fun z => q (bI_f z))) (by rw [v34]; exact no), fun _ => ⟨rfl, ⟨rfl, rfl⟩, ?_⟩⟩
    subst e1
    exact inv_up (inv_scr h scr_thrown) (by omega)
  refine ⟨fun q => bad (fun z => by omega), fun q => ⟨fun q2 => ⟨by omega, ?_⟩, fun q2 => bad (fun z => by omega)⟩⟩
  refine ok_sread (by omega) hsh (kws S hsh) (by omega) q2 t5 (fun F4 G5 K w a rd => ⟨rfl, _, rfl, fun F7 e7 F8 e8 => ?_⟩)
  obtain ⟨d1, d2, d3, d4, d5, d6, d7, d8, d9⟩ := rd
  have f8 : ∀ c : Nat, c ≠ 1 → c ≠ 46 → F8 c = F c := fun c h1 h2 => by rw [e8, fu_row h1, e7, fu_row h2, d5 c h2]
  have p1 : F8 1 6 = 0 := by rw [e8, fu_s]
  have p46 : ∀ j : Nat, j ≠ 1 → F8 46 j = F4 46 j := fun j hj => by rw [e8, fu_c (by decide), e7, fu_k hj]
  have p461 : F8 46 1 = 0 := by rw [e8, fu_c (by decide), e7, fu_s]
  have ci8 : CI S F8 G5 b := ci_cg ci (f8 2 (by decide) (by decide)) (f8 3 (by decide) (by decide)) (f8 4 (by decide) (by decide)) (f8 10 (by decide) (by decide)) (f8 11 (by decide) (by decide)) (f8 17 (by decide) (by decide)) (f8 44 (by decide) (by decide)) (fun c _ _ => f8 c (by omega) (by omega)) (d7 5 (by decide) (by decide) (by decide)) (d7 12 (by decide) (by decide) (by decide)) (d7 18 (by decide) (by decide) (by decide)) (fun j => ⟨f8 _ (by omega) (by omega), d7 _ (by omega) (by omega) (by omega)⟩) (by omega) (by omega)
  have kk8 : KK F8 G5 F G := kk_cg kk (f8 2 (by decide) (by decide)) (f8 3 (by decide) (by decide)) (f8 4 (by decide) (by decide)) (f8 10 (by decide) (by decide)) (f8 11 (by decide) (by decide)) (f8 44 (by decide) (by decide)) (fun c _ _ => f8 c (by omega) (by omega)) (d7 5 (by decide) (by decide) (by decide)) (d7 12 (by decide) (by decide) (by decide)) (d7 18 (by decide) (by decide) (by decide)) (d7 45 (by decide) (by decide) (by decide)) (fun j => ⟨f8 _ (by omega) (by omega), d7 _ (by omega) (by omega) (by omega)⟩)
  -- the reference's run, from a state whose part of it is as at the beginning
  have ref : ∀ (S1 : AS) (F1 : AF) (G1 : AG) (Q : AQ), ShM S1 → F1 53 = F 53 → (∀ c : Nat, 53 < c → c < 78 → G1 c = G c) → (∀ (F' : AF) (G' : AG), PA F1 F' G1 G' → w = 0 → F' 53 41 = K → F' 53 37 = 0 → F' 53 38 = -1 → KK F8 G5 F' G' → (∀ j : Nat, j < K → RowM (G 47) n G' j (Pn (G 47) n j)) → Go d MX10_run 88 [some (vR 53), some (vI n), some (vI 0), none, none] [] S1 F' G' Q) → (∀ (F' : AF) (G' : AG), PA F1 F' G1 G' → ¬ w = 0 → F' 53 37 = w → F' 53 38 = a → KK F8 G5 F' G' → Q (some (vI (-30 - w))) S1 F' G') → Ok d MX10_run [vR 53, vI n] S1 F1 G1 Q := by
    intro S1 F1 G1 Q hsm1 e53 eg h1 h0
    have e72 : G1 72 = G 47 := by rw [eg 72 (by decide) (by decide)]; exact x1.symm
    have v34 : F1 53 34 = F 46 1 := by rw [e53]; exact x2.symm
    have kkP : ∀ (F' : AF) (G' : AG), PA F1 F' G1 G' → KK F8 G5 F' G' := fun F' G' pa => kk_cr kk8 (by rw [pa.2.1 1 (by decide) (by omega), e53]) (by rw [pa.2.1 2 (by decide) (by omega), e53]) (by rw [pa.2.1 3 (by decide) (by omega), e53]) (by rw [pa.2.1 11 (by decide) (by omega), e53]) (by rw [pa.2.1 14 (by decide) (by omega), e53]) (fun c c0 c1 => by rw [pa.2.2.1 c (by omega)]; exact eg c (by omega) (by omega))
    refine ok_mrun (by omega) hsm1 (kwm S1 hsm1) (by omega) (by omega) (by omega) (fun F' G' K' pa rs k30 e41 e37 e38 rows => ?_) (fun F' G' K' w' a' pa rs w0 e37 e38 => ?_)
    · rw [e72] at rs rows
      obtain ⟨u1, u2, u3⟩ := res_uniq rs d1
      subst u1
      exact h1 F' G' pa u2.symm e41 e37 e38 (kkP F' G' pa) rows
    · rw [e72] at rs
      obtain ⟨u1, u2, u3⟩ := res_uniq rs d1
      subst u2 u3
      exact h0 F' G' pa w0 e37 e38 (kkP F' G' pa)
  refine ⟨fun w0 => ?_, fun w0 => ⟨by omega, -30 - w, rfl, ⟨rfl, rfl⟩, hsh, hsm, ?_⟩⟩
  · -- the acts
    obtain ⟨c9, crow⟩ := d8 w0
    have main : ∀ (m k : Nat), k + m = K → ∀ (S1 : AS) (F1 : AF) (G1 : AG), SLike S S1 → SFr F8 F1 G5 G1 → CI S1 F1 G1 (b + k) → Acc d (G 47) n K F8 G5 k F1 G1 → Go d MX9_run 51 [some (vR 1), some (vI n), some (vI w), some (vI k), none, none] [] S1 F1 G1 (fun w S1 F1 G1 => ∃ z : Int, w = some (vI z) ∧ SLike S S1 ∧ ShC S1 ∧ ShM S1 ∧ Ok d MX10_run [vR 53, vI n] S1 F1 G1 (fun w2 S2 F2 G2 => w2 = some (vI z) ∧ SLike S S2 ∧ Inv S2 F2 G2 (b + 31))) := by
      intro m
      induction m with
      | zero =>
        intro k hk S1 F1 G1 sl sf ci1 acc
        have ek : k = K := by omega
        subst ek
        have e46 := sf.2.1 46 (by decide) (by decide) (by decide) (by decide)
        have e9 : F1 46 9 = k := by rw [e46, p46 9 (by decide)]; exact c9
        have e53 : F1 53 = F 53 := by rw [sf.2.1 53 (by decide) (by decide) (by decide) (by decide)]; exact f8 53 (by decide) (by decide)
        refine R_X9_run_51 ci1.1.1 ?_
        unfold V_X9_run_51
        refine ⟨fun _ => ⟨_, rfl, sl, ci1.1.1, ci1.1.2.1, ref S1 F1 G1 _ ci1.1.2.1 e53 (fun c c0 c1 => by rw [sf.2.2 c (by omega) c1]; exact d7 c (by omega) (by omega) (by omega)) (fun F' G' pa _ e41 e37 e38 k8 rows => ?_) (fun F' G' pa wn _ _ _ => absurd w0 wn)⟩, fun q => absurd q (by omega)⟩
        refine acc S1 F' G' _ ci1.1.2.1 k8 e41 rows (fun F2 G2 k2 r2 => ?_)
        have e2 : F2 53 41 = k := by rw [r2.2.1 41 (by decide) (by decide)]; exact e41
        refine R_X10_run_88 ci1.1.2.1 ?_
        unfold V_X10_run_88
        refine ⟨fun _ => ⟨by rw [e2, e9], sl, ?_⟩, fun q => absurd q (by omega)⟩
        have fx : ∀ c : Nat, c ≠ 53 → F2 c = F1 c := fun c hc => (r2.1 c hc).trans (pa.1 c hc)
        have gx : ∀ c : Nat, (c < 54 ∨ 73 < c ∨ c = 72) → G2 c = G1 c := fun c hc => (r2.2.2 c (by omega)).trans (pa.2.2.1 c (by omega))
        refine inv_up (b := b + k) (ci_inv (ci_cg ci1 (fx 2 (by decide)) (fx 3 (by decide)) (fx 4 (by decide)) (fx 10 (by decide)) (fx 11 (by decide)) (fx 17 (by decide)) (fx 44 (by decide)) (fun c _ _ => fx c (by omega)) (gx 5 (by omega)) (gx 12 (by omega)) (gx 18 (by omega)) (fun j => ⟨fx _ (by omega), gx _ (by omega)⟩) (by rw [fx 46 (by decide)]; exact ci1.2.2.2.2.2.2.2.2.2.1) (by rw [fx 46 (by decide)]; exact ci1.2.2.2.2.2.2.2.2.2.2)) (kk_cg k2 (fx 2 (by decide)) (fx 3 (by decide)) (fx 4 (by decide)) (fx 10 (by decide)) (fx 11 (by decide)) (fx 44 (by decide)) (fun c _ _ => fx c (by omega)) (gx 5 (by omega)) (gx 12 (by omega)) (gx 18 (by omega)) (gx 45 (by omega)) (fun j => ⟨fx _ (by omega), gx _ (by omega)⟩)) ⟨?_, ?_, ?_, ?_, ?_⟩) (by omega)
        · rw [gx 47 (by omega), gx 72 (by omega), sf.2.2 47 (by decide) (by decide), sf.2.2 72 (by decide) (by decide), d7 47 (by decide) (by decide) (by decide), d7 72 (by decide) (by decide) (by decide)]
          exact x1
        · rw [fx 46 (by decide), e46, p461, r2.2.1 34 (by decide) (by decide), pa.2.2.2.1]
        · rw [fx 46 (by decide), e46, p46 10 (by decide), d3, w0, r2.2.1 37 (by decide) (by decide), e37]
        · rw [fx 46 (by decide), e46, p46 11 (by decide), d4, r2.2.1 38 (by decide) (by decide), e38]
          rcases d1.2 with ⟨-, z, -⟩ | ⟨z, -⟩
          · exact z
          · exact absurd w0 z
        · rw [fx 1 (by decide), sf.1, p1, r2.2.1 39 (by decide) (by decide), pa.2.2.2.2]
      | succ m ih =>
        intro k hk S1 F1 G1 sl sf ci1 acc
        have e46 := sf.2.1 46 (by decide) (by decide) (by decide) (by decide)
        have e9 : F1 46 9 = K := by rw [e46, p46 9 (by decide)]; exact c9
        have row : RowS (G 47) n G1 k (Pn (G 47) n k) := by
          have := crow k (by omega)
          unfold RowS at *
          rw [sf.2.2 48 (by decide) (by decide), sf.2.2 49 (by decide) (by decide), sf.2.2 50 (by decide) (by decide)]
          exact this
        have ac := (d1.1 k (by omega)).2
        refine R_X9_run_51 ci1.1.1 ?_
        unfold V_X9_run_51
        refine ⟨fun q => absurd q (by omega), fun _ => ⟨by omega, cs_told (K := K) (by omega) ci1 (by omega) (by omega) (by omega) (by omega) e9 row ac (fun S3 F4' G5' z st zlo sl3 sf3 ci3 => ⟨z, rfl, ci3.1.1, fun z0 => ⟨by omega, ?_⟩, fun z0 => ⟨by omega, fun F9 e9' => ⟨k, rfl, slike_tr sl sl3, ci3.1.1, ci3.1.2.1, ?_⟩⟩⟩)⟩⟩
        · have eb : b + (k : Int) + 1 = b + ((k + 1 : Nat) : Int) := by omega
          rw [eb] at ci3
          exact ih (k + 1) (by omega) S3 F4' G5' (slike_tr sl sl3) (sfr_tr sf sf3) ci3 (acc_s (by omega) acc ci1 (by omega) (by omega) d2 ac st z0)
        · have sf' := sfr_tr sf sf3
          have e53 : F9 53 = F 53 := by rw [e9', fu_row (by decide), sf'.2.1 53 (by decide) (by decide) (by decide) (by decide)]; exact f8 53 (by decide) (by decide)
          refine ref S3 F9 G5' _ ci3.1.2.1 e53 (fun c c0 c1 => by rw [sf'.2.2 c (by omega) c1]; exact d7 c (by omega) (by omega) (by omega)) (fun F' G' pa _ e41 e37 e38 k8 rows => ?_) (fun F' G' pa wn _ _ _ => absurd w0 wn)
          refine acc S3 F' G' _ ci3.1.2.1 k8 e41 rows (fun F2 G2 k2 r2 => ?_)
          have e2 : F2 53 41 = K := by rw [r2.2.1 41 (by decide) (by decide)]; exact e41
          refine R_X10_run_88 ci3.1.2.1 ?_
          unfold V_X10_run_88
          refine ⟨fun q => absurd q (by omega), fun _ => ⟨by omega, ?_⟩⟩
          have row2 : RowM (G 47) n G2 k (Pn (G 47) n k) := by
            have := rows k (by omega)
            unfold RowM at *
            rw [r2.2.2 73 (by omega)]
            exact this
          refine cr_does (by omega) ci3.1.2.1 ci1 (by omega) k2 (by omega) (by omega) row2 ac st (fun F3 G3 k3 r3 => ⟨rfl, _, rfl, fun _ => ⟨by omega, fun F10 e10 => ⟨rfl, slike_tr sl sl3, ?_⟩⟩, fun q => absurd q (by omega)⟩)
          have rr := rfr_tr r2 r3
          have f10k : ∀ j : Nat, j ≠ 39 → F10 53 j = F3 53 j := fun j hj => by rw [e10, fu_k hj]
          have fx : ∀ c : Nat, c ≠ 53 → F10 c = F9 c := fun c hc => by rw [e10, fu_row hc, rr.1 c hc, pa.1 c hc]
          have fy : ∀ c : Nat, c ≠ 53 → c ≠ 1 → F10 c = F4' c := fun c hc h1 => by rw [fx c hc, e9', fu_row h1]
          have gx : ∀ c : Nat, (c < 54 ∨ 73 < c ∨ c = 72) → G3 c = G5' c := fun c hc => (rr.2.2 c (by omega)).trans (pa.2.2.1 c (by omega))
          have k3' : KK F4' G5' F10 G3 := kk_cr k3 (f10k 1 (by decide)) (f10k 2 (by decide)) (f10k 3 (by decide)) (f10k 11 (by decide)) (f10k 14 (by decide)) (fun _ _ _ => rfl)
          have e46' := sf'.2.1 46 (by decide) (by decide) (by decide) (by decide)
          refine inv_up (b := b + k + 1) (ci_inv (ci_cg ci3 (fy 2 (by decide) (by decide)) (fy 3 (by decide) (by decide)) (fy 4 (by decide) (by decide)) (fy 10 (by decide) (by decide)) (fy 11 (by decide) (by decide)) (fy 17 (by decide) (by decide)) (fy 44 (by decide) (by decide)) (fun c _ _ => fy c (by omega) (by omega)) (gx 5 (by omega)) (gx 12 (by omega)) (gx 18 (by omega)) (fun j => ⟨fy _ (by omega) (by omega), gx _ (by omega)⟩) (by rw [fy 46 (by decide) (by decide)]; exact ci3.2.2.2.2.2.2.2.2.2.1) (by rw [fy 46 (by decide) (by decide)]; exact ci3.2.2.2.2.2.2.2.2.2.2)) (kk_cg k3' (fy 2 (by decide) (by decide)) (fy 3 (by decide) (by decide)) (fy 4 (by decide) (by decide)) (fy 10 (by decide) (by decide)) (fy 11 (by decide) (by decide)) (fy 44 (by decide) (by decide)) (fun c _ _ => fy c (by omega) (by omega)) (gx 5 (by omega)) (gx 12 (by omega)) (gx 18 (by omega)) (gx 45 (by omega)) (fun j => ⟨fy _ (by omega) (by omega), gx _ (by omega)⟩)) ⟨?_, ?_, ?_, ?_, ?_⟩) (by omega)
          · rw [gx 47 (by omega), gx 72 (by omega), sf'.2.2 47 (by decide) (by decide), sf'.2.2 72 (by decide) (by decide), d7 47 (by decide) (by decide) (by decide), d7 72 (by decide) (by decide) (by decide)]
            exact x1
          · rw [fy 46 (by decide) (by decide), e46', p461, f10k 34 (by decide), rr.2.1 34 (by decide) (by decide), pa.2.2.2.1]
          · rw [fy 46 (by decide) (by decide), e46', p46 10 (by decide), d3, w0, f10k 37 (by decide), rr.2.1 37 (by decide) (by decide), e37]
          · rw [fy 46 (by decide) (by decide), e46', p46 11 (by decide), d4, f10k 38 (by decide), rr.2.1 38 (by decide) (by decide), e38]
            rcases d1.2 with ⟨-, z, -⟩ | ⟨z, -⟩
            · exact z
            · exact absurd w0 z
          · rw [fx 1 (by decide), e9', fu_s, e10, fu_s]
    exact main K 0 (by omega) S F8 G5 ⟨rfl, rfl⟩ ⟨rfl, fun _ _ _ _ _ => rfl, fun _ _ _ => rfl⟩ (ci_up ci8 (by omega)) (fun S' F' G' Q _ k8 _ _ hq => hq F' G' k8 ⟨fun _ _ => rfl, fun _ _ _ => rfl, fun _ _ => rfl⟩)
  · -- a fault
    refine ref S F8 G5 _ hsm (f8 53 (by decide) (by decide)) (fun c c0 c1 => d7 c (by omega) (by omega) (by omega)) (fun F' G' pa wz _ _ _ _ _ => absurd wz w0) (fun F' G' pa _ e37 e38 k8 => ⟨rfl, ⟨rfl, rfl⟩, ?_⟩)
    have fx : ∀ c : Nat, c ≠ 53 → F' c = F8 c := pa.1
    have gx : ∀ c : Nat, c ≠ 73 → G' c = G5 c := pa.2.2.1
    refine inv_up (b := b) (ci_inv (ci_cg ci8 (fx 2 (by decide)) (fx 3 (by decide)) (fx 4 (by decide)) (fx 10 (by decide)) (fx 11 (by decide)) (fx 17 (by decide)) (fx 44 (by decide)) (fun c _ _ => fx c (by omega)) (gx 5 (by decide)) (gx 12 (by decide)) (gx 18 (by decide)) (fun j => ⟨fx _ (by omega), gx _ (by omega)⟩) (by rw [fx 46 (by decide)]; exact ci8.2.2.2.2.2.2.2.2.2.1) (by rw [fx 46 (by decide)]; exact ci8.2.2.2.2.2.2.2.2.2.2)) (kk_cg k8 (fx 2 (by decide)) (fx 3 (by decide)) (fx 4 (by decide)) (fx 10 (by decide)) (fx 11 (by decide)) (fx 44 (by decide)) (fun c _ _ => fx c (by omega)) (gx 5 (by decide)) (gx 12 (by decide)) (gx 18 (by decide)) (gx 45 (by decide)) (fun j => ⟨fx _ (by omega), gx _ (by omega)⟩)) ⟨?_, ?_, ?_, ?_, ?_⟩) (by omega)
    · rw [gx 47 (by decide), gx 72 (by decide), d7 47 (by decide) (by decide) (by decide), d7 72 (by decide) (by decide) (by decide)]
      exact x1
    · rw [fx 46 (by decide), p461, pa.2.2.2.1]
    · rw [fx 46 (by decide), p46 10 (by decide), d3, e37]
    · rw [fx 46 (by decide), p46 11 (by decide), d4, e38]
    · rw [fx 1 (by decide), p1, pa.2.2.2.2]
end
