section
/-! RUN -/
theorem mparse {d : Nat} {S : AS} {F : AF} {G : AG} {n a1 : Int} (hd : 10 ≤ d) (hsm : ShM S) (kw : KWm S) (hb : TB (G 72)) (n0 : 0 ≤ n) (n1 : n ≤ 500) {Q : AQ} (hq1 : ∀ (F' : AF) (G' : AG) (K : Nat), Fr41 F F' → (∀ c : Nat, c ≠ 73 → G' c = G c) → Res (G 72) n K 0 (-1) → K ≤ 30 → F' 53 41 = K → F' 53 37 = 0 → F' 53 38 = -1 → (∀ j : Nat, j < K → RowM (G 72) n G' j (Pn (G 72) n j)) → Go d MX10_run 88 [some (vR 53), some (vI a1), some (vI 0), none, none] [] S F' G' Q) (hq0 : ∀ (F' : AF) (G' : AG) (K : Nat) (w a : Int), Fr41 F F' → (∀ c : Nat, c ≠ 73 → G' c = G c) → Res (G 72) n K w a → ¬ w = 0 → F' 53 37 = w → F' 53 38 = a → Q (some (vI (-30 - w))) S F' G') : ∀ (m k : Nat), k + m = 31 → ∀ (F1 : AF) (G1 : AG), F1 53 35 = n → Fr41 F F1 → (∀ c : Nat, c ≠ 73 → G1 c = G c) → RelM F1 G1 (0, -1, Pn (G 72) n k) → F1 53 36 ≤ 500 → F1 53 41 = k → (∀ j : Nat, j < k → RowM (G 72) n G1 j (Pn (G 72) n j)) → (∀ j : Nat, j < k → ¬ kd (G 72) n (sk (G 72) n (Pn (G 72) n j)) = 0 ∧ (acS (G 72) n j (Pn (G 72) n j)).1 = 0) → Go d MX10_run 57 [some (vR 53), some (vI a1), none, none, none] [] S F1 G1 Q := by
  intro m
  induction m with
  | zero =>
    intro k hk F1 G1 e35 fr gr rel sp e41 rows acs
    have := (acS_a (acs 30 (by omega)).2).2
    omega
  | succ m ih =>
    intro k hk F1 G1 e35 fr gr rel sp e41 rows acs
    have g72 : G1 72 = G 72 := gr 72 (by decide)
    have hb1 : TB (G1 72) := by rw [g72]; exact hb
    have mt := rel.1
    have e37 : F1 53 37 = 0 := rel.2.1
    have e38 : F1 53 38 = -1 := rel.2.2.1
    have esk : sk (G 72) n (F1 53 36) = sk (G 72) n (Pn (G 72) n k) := by
      have := rel.2.2.2 rfl
      rw [g72, e35] at this
      exact this
    refine R_X10_run_57 hsm ?_
    unfold V_X10_run_57
    refine ⟨by omega, ok_isOver (by omega) hsm hb1 mt ⟨rfl, _, rfl, fun q => ?_, fun q => ?_⟩⟩
    · have yo : ¬ F1 53 37 = 0 ∨ kd (G1 72) (F1 53 35) (sk (G1 72) (F1 53 35) (F1 53 36)) = 0 := Classical.byContradiction (fun z => q (bI_f z))
      rw [g72, e35, esk, e37] at yo
      have z0 : kd (G 72) n (sk (G 72) n (Pn (G 72) n k)) = 0 := yo.elim (fun z => absurd rfl z) id
      have v37 : fu F1 53 36 (sk (G1 72) (F1 53 35) (F1 53 36)) 53 37 = 0 := by rw [fu_k (by decide)]; exact e37
      refine ⟨fun _ => ?_, fun z => absurd v37 z⟩
      refine hq1 _ G1 k ⟨fun c hc => by rw [fu_row hc]; exact fr.1 c hc, fun j a b c e => by rw [fu_k a]; exact fr.2 j a b c e⟩ gr ⟨acs, Or.inl ⟨rfl, rfl, z0⟩⟩ ?_ (by rw [fu_k (by decide)]; exact e41) v37 (by rw [fu_k (by decide)]; exact e38) rows
      by_cases h31 : k ≤ 30
      · exact h31
      · have := (acS_a (acs 30 (by omega)).2).2
        omega
    · have no := bI_0.mp q
      rw [g72, e35, esk] at no
      have z1 : ¬ kd (G 72) n (sk (G 72) n (Pn (G 72) n k)) = 0 := fun z => no (Or.inr z)
      have ss := sk_sp (G 72) n (F1 53 36)
      have bsp : 0 ≤ sk (G 72) n (F1 53 36) ∧ sk (G 72) n (F1 53 36) ≤ 500 := by
        have := mt.2.2.1
        rcases ss.2.1 with h | h
        · omega
        · omega
      rw [g72, e35]
      have rel2 : RelM (fu F1 53 36 (sk (G 72) n (F1 53 36))) G1 (0, -1, Pn (G 72) n k) := by
        refine ⟨⟨by rw [fu_k (by decide)]; exact mt.1, by rw [fu_k (by decide)]; exact mt.2.1, by rw [fu_s]; omega, by rw [fu_s]; omega⟩, by rw [fu_k (by decide)]; exact e37, by rw [fu_k (by decide)]; exact e38, fun _ => ?_⟩
        rw [fu_s, fu_k (by decide), g72, e35, sk_id, esk]
      have f35 : fu F1 53 36 (sk (G 72) n (F1 53 36)) 53 35 = n := by rw [fu_k (by decide)]; exact e35
      have f41 : fu F1 53 36 (sk (G 72) n (F1 53 36)) 53 41 = k := by rw [fu_k (by decide)]; exact e41
      have fr2 : Fr41 F (fu F1 53 36 (sk (G 72) n (F1 53 36))) := ⟨fun c hc => by rw [fu_row hc]; exact fr.1 c hc, fun j a b c e => by rw [fu_k a]; exact fr.2 j a b c e⟩
      have f36 : fu F1 53 36 (sk (G 72) n (F1 53 36)) 53 36 ≤ 600 := by rw [fu_s]; omega
      generalize fu F1 53 36 (sk (G 72) n (F1 53 36)) = F2 at rel2 f35 f41 fr2 f36 ⊢
      have k31 : k ≤ 30 := by
        by_cases h31 : k ≤ 30
        · exact h31
        · have := (acS_a (acs 30 (by omega)).2).2
          omega
      · refine ok_mreadAct (by omega) hsm kw hb1 rel2 f36 (by omega) (by omega) (fun F' G' p37 p38 pm pf pg pr ps => ⟨rfl, rfl, ?_⟩)
        rw [g72, f35, f41] at p37 p38 ps
        have fr3 : Fr41 F F' := ⟨fun c hc => (pf.1 c hc).trans (fr2.1 c hc), fun j a b c e => (pf.2 j a b c e).trans (fr2.2 j a b c e)⟩
        have gr3 : ∀ c : Nat, c ≠ 73 → G' c = G c := fun c hc => (pg c hc).trans (gr c hc)
        have f35' : F' 53 35 = n := by rw [pf.2 35 (by decide) (by decide) (by decide) (by decide)]; exact f35
        by_cases c : (acS (G 72) n k (Pn (G 72) n k)).1 = 0
        · obtain ⟨s1, s2, s3, s4, s5⟩ := ps c
          have ea := acS_a c
          refine ih (k + 1) (by omega) F' G' f35' fr3 gr3 ⟨pm, by rw [p37]; exact c, by rw [p38]; exact ea.1, fun _ => ?_⟩ s2 (by rw [s3]; omega) (fun j hj => ?_) (fun j hj => ?_)
          · have e : (acS (G 72) n k (Pn (G 72) n k)).2.2 = Pn (G 72) n (k + 1) := rfl
            rw [s1, e]
          · by_cases ej : j = k
            · subst ej
              exact s5
            · exact rowM_cg (m := (k : Int)) (by omega) (rows j (by omega)) (fun l hl => pr l (by rw [f41]; exact hl))
          · by_cases ej : j = k
            · subst ej
              exact ⟨z1, c⟩
            · exact acs j (by omega)
        · -- a fault: once more at the head, and out
          have g72' : G' 72 = G 72 := gr3 72 (by decide)
          refine R_X10_run_57 hsm ?_
          unfold V_X10_run_57
          have hb3 : TB (G' 72) := by rw [g72']; exact hb
          refine ⟨by omega, ok_isOver (by omega) hsm hb3 pm ⟨rfl, _, rfl, fun q => ?_, fun q => absurd (Or.inl (by rw [p37]; exact c)) (bI_0.mp q)⟩⟩
          have v37 : fu F' 53 36 (sk (G' 72) (F' 53 35) (F' 53 36)) 53 37 = (acS (G 72) n k (Pn (G 72) n k)).1 := by rw [fu_k (by decide)]; exact p37
          have ww := acS_w (G 72) n k (Pn (G 72) n k)
          refine ⟨fun z => absurd (v37.symm.trans z) c, fun _ => ⟨by rw [v37]; omega, ?_⟩⟩
          rw [v37]
          exact hq0 _ G' k _ _ ⟨fun c hc => by rw [fu_row hc]; exact fr3.1 c hc, fun j a b c e => by rw [fu_k a]; exact fr3.2 j a b c e⟩ gr3 ⟨acs, Or.inr ⟨c, z1, rfl, rfl⟩⟩ c v37 (by rw [fu_k (by decide)]; exact p38)
def PA (F1 F' : AF) (G1 G' : AG) : Prop := (∀ c : Nat, c ≠ 53 → F' c = F1 c) ∧ (∀ j : Nat, j ≠ 0 → (j < 34 ∨ 41 < j) → F' 53 j = F1 53 j) ∧ (∀ c : Nat, c ≠ 73 → G' c = G1 c) ∧ F' 53 34 = 0 ∧ F' 53 39 = 0
theorem ok_mrun {d : Nat} {S : AS} {F : AF} {G : AG} {n : Int} (hd : 11 ≤ d) (hsm : ShM S) (kw : KWm S) (n0 : 0 ≤ n) (n1 : n ≤ F 53 34) (n2 : F 53 34 ≤ 500) {Q : AQ} (hq1 : ∀ (F' : AF) (G' : AG) (K : Nat), PA F F' G G' → Res (G 72) n K 0 (-1) → K ≤ 30 → F' 53 41 = K → F' 53 37 = 0 → F' 53 38 = -1 → (∀ j : Nat, j < K → RowM (G 72) n G' j (Pn (G 72) n j)) → Go d MX10_run 88 [some (vR 53), some (vI n), some (vI 0), none, none] [] S F' G' Q) (hq0 : ∀ (F' : AF) (G' : AG) (K : Nat) (w a : Int), PA F F' G G' → Res (G 72) n K w a → ¬ w = 0 → F' 53 37 = w → F' 53 38 = a → Q (some (vI (-30 - w))) S F' G') : Ok d MX10_run [vR 53, vI n] S F G Q := by
  refine ok_rg (fun rg _ => ?_)
  have hb : TB (G 72) := by
    intro j
    have k72 := shm_k hsm 72 (by decide) (by decide)
    have e : kT 72 = 22 := rfl
    rw [e] at k72
    have n72 : 72 ≤ sn S := by
      by_cases c : 72 ≤ sn S
      · exact c
      · have := rg.1 72 (Or.inr (by omega))
        omega
    have := (rg.2.1 72 (by omega) n72).2.2.1 (by omega) j
    rw [k72] at this
    exact this
  refine ok_go rfl (by decide) (Nat.le_of_ble_eq_true rfl) (R_X10_run_0 hsm ?_)
  unfold V_X10_run_0
  intro F1 e1
  have v34 : F1 53 34 = F 53 34 := by rw [e1, fu_k (by decide)]
  refine ⟨by omega, _, pu_isIn hsm _ _ _, fun _ => ?_, fun q => absurd (by rw [v34]; exact ⟨n0, n1⟩) (bI_0.mp q)⟩
  intro F9 e9 F10 e10 F11 e11 F12 e12 F13 e13 F14 e14 F15 e15
  have fo : ∀ j : Nat, j ≠ 0 → (j < 34 ∨ 41 < j) → F15 53 j = F 53 j := fun j h1 h2 => by rw [e15, fu_k (by omega), e14, fu_k (by omega), e13, fu_k (by omega), e12, fu_k (by omega), e11, fu_k (by omega), e10, fu_k (by omega), e9, fu_k (by omega), e1, fu_k h1]
  have fc : ∀ c : Nat, c ≠ 53 → F15 c = F c := fun c h => by rw [e15, fu_row h, e14, fu_row h, e13, fu_row h, e12, fu_row h, e11, fu_row h, e10, fu_row h, e9, fu_row h, e1, fu_row h]
  have u41 : F15 53 41 = 0 := by rw [e15, fu_s]
  have u39 : F15 53 39 = 0 := by rw [e15, fu_k (by decide), e14, fu_s]
  have u38 : F15 53 38 = -1 := by rw [e15, fu_k (by decide), e14, fu_k (by decide), e13, fu_s]
  have u37 : F15 53 37 = 0 := by rw [e15, fu_k (by decide), e14, fu_k (by decide), e13, fu_k (by decide), e12, fu_s]
  have u36 : F15 53 36 = 0 := by rw [e15, fu_k (by decide), e14, fu_k (by decide), e13, fu_k (by decide), e12, fu_k (by decide), e11, fu_s]
  have u35 : F15 53 35 = n := by rw [e15, fu_k (by decide), e14, fu_k (by decide), e13, fu_k (by decide), e12, fu_k (by decide), e11, fu_k (by decide), e10, fu_s]
  have u34 : F15 53 34 = 0 := by rw [e15, fu_k (by decide), e14, fu_k (by decide), e13, fu_k (by decide), e12, fu_k (by decide), e11, fu_k (by decide), e10, fu_k (by decide), e9, fu_s]
  have pa : ∀ (F' : AF) (G' : AG), Fr41 F15 F' → (∀ c : Nat, c ≠ 73 → G' c = G c) → PA F F' G G' := fun F' G' fr gr => ⟨fun c hc => (fr.1 c hc).trans (fc c hc), fun j a b => (fr.2 j (by omega) (by omega) (by omega) (by omega)).trans (fo j a b), gr, (fr.2 34 (by decide) (by decide) (by decide) (by decide)).trans u34, (fr.2 39 (by decide) (by decide) (by decide) (by decide)).trans u39⟩
  refine mparse (by omega) hsm kw hb n0 (by omega) (fun F' G' K fr gr rs k30 e41 e37 e38 rows => hq1 F' G' K (pa F' G' fr gr) rs k30 e41 e37 e38 rows) (fun F' G' K w a fr gr rs w0 e37 e38 => hq0 F' G' K w a (pa F' G' fr gr) rs w0 e37 e38) 31 0 (by omega) F15 G u35 ⟨fun _ _ => rfl, fun _ _ _ _ _ => rfl⟩ (fun _ _ => rfl) ⟨⟨by omega, by omega, by omega, by omega⟩, u37, u38, fun _ => by rw [u36]; rfl⟩ (by omega) (by rw [u41]; rfl) (fun j hj => absurd hj (by omega)) (fun j hj => absurd hj (by omega))
end
