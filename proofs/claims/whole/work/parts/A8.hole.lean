section
/-! HOLE -/
def FrH (F F' : AF) : Prop := (∀ c : Nat, c ≠ 53 → F' c = F c) ∧ ∀ f : Nat, f < 42 → F' 53 f = F 53 f
theorem frh_rf (F : AF) : FrH F F := ⟨fun _ _ => rfl, fun _ _ => rfl⟩
theorem frh_tr {F F1 F2 : AF} (h : FrH F F1) (k : FrH F1 F2) : FrH F F2 := ⟨fun c hc => (k.1 c hc).trans (h.1 c hc), fun f hf => (k.2 f hf).trans (h.2 f hf)⟩
theorem frh_fu {F F1 : AF} {k : Nat} {z : Int} (h : FrH F F1) (hk : 42 ≤ k) : FrH F (fu F1 53 k z) := ⟨fun c hc => by rw [fu_row hc]; exact h.1 c hc, fun f hf => by rw [fu_k (show f ≠ k by omega)]; exact h.2 f hf⟩
def arI (ex ey : Int → Int) (l j r j2 : Int) : Int := (ex (r + 1) - ex l) * (ey (j2 + 1) - ey j)
def Bt (F : AF) (a j l j2 : Int) : Prop := a < F 53 46 ∨ (a = F 53 46 ∧ (F 53 43 < j ∨ (F 53 43 = j ∧ (F 53 42 < l ∨ (F 53 42 = l ∧ F 53 45 ≤ j2)))))
theorem ok_tries {d : Nat} {S : AS} {F : AF} {G : AG} (hd : 2 ≤ d) (hsm : ShM S) (hx : MX F G) {l j r j2 : Int} (l0 : 0 ≤ l) (lr : l ≤ r) (r1 : r < G 55 0) (j0 : 0 ≤ j) (jj : j ≤ j2) (j1 : j2 < G 55 1) {Q : AQ} (hq : ∀ F' : AF, FrH F F' → (∀ a j l j2 : Int, Bt F a j l j2 → Bt F' a j l j2) → Bt F' (arI (me F G 0) (me F G 1) l j r j2) j l j2 → (F' = F ∨ (F' 53 42 = l ∧ F' 53 43 = j ∧ F' 53 44 = r ∧ F' 53 45 = j2 ∧ F' 53 46 = arI (me F G 0) (me F G 1) l j r j2)) → Q none S F' G) : Ok d MX10_tries [vR 53, vI l, vI j, vI r, vI j2] S F G Q := by
  have sx := sq_x hx
  have sy := sq_y hx
  have w1 := (hx 0 (by omega) (by omega)).2.2.2.1
  have w2 := (hx 1 (by omega) (by omega)).2.2.2.1
  have n1 := (hx 0 (by omega) (by omega)).2.1
  have n2 := (hx 1 (by omega) (by omega)).2.1
  rw [msz_0] at w1
  rw [msz_1] at w2
  have a1 := rise_le sx.2.2.2 (i := 0) (j := l) (by omega) l0 (by omega)
  have a2 := rise_lt sx.2.2.2 (i := l) (j := r + 1) l0 (by omega) (by omega)
  have a3 := rise_le sx.2.2.2 (i := r + 1) (j := G 55 0) (by omega) (by omega) (by omega)
  have b1 := rise_le sy.2.2.2 (i := 0) (j := j) (by omega) j0 (by omega)
  have b2 := rise_lt sy.2.2.2 (i := j) (j := j2 + 1) j0 (by omega) (by omega)
  have b3 := rise_le sy.2.2.2 (i := j2 + 1) (j := G 55 1) (by omega) (by omega) (by omega)
  rw [sx.2.1] at a1
  rw [sy.2.1] at b1
  rw [sx.2.2.1] at a3
  rw [sy.2.2.1] at b3
  have mm := mul_bd (a := me F G 0 (r + 1) - me F G 0 l) (b := me F G 1 (j2 + 1) - me F G 1 j) (A := 10000) (B := 10000) (by omega) (by omega) (by omega) (by omega)
  have eA : (me F G 0 (r + 1) - me F G 0 l) * (me F G 1 (j2 + 1) - me F G 1 j) = arI (me F G 0) (me F G 1) l j r j2 := rfl
  rw [eA] at mm
  have p1 := pu_edgeAt (d := d - 1) (S := S) (by omega) hsm hx (a := 0) (i := r + 1) (by omega) (by omega) (by omega) (by omega)
  have p2 := pu_edgeAt (d := d - 1) (S := S) (by omega) hsm hx (a := 0) (i := l) (by omega) (by omega) (by omega) (by omega)
  have p3 := pu_edgeAt (d := d - 1) (S := S) (by omega) hsm hx (a := 1) (i := j2 + 1) (by omega) (by omega) (by omega) (by omega)
  have p4 := pu_edgeAt (d := d - 1) (S := S) (by omega) hsm hx (a := 1) (i := j) (by omega) (by omega) (by omega) (by omega)
  refine ok_go rfl (by decide) (Nat.le_of_ble_eq_true rfl) (R_X10_tries_0 hsm ?_)
  unfold V_X10_tries_0
  refine ⟨by omega, by omega, _, p1, _, p2, by omega, by omega, _, p3, _, p4, by omega, by rw [eA]; omega, fun A ea => ?_⟩
  rw [eA] at ea
  rw [← ea] at hq mm
  have set' : ∀ s0 : Int, (F 53 46 < A ∨ (A = F 53 46 ∧ (j < F 53 43 ∨ (j = F 53 43 ∧ (l < F 53 42 ∨ (l = F 53 42 ∧ j2 < F 53 45)))))) → V_X10_tries_110 d S F G Q l j r j2 A s0 := by
    intro s0 c
    unfold V_X10_tries_110
    intro F1 e1 F2 e2 F3 e3 F4 e4 F5 e5
    have v46 : F5 53 46 = A := by rw [e5, fu_s]
    have v45 : F5 53 45 = j2 := by rw [e5, fu_k (by decide), e4, fu_s]
    have v44 : F5 53 44 = r := by rw [e5, fu_k (by decide), e4, fu_k (by decide), e3, fu_s]
    have v43 : F5 53 43 = j := by rw [e5, fu_k (by decide), e4, fu_k (by decide), e3, fu_k (by decide), e2, fu_s]
    have v42 : F5 53 42 = l := by rw [e5, fu_k (by decide), e4, fu_k (by decide), e3, fu_k (by decide), e2, fu_k (by decide), e1, fu_s]
    refine hq F5 ?_ (fun a' j' l' b' h => ?_) ?_ (Or.inr ⟨v42, v43, v44, v45, v46⟩)
    · rw [e5, e4, e3, e2, e1]
      exact frh_fu (frh_fu (frh_fu (frh_fu (frh_fu (frh_rf F) (by decide)) (by decide)) (by decide)) (by decide)) (by decide)
    · unfold Bt at *
      rw [v46, v45, v43, v42]
      omega
    · unfold Bt
      rw [v46, v45, v43, v42]
      omega
  have keep : ¬ (F 53 46 < A ∨ (A = F 53 46 ∧ (j < F 53 43 ∨ (j = F 53 43 ∧ (l < F 53 42 ∨ (l = F 53 42 ∧ j2 < F 53 45)))))) → Q none S F G := fun c => hq F (frh_rf F) (fun _ _ _ _ h => h) (by unfold Bt; omega) (Or.inl rfl)
  have yes : (j < F 53 43 ∨ (j = F 53 43 ∧ (l < F 53 42 ∨ (l = F 53 42 ∧ j2 < F 53 45)))) → V_X10_tries_77 d S F G Q l j r j2 A := by
    intro c
    unfold V_X10_tries_77 V_X10_tries_82
    exact ⟨fun y => keep (by omega), fun y => ⟨fun y2 => set' _ (by omega), fun y2 => ⟨fun _ => set' _ (by omega), fun z => absurd z (by decide)⟩⟩⟩
  have no : ¬ (j < F 53 43 ∨ (j = F 53 43 ∧ (l < F 53 42 ∨ (l = F 53 42 ∧ j2 < F 53 45)))) → V_X10_tries_81 d S F G Q l j r j2 A := by
    intro c
    unfold V_X10_tries_81 V_X10_tries_82
    exact ⟨fun y => keep (by omega), fun y => ⟨fun y2 => set' _ (by omega), fun y2 => ⟨fun z => absurd rfl z, fun _ => keep (by omega)⟩⟩⟩
  exact ⟨fun y => yes (by omega), fun y => ⟨fun y2 => no (by omega), fun y2 => ⟨fun y3 => yes (by omega), fun y3 => ⟨fun y4 => no (by omega), fun y4 => ⟨fun y5 => no (by omega), fun y5 => yes (by omega)⟩⟩⟩⟩⟩
def emM (G : AG) (i k : Int) : Prop := mu G (-1) i k = 0
def HRm (G : AG) (l j r j2 : Int) : Prop := HR (G 55 0) (G 55 1) (emM G) l j r j2
def BeH (F : AF) (G : AG) (P : Int → Int → Int → Prop) (F1 : AF) : Prop := (∀ l j r j2 : Int, HRm G l j r j2 → P j j2 r → Bt F1 (arI (me F G 0) (me F G 1) l j r j2) j l j2) ∧ (F1 53 46 = 0 ∨ (HRm G (F1 53 42) (F1 53 43) (F1 53 44) (F1 53 45) ∧ F1 53 46 = arI (me F G 0) (me F G 1) (F1 53 42) (F1 53 43) (F1 53 44) (F1 53 45)))
theorem beh_c {F : AF} {G : AG} {P P' : Int → Int → Int → Prop} {F1 : AF} (h : BeH F G P F1) (hp : ∀ l j r j2 : Int, HRm G l j r j2 → P' j j2 r → P j j2 r) : BeH F G P' F1 := ⟨fun l j r j2 a b => h.1 l j r j2 a (hp l j r j2 a b), h.2⟩
/-- the same rows, all columns from the first of the run -/
theorem bt_left {F1 : AF} {ex ey : Int → Int} {n n2 : Int} (rx : Rise ex n) (ry : Rise ey n2) {f l r j j2 : Int} (f0 : 0 ≤ f) (fl : f ≤ l) (lr : l ≤ r) (rn : r < n) (j0 : 0 ≤ j) (jj : j ≤ j2) (j1 : j2 < n2) (h : Bt F1 (arI ex ey f j r j2) j f j2) : Bt F1 (arI ex ey l j r j2) j l j2 := by
  have a1 := rise_le rx (i := f) (j := l) f0 fl (by omega)
  have a2 := rise_lt rx (i := l) (j := r + 1) (by omega) (by omega) (by omega)
  have b2 := rise_lt ry (i := j) (j := j2 + 1) j0 (by omega) (by omega)
  have a := area_in (w := ex (r + 1) - ex l) (h := ey (j2 + 1) - ey j) (w' := ex (r + 1) - ex f) (h' := ey (j2 + 1) - ey j) (by omega) (by omega) (by omega) (by omega)
  have e1 : (ex (r + 1) - ex l) * (ey (j2 + 1) - ey j) = arI ex ey l j r j2 := rfl
  have e2 : (ex (r + 1) - ex f) * (ey (j2 + 1) - ey j) = arI ex ey f j r j2 := rfl
  rw [e1, e2] at a
  obtain ⟨a3, a4⟩ := a
  by_cases e : arI ex ey l j r j2 = arI ex ey f j r j2
  · have e3 := (a4 e).1
    clear a4
    have lf : l = f := by
      rcases Int.lt_or_le f l with z | z
      · have := rise_lt rx f0 z (by omega : l ≤ n)
        omega
      · omega
    rw [lf]
    exact h
  · clear a4
    unfold Bt at *
    omega
abbrev Bar (G : AG) (J K i : Int) : Prop := ∀ k : Int, J ≤ k → k < K → emM G i k
theorem mcols {d : Nat} {S : AS} {F : AF} {G : AG} (hd : 3 ≤ d) (hsm : ShM S) (hx : MX F G) {w J J2 : Int} (J0 : 0 ≤ J) (JJ : J ≤ J2) (J1 : J2 < G 55 1) {G1 : AG} (g1 : ∀ c : Nat, c ≠ 74 → G1 c = G c) (bare : ∀ i : Int, 0 ≤ i → i < G 55 0 → (¬ G1 74 i = 0 ↔ Bar G J (J2 + 1) i)) {Q : AQ} {F1 : AF} (f1 : FrH F F1) (be : BeH F G (fun j j2 _ => j < J ∨ (j = J ∧ j2 < J2)) F1) (hq : ∀ F' : AF, FrH F F' → BeH F G (fun j j2 _ => j < J ∨ (j = J ∧ j2 < J2 + 1)) F' → Go d MX10_hole 65 [some (vR 53), some (vI w), some (vI J), some (vI (J2 + 1)), none, none] [] S F' G1 Q) : Go d MX10_hole 136 [some (vR 53), some (vI w), some (vI J), some (vI J2), some (vI 0), some (vI 0)] [] S F1 G1 Q := by
  have n1 := (hx 0 (by omega) (by omega)).2.1
  have n2 := (hx 1 (by omega) (by omega)).2.1
  have n0 := (hx 0 (by omega) (by omega)).1
  have s54 := g1 54 (by decide)
  have s55 := g1 55 (by decide)
  refine up_ind (α := AF × Int) (G 55 0 - 1) (fun c s => 0 ≤ c ∧ c ≤ G 55 0 ∧ FrH F s.1 ∧ BeH F G (fun j j2 r => j < J ∨ (j = J ∧ (j2 < J2 ∨ (j2 = J2 ∧ r < c)))) s.1 ∧ 0 ≤ s.2 ∧ s.2 ≤ c ∧ (∀ i : Int, s.2 ≤ i → i < c → Bar G J (J2 + 1) i) ∧ (s.2 = 0 ∨ ¬ Bar G J (J2 + 1) (s.2 - 1))) (fun c s => Go d MX10_hole 136 [some (vR 53), some (vI w), some (vI J), some (vI J2), some (vI s.2), some (vI c)] [] S s.1 G1 Q) ?_ ?_ 0 (F1, 0) ⟨by omega, by omega, f1, beh_c be (fun l j r j2 hr p => ?_), by omega, by omega, fun i i0 i1 => absurd i1 (by omega), Or.inl rfl⟩
  · rintro c ⟨F2, f⟩ ⟨c0, c1, fr, bs, f0, fc, run, edge⟩ hc ih
    dsimp only at fr bs f0 fc run edge ih
    have em := fun a => me_cg (F := F) (F' := F2) (G := G) (G' := G1) (fr.2 1 (by decide)) (fr.2 2 (by decide)) s54 s55 a
    have hx2 : MX F2 G1 := mx_cg (fr.2 1 (by decide)) (fr.2 2 (by decide)) s54 s55 hx
    refine R_X10_hole_136 hsm ?_
    unfold V_X10_hole_136
    rw [s55]
    refine ⟨fun y => absurd y (by omega), fun _ => ⟨c0, by omega, fun y => ⟨by omega, ?_⟩, fun y => ⟨by omega, fun x10 e10 => ?_⟩⟩⟩
    · have bc := (bare c c0 (by omega)).mp y
      have hrm : HRm G f J c J2 := ⟨f0, fc, by omega, J0, JJ, J1, fun i k i0 i1 k0 k1 => by
        by_cases z : i = c
        · rw [z]; exact bc k k0 (by omega)
        · exact run i i0 (by omega) k k0 (by omega)⟩
      refine ok_tries (by omega) hsm hx2 f0 fc (by rw [s55]; omega) J0 JJ (by rw [s55]; omega) (fun F' fr' imp bt alt => ⟨rfl, rfl, ?_⟩)
      rw [em, em] at bt alt
      unfold V_X10_hole_176
      refine ⟨by omega, ih (F', f) ⟨by omega, by omega, frh_tr fr fr', ⟨fun l j r j2 hr p => ?_, ?_⟩, f0, by omega, fun i i0 i1 => ?_, edge⟩⟩
      · by_cases old : j < J ∨ (j = J ∧ (j2 < J2 ∨ (j2 = J2 ∧ r < c)))
        · exact imp _ _ _ _ (bs.1 l j r j2 hr old)
        · have ej : j = J := by omega
          have ej2 : j2 = J2 := by omega
          have er : r = c := by omega
          subst ej ej2 er
          obtain ⟨h1, h2, h3, h4, h5, h6, h7⟩ := hr
          have fl : f ≤ l := by
            rcases Int.lt_or_le l f with z | z
            · exfalso
              rcases edge with e | e
              · omega
              · exact e (fun k k0 k1 => h7 (f - 1) k (by omega) (by omega) k0 (by omega))
            · exact z
          exact bt_left (sq_x hx).2.2.2 (sq_y hx).2.2.2 f0 fl h2 h3 h4 h5 h6 bt
      · rcases alt with e | ⟨e1, e2, e3, e4, e5⟩
        · dsimp only; rw [e]; exact bs.2
        · refine Or.inr ?_
          dsimp only
          rw [e1, e2, e3, e4, e5]
          exact ⟨hrm, rfl⟩
      · by_cases z : i = c
        · rw [z]; exact bc
        · exact run i i0 (by omega)
    · have nb : ¬ Bar G J (J2 + 1) c := fun z => (bare c c0 (by omega)).mpr z y
      unfold V_X10_hole_176
      refine ⟨by omega, ih (F2, x10) ⟨by omega, by omega, fr, beh_c bs (fun l j r j2 hr p => ?_), by dsimp only; omega, by dsimp only; omega, fun i i0 i1 => absurd i1 (by dsimp only at i0; omega), Or.inr ?_⟩⟩
      · by_cases old : j < J ∨ (j = J ∧ (j2 < J2 ∨ (j2 = J2 ∧ r < c)))
        · exact old
        · exfalso
          have ej : j = J := by omega
          have ej2 : j2 = J2 := by omega
          have er : r = c := by omega
          subst ej ej2 er
          exact nb (fun k k0 k1 => hr.2.2.2.2.2.2 r k hr.2.1 (Int.le_refl _) k0 (by omega))
      · dsimp only
        rw [e10, show c + 1 - 1 = c by omega]
        exact nb
  · rintro c ⟨F2, f⟩ ⟨c0, c1, fr, bs, f0, fc, run, edge⟩ hc
    dsimp only at fr bs
    refine R_X10_hole_136 hsm ?_
    unfold V_X10_hole_136
    rw [s55]
    refine ⟨fun _ => ⟨by omega, hq F2 fr (beh_c bs (fun l j r j2 hr p => ?_))⟩, fun y => absurd (by omega) y⟩
    have := hr.2.2.1
    omega
  · have := hr.1
    have := hr.2.1
    omega
end
