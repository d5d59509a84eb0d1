section
/-! HOLE -/
def FrH (F F' : AF) : Prop := (∀ c : Nat, c ≠ 53 → F' c = F c) ∧ ∀ f : Nat, f < 42 → F' 53 f = F 53 f
theorem frh_rf (F : AF) : FrH F F := ⟨fun _ _ => rfl, fun _ _ => rfl⟩
theorem frh_tr {F F1 F2 : AF} (h : FrH F F1) (k : FrH F1 F2) : FrH F F2 := ⟨fun c hc => (k.1 c hc).trans (h.1 c hc), fun f hf => (k.2 f hf).trans (h.2 f hf)⟩
theorem frh_fu {F F1 : AF} {k : Nat} {z : Int} (h : FrH F F1) (hk : 42 ≤ k) : FrH F (fu F1 53 k z) := ⟨fun c hc => by rw [fu_row hc]; exact h.1 c hc, fun f hf => by rw [fu_k (show f ≠ k by omega)]; exact h.2 f hf⟩
def arI (ex ey : Int → Int) (l j r j2 : Int) : Int := (ex (r + 1) - ex l) * (ey (j2 + 1) - ey j)
def Bt (F : AF) (a j l j2 : Int) : Prop := a < F 53 46 ∨ (a = F 53 46 ∧ (F 53 43 < j ∨ (F 53 43 = j ∧ (F 53 42 < l ∨ (F 53 42 = l ∧ F 53 45 ≤ j2)))))
theorem ok_tries {d : Nat} {S : AS} {F : AF} {G : AG} (hd : 2 ≤ d) (hsm : ShM S) (hx : MX F G) {l j r j2 : Int} (l0 : 0 ≤ l) (lr : l ≤ r) (r1 : r < G 55 0) (j0 : 0 ≤ j) (jj : j ≤ j2) (j1 : j2 < G 55 1) {Q : AQ} (hq : ∀ F' : AF, FrH F F' → (∀ a j l j2 : Int, Bt F a j l j2 → Bt F' a j l j2) → Bt F' (arI (me F G 0) (me F G 1) l j r j2) j l j2 → (F' = F ∨ (F' 53 42 = l ∧ F' 53 43 = j ∧ F' 53 44 = r ∧ F' 53 45 = j2 ∧ F' 53 46 = arI (me F G 0) (me F G 1) l j r j2)) → Q none S F' G) : Ok d MX10_tries [vR 53, vI l, vI j, vI r, vI j2] S F G Q := by
  have sx := sq_x hx
  have sy := sq_y hx
  have w1 := (hx 0 (by omega) (by omega)).2.2.2.1
  have w2 := (hx 1 (by omega) (by omega)).2.2.2.1
  have n1 := (hx 0 (by omega) (by omega)).2.1
  have n2 := (hx 1 (by omega) (by omega)).2.1
  rw [msz_0] at w1
  rw [msz_1] at w2
  have a1 := rise_le sx.2.2.2 (i := 0) (j := l) (by omega) l0 (by omega)
  have a2 := rise_lt sx.2.2.2 (i := l) (j := r + 1) l0 (by omega) (by omega)
  have a3 := rise_le sx.2.2.2 (i := r + 1) (j := G 55 0) (by omega) (by omega) (by omega)
  have b1 := rise_le sy.2.2.2 (i := 0) (j := j) (by omega) j0 (by omega)
  have b2 := rise_lt sy.2.2.2 (i := j) (j := j2 + 1) j0 (by omega) (by omega)
  have b3 := rise_le sy.2.2.2 (i := j2 + 1) (j := G 55 1) (by omega) (by omega) (by omega)
  rw [sx.2.1] at a1
  rw [sy.2.1] at b1
  rw [sx.2.2.1] at a3
  rw [sy.2.2.1] at b3
  have mm := mul_bd (a := me F G 0 (r + 1) - me F G 0 l) (b := me F G 1 (j2 + 1) - me F G 1 j) (A := 10000) (B := 10000) (by omega) (by omega) (by omega) (by omega)
  have eA : (me F G 0 (r + 1) - me F G 0 l) * (me F G 1 (j2 + 1) - me F G 1 j) = arI (me F G 0) (me F G 1) l j r j2 := rfl
  rw [eA] at mm
  have p1 := pu_edgeAt (d := d - 1) (S := S) (by omega) hsm hx (a := 0) (i := r + 1) (by omega) (by omega) (by omega) (by omega)
  have p2 := pu_edgeAt (d := d - 1) (S := S) (by omega) hsm hx (a := 0) (i := l) (by omega) (by omega) (by omega) (by omega)
  have p3 := pu_edgeAt (d := d - 1) (S := S) (by omega) hsm hx (a := 1) (i := j2 + 1) (by omega) (by omega) (by omega) (by omega)
  have p4 := pu_edgeAt (d := d - 1) (S := S) (by omega) hsm hx (a := 1) (i := j) (by omega) (by omega) (by omega) (by omega)
  refine ok_go rfl (by decide) (Nat.le_of_ble_eq_true rfl) (R_X10_tries_0 hsm ?_)
  unfold V_X10_tries_0
  refine ⟨by omega, by omega, _, p1, _, p2, by omega, by omega, _, p3, _, p4, by omega, by rw [eA]; omega, fun A ea => ?_⟩
  rw [eA] at ea
  rw [← ea] at hq mm
  have set' : ∀ s0 : Int, (F 53 46 < A ∨ (A = F 53 46 ∧ (j < F 53 43 ∨ (j = F 53 43 ∧ (l < F 53 42 ∨ (l = F 53 42 ∧ j2 < F 53 45)))))) → V_X10_tries_110 d S F G Q l j r j2 A s0 := by
    intro s0 c
    unfold V_X10_tries_110
    intro F1 e1 F2 e2 F3 e3 F4 e4 F5 e5
    have v46 : F5 53 46 = A := by rw [e5, fu_s]
    have v45 : F5 53 45 = j2 := by rw [e5, fu_k (by decide), e4, fu_s]
    have v44 : F5 53 44 = r := by rw [e5, fu_k (by decide), e4, fu_k (by decide), e3, fu_s]
    have v43 : F5 53 43 = j := by rw [e5, fu_k (by decide), e4, fu_k (by decide), e3, fu_k (by decide), e2, fu_s]
    have v42 : F5 53 42 = l := by rw [e5, fu_k (by decide), e4, fu_k (by decide), e3, fu_k (by decide), e2, fu_k (by decide), e1, fu_s]
    refine hq F5 ?_ (fun a' j' l' b' h => ?_) ?_ (Or.inr ⟨v42, v43, v44, v45, v46⟩)
    · rw [e5, e4, e3, e2, e1]
      exact frh_fu (frh_fu (frh_fu (frh_fu (frh_fu (frh_rf F) (by decide)) (by decide)) (by decide)) (by decide)) (by decide)
    · unfold Bt at *
      rw [v46, v45, v43, v42]
      omega
    · unfold Bt
      rw [v46, v45, v43, v42]
      omega
  have keep : ¬ (F 53 46 < A ∨ (A = F 53 46 ∧ (j < F 53 43 ∨ (j = F 53 43 ∧ (l < F 53 42 ∨ (l = F 53 42 ∧ j2 < F 53 45)))))) → Q none S F G := fun c => hq F (frh_rf F) (fun _ _ _ _ h => h) (by unfold Bt; omega) (Or.inl rfl)
  have yes : (j < F 53 43 ∨ (j = F 53 43 ∧ (l < F 53 42 ∨ (l = F 53 42 ∧ j2 < F 53 45)))) → V_X10_tries_77 d S F G Q l j r j2 A := by
    intro c
    unfold V_X10_tries_77 V_X10_tries_82
    exact ⟨fun y => keep (by omega), fun y => ⟨fun y2 => set' _ (by omega), fun y2 => ⟨fun _ => set' _ (by omega), fun z => absurd z (by decide)⟩⟩⟩
  have no : ¬ (j < F 53 43 ∨ (j = F 53 43 ∧ (l < F 53 42 ∨ (l = F 53 42 ∧ j2 < F 53 45)))) → V_X10_tries_81 d S F G Q l j r j2 A := by
    intro c
    unfold V_X10_tries_81 V_X10_tries_82
    exact ⟨fun y => keep (by omega), fun y => ⟨fun y2 => set' _ (by omega), fun y2 => ⟨fun z => absurd rfl z, fun _ => keep (by omega)⟩⟩⟩
  exact ⟨fun y => yes (by omega), fun y => ⟨fun y2 => no (by omega), fun y2 => ⟨fun y3 => yes (by omega), fun y3 => ⟨fun y4 => no (by omega), fun y4 => ⟨fun y5 => no (by omega), fun y5 => yes (by omega)⟩⟩⟩⟩⟩
def emM (G : AG) (i k : Int) : Prop := mu G (-1) i k = 0
def HRm (G : AG) (l j r j2 : Int) : Prop := HR (G 55 0) (G 55 1) (emM G) l j r j2
def BeH (F : AF) (G : AG) (P : Int → Int → Int → Prop) (F1 : AF) : Prop := (∀ l j r j2 : Int, HRm G l j r j2 → P j j2 r → Bt F1 (arI (me F G 0) (me F G 1) l j r j2) j l j2) ∧ (F1 53 46 = 0 ∨ (HRm G (F1 53 42) (F1 53 43) (F1 53 44) (F1 53 45) ∧ F1 53 46 = arI (me F G 0) (me F G 1) (F1 53 42) (F1 53 43) (F1 53 44) (F1 53 45)))
theorem beh_c {F : AF} {G : AG} {P P' : Int → Int → Int → Prop} {F1 : AF} (h : BeH F G P F1) (hp : ∀ l j r j2 : Int, HRm G l j r j2 → P' j j2 r → P j j2 r) : BeH F G P' F1 := ⟨fun l j r j2 a b => h.1 l j r j2 a (hp l j r j2 a b), h.2⟩
/-- the same rows, all columns from the first of the run -/
theorem bt_left {F1 : AF} {ex ey : Int → Int} {n n2 : Int} (rx : Rise ex n) (ry : Rise ey n2) {f l r j j2 : Int} (f0 : 0 ≤ f) (fl : f ≤ l) (lr : l ≤ r) (rn : r < n) (j0 : 0 ≤ j) (jj : j ≤ j2) (j1 : j2 < n2) (h : Bt F1 (arI ex ey f j r j2) j f j2) : Bt F1 (arI ex ey l j r j2) j l j2 := by
  have a1 := rise_le rx (i := f) (j := l) f0 fl (by omega)
  have a2 := rise_lt rx (i := l) (j := r + 1) (by omega) (by omega) (by omega)
  have b2 := rise_lt ry (i := j) (j := j2 + 1) j0 (by omega) (by omega)
  have a := area_in (w := ex (r + 1) - ex l) (h := ey (j2 + 1) - ey j) (w' := ex (r + 1) - ex f) (h' := ey (j2 + 1) - ey j) (by omega) (by omega) (by omega) (by omega)
  have e1 : (ex (r + 1) - ex l) * (ey (j2 + 1) - ey j) = arI ex ey l j r j2 := rfl
  have e2 : (ex (r + 1) - ex f) * (ey (j2 + 1) - ey j) = arI ex ey f j r j2 := rfl
  rw [e1, e2] at a
  obtain ⟨a3, a4⟩ := a
  by_cases e : arI ex ey l j r j2 = arI ex ey f j r j2
  · have e3 := (a4 e).1
    clear a4
    have lf : l = f := by
      rcases Int.lt_or_le f l with z | z
      · have := rise_lt rx f0 z (by omega : l ≤ n)
        omega
      · omega
    rw [lf]
    exact h
  · clear a4
    unfold Bt at *
    omega
abbrev Bar (G : AG) (J K i : Int) : Prop := ∀ k : Int, J ≤ k → k < K → emM G i k
theorem mcols {d : Nat} {S : AS} {F : AF} {G : AG} (hd : 3 ≤ d) (hsm : ShM S) (hx : MX F G) {w J J2 : Int} (J0 : 0 ≤ J) (JJ : J ≤ J2) (J1 : J2 < G 55 1) {G1 : AG} (g1 : ∀ c : Nat, c ≠ 74 → G1 c = G c) (bare : ∀ i : Int, 0 ≤ i → i < G 55 0 → (¬ G1 74 i = 0 ↔ Bar G J (J2 + 1) i)) {Q : AQ} {F1 : AF} (f1 : FrH F F1) (be : BeH F G (fun j j2 _ => j < J ∨ (j = J ∧ j2 < J2)) F1) (hq : ∀ F' : AF, FrH F F' → BeH F G (fun j j2 _ => j < J ∨ (j = J ∧ j2 < J2 + 1)) F' → Go d MX10_hole 65 [some (vR 53), some (vI w), some (vI J), some (vI (J2 + 1)), none, none] [] S F' G1 Q) : Go d MX10_hole 136 [some (vR 53), some (vI w), some (vI J), some (vI J2), some (vI 0), some (vI 0)] [] S F1 G1 Q := by
  have n1 := (hx 0 (by omega) (by omega)).2.1
  have n2 := (hx 1 (by omega) (by omega)).2.1
  have n0 := (hx 0 (by omega) (by omega)).1
  have s54 := g1 54 (by decide)
  have s55 := g1 55 (by decide)
  refine up_ind (α := AF × Int) (G 55 0 - 1) (fun c s => 0 ≤ c ∧ c ≤ G 55 0 ∧ FrH F s.1 ∧ BeH F G (fun j j2 r => j < J ∨ (j = J ∧ (j2 < J2 ∨ (j2 = J2 ∧ r < c)))) s.1 ∧ 0 ≤ s.2 ∧ s.2 ≤ c ∧ (∀ i : Int, s.2 ≤ i → i < c → Bar G J (J2 + 1) i) ∧ (s.2 = 0 ∨ ¬ Bar G J (J2 + 1) (s.2 - 1))) (fun c s => Go d MX10_hole 136 [some (vR 53), some (vI w), some (vI J), some (vI J2), some (vI s.2), some (vI c)] [] S s.1 G1 Q) ?_ ?_ 0 (F1, 0) ⟨by omega, by omega, f1, beh_c be (fun l j r j2 hr p => ?_), by omega, by omega, fun i i0 i1 => absurd i1 (by omega), Or.inl rfl⟩
  · rintro c ⟨F2, f⟩ ⟨c0, c1, fr, bs, f0, fc, run, edge⟩ hc ih
    dsimp only at fr bs f0 fc run edge ih
    have em := fun a => me_cg (F := F) (F' := F2) (G := G) (G' := G1) (fr.2 1 (by decide)) (fr.2 2 (by decide)) s54 s55 a
    have hx2 : MX F2 G1 := mx_cg (fr.2 1 (by decide)) (fr.2 2 (by decide)) s54 s55 hx
    refine R_X10_hole_136 hsm ?_
    unfold V_X10_hole_136
    rw [s55]
    refine ⟨fun y => absurd y (by omega), fun _ => ⟨c0, by omega, fun y => ⟨by omega, ?_⟩, fun y => ⟨by omega, fun x10 e10 => ?_⟩⟩⟩
    · have bc := (bare c c0 (by omega)).mp y
      have hrm : HRm G f J c J2 := ⟨f0, fc, by omega, J0, JJ, J1, fun i k i0 i1 k0 k1 => by
        by_cases z : i = c
        · rw [z]; exact bc k k0 (by omega)
        · exact run i i0 (by omega) k k0 (by omega)⟩
      refine ok_tries (by omega) hsm hx2 f0 fc (by rw [s55]; omega) J0 JJ (by rw [s55]; omega) (fun F' fr' imp bt alt => ⟨rfl, rfl, ?_⟩)
      rw [em, em] at bt alt
      unfold V_X10_hole_176
      refine ⟨by omega, ih (F', f) ⟨by omega, by omega, frh_tr fr fr', ⟨fun l j r j2 hr p => ?_, ?_⟩, f0, by omega, fun i i0 i1 => ?_, edge⟩⟩
      · by_cases old : j < J ∨ (j = J ∧ (j2 < J2 ∨ (j2 = J2 ∧ r < c)))
        · exact imp _ _ _ _ (bs.1 l j r j2 hr old)
        · have ej : j = J := by omega
          have ej2 : j2 = J2 := by omega
          have er : r = c := by omega
          subst ej ej2 er
          obtain ⟨h1, h2, h3, h4, h5, h6, h7⟩ := hr
          have fl : f ≤ l := by
            rcases Int.lt_or_le l f with z | z
            · exfalso
              rcases edge with e | e
              · omega
              · exact e (fun k k0 k1 => h7 (f - 1) k (by omega) (by omega) k0 (by omega))
            · exact z
          exact bt_left (sq_x hx).2.2.2 (sq_y hx).2.2.2 f0 fl h2 h3 h4 h5 h6 bt
      · rcases alt with e | ⟨e1, e2, e3, e4, e5⟩
        · dsimp only; rw [e]; exact bs.2
        · refine Or.inr ?_
          dsimp only
          rw [e1, e2, e3, e4, e5]
          exact ⟨hrm, rfl⟩
      · by_cases z : i = c
        · rw [z]; exact bc
        · exact run i i0 (by omega)
    · have nb : ¬ Bar G J (J2 + 1) c := fun z => (bare c c0 (by omega)).mpr z y
      unfold V_X10_hole_176
      refine ⟨by omega, ih (F2, x10) ⟨by omega, by omega, fr, beh_c bs (fun l j r j2 hr p => ?_), by dsimp only; omega, by dsimp only; omega, fun i i0 i1 => absurd i1 (by dsimp only at i0; omega), Or.inr ?_⟩⟩
      · by_cases old : j < J ∨ (j = J ∧ (j2 < J2 ∨ (j2 = J2 ∧ r < c)))
        · exact old
        · exfalso
          have ej : j = J := by omega
          have ej2 : j2 = J2 := by omega
          have er : r = c := by omega
          subst ej ej2 er
          exact nb (fun k k0 k1 => hr.2.2.2.2.2.2 r k hr.2.1 (Int.le_refl _) k0 (by omega))
      · dsimp only
        rw [e10, show c + 1 - 1 = c by omega]
        exact nb
  · rintro c ⟨F2, f⟩ ⟨c0, c1, fr, bs, f0, fc, run, edge⟩ hc
    dsimp only at fr bs
    refine R_X10_hole_136 hsm ?_
    unfold V_X10_hole_136
    rw [s55]
    refine ⟨fun _ => ⟨by omega, hq F2 fr (beh_c bs (fun l j r j2 hr p => ?_))⟩, fun y => absurd (by omega) y⟩
    have := hr.2.2.1
    omega
  · have := hr.1
    have := hr.2.1
    omega
/-- the row of bare columns -/
theorem mbare {d : Nat} {S : AS} {F : AF} {G : AG} (hd : 3 ≤ d) (hsm : ShM S) (hx : MX F G) (mba : MBA G) {w J J2 : Int} (J0 : 0 ≤ J) (JJ : J ≤ J2) (J1 : J2 < G 55 1) {G1 : AG} (g1 : ∀ c : Nat, c ≠ 74 → G1 c = G c) (bare : ∀ i : Int, 0 ≤ i → i < G 55 0 → (¬ G1 74 i = 0 ↔ Bar G J J2 i)) {Q : AQ} {F1 : AF} (hq : ∀ G' : AG, (∀ c : Nat, c ≠ 74 → G' c = G c) → (∀ i : Int, 0 ≤ i → i < G 55 0 → (¬ G' 74 i = 0 ↔ Bar G J (J2 + 1) i)) → Go d MX10_hole 136 [some (vR 53), some (vI w), some (vI J), some (vI J2), some (vI 0), some (vI 0)] [] S F1 G' Q) : Go d MX10_hole 78 [some (vR 53), some (vI w), some (vI J), some (vI J2), some (vI 0), none] [] S F1 G1 Q := by
  have n1 := (hx 0 (by omega) (by omega)).2.1
  have n2 := (hx 1 (by omega) (by omega)).2.1
  have n0 := (hx 0 (by omega) (by omega)).1
  have n74 : (sN S 74 : Int) = 48 := by rw [shm_n hsm 74 (by decide) (by decide)]; rfl
  refine up_ind (α := AG) (G 55 0 - 1) (fun c G2 => 0 ≤ c ∧ c ≤ G 55 0 ∧ (∀ c : Nat, c ≠ 74 → G2 c = G c) ∧ (∀ i : Int, 0 ≤ i → i < c → (¬ G2 74 i = 0 ↔ Bar G J (J2 + 1) i)) ∧ ∀ i : Int, c ≤ i → i < G 55 0 → (¬ G2 74 i = 0 ↔ Bar G J J2 i)) (fun c G2 => Go d MX10_hole 78 [some (vR 53), some (vI w), some (vI J), some (vI J2), some (vI c), none] [] S F1 G2 Q) ?_ ?_ 0 G1 ⟨by omega, by omega, g1, fun i i0 i1 => absurd i1 (by omega), bare⟩
  · rintro c G2 ⟨c0, c1, g2, lo, up⟩ hc ih
    have s55 := g2 55 (by decide)
    have s57 := g2 57 (by decide)
    have emu : mu G2 (-1) c J2 = mu G (-1) c J2 := by
      unfold mu
      rw [s57]
    have mb : MB G2 c J2 := by
      have := mba c J2 c0 (by omega) (by omega) J1
      unfold MB at *
      rw [s57]
      exact this
    have pi := pu_in (d := d - 1) (S := S) (F := F1) (by omega) hsm mb (g := -1) (by omega) (by omega) c0 (by omega) (by omega) (by omega)
    rw [emu] at pi
    have put : ∀ z : Int, (z = 0 ∨ z = 1) → (¬ z = 0 ↔ Bar G J (J2 + 1) c) → V_X10_hole_123 d S F1 G2 Q w J J2 c z c 74 := by
      intro z z01 hz
      unfold V_X10_hole_123
      refine ⟨c0, by omega, z01, fun G4 e4 => ⟨by omega, ih G4 ⟨by omega, by omega, fun k hk => by rw [e4, gu_row hk]; exact g2 k hk, fun i i0 i1 => ?_, fun i i0 i1 => ?_⟩⟩⟩
      · by_cases e : i = c
        · rw [e4, e, gu_s]; exact hz
        · rw [e4, gu_i e]; exact lo i i0 (by omega)
      · rw [e4, gu_i (by omega)]; exact up i (by omega) i1
    have upc := up c (Int.le_refl _) (by omega)
    refine R_X10_hole_78 hsm ?_
    unfold V_X10_hole_78
    rw [s55]
    refine ⟨fun y => absurd y (by omega), fun _ => ⟨c0, by omega, fun y => ?_, fun y => ⟨by omega, _, pi, fun y2 => ?_, fun y2 => ?_⟩⟩⟩
    · unfold V_X10_hole_122
      exact put 0 (Or.inl rfl) ⟨fun z => absurd rfl z, fun z => absurd y (upc.mpr (fun k k0 k1 => z k k0 (by omega)))⟩
    · unfold V_X10_hole_122
      exact put 0 (Or.inl rfl) ⟨fun z => absurd rfl z, fun z => absurd (z J2 JJ (by omega)) y2⟩
    · refine put 1 (Or.inr rfl) ⟨fun _ k k0 k1 => ?_, fun _ => by decide⟩
      by_cases e : k = J2
      · rw [e]; exact y2
      · exact upc.mp y k k0 (by omega)
  · rintro c G2 ⟨c0, c1, g2, lo, up⟩ hc
    have s55 := g2 55 (by decide)
    refine R_X10_hole_78 hsm ?_
    unfold V_X10_hole_78
    rw [s55]
    exact ⟨fun _ => hq G2 g2 (fun i i0 i1 => lo i i0 (by omega)), fun y => absurd (by omega) y⟩
/-- all rows with one top -/
theorem mrows {d : Nat} {S : AS} {F : AF} {G : AG} (hd : 3 ≤ d) (hsm : ShM S) (hx : MX F G) (mba : MBA G) {w J : Int} (J0 : 0 ≤ J) (J1 : J < G 55 1) {G1 : AG} (g1 : ∀ c : Nat, c ≠ 74 → G1 c = G c) {Q : AQ} {F1 : AF} (f1 : FrH F F1) (be : BeH F G (fun j _ _ => j < J) F1) (hq : ∀ (F' : AF) (G' : AG), FrH F F' → (∀ c : Nat, c ≠ 74 → G' c = G c) → BeH F G (fun j _ _ => j < J + 1) F' → Go d MX10_hole 28 [some (vR 53), some (vI w), some (vI (J + 1)), none, none, none] [] S F' G' Q) : Go d MX10_hole 40 [some (vR 53), some (vI w), some (vI J), some (vI 0), none, none] [] S F1 G1 Q := by
  have n1 := (hx 0 (by omega) (by omega)).2.1
  have n2 := (hx 1 (by omega) (by omega)).2.1
  have n0 := (hx 0 (by omega) (by omega)).1
  refine up_ind (α := AG) (G 55 0 - 1) (fun c G2 => 0 ≤ c ∧ c ≤ G 55 0 ∧ (∀ c : Nat, c ≠ 74 → G2 c = G c) ∧ ∀ i : Int, 0 ≤ i → i < c → G2 74 i = 1) (fun c G2 => Go d MX10_hole 40 [some (vR 53), some (vI w), some (vI J), some (vI c), none, none] [] S F1 G2 Q) ?_ ?_ 0 G1 ⟨by omega, by omega, g1, fun i i0 i1 => absurd i1 (by omega)⟩
  · rintro c G2 ⟨c0, c1, g2, lo⟩ hc ih
    refine R_X10_hole_40 hsm ?_
    unfold V_X10_hole_40
    rw [g2 55 (by decide)]
    refine ⟨fun y => absurd y (by omega), fun _ => ⟨c0, by omega, fun G3 e3 => ⟨by omega, ih G3 ⟨by omega, by omega, fun k hk => by rw [e3, gu_row hk]; exact g2 k hk, fun i i0 i1 => ?_⟩⟩⟩⟩
    by_cases e : i = c
    · rw [e3, e, gu_s]
    · rw [e3, gu_i e]; exact lo i i0 (by omega)
  · rintro c G2 ⟨c0, c1, g2, lo⟩ hc
    refine R_X10_hole_40 hsm ?_
    unfold V_X10_hole_40
    rw [g2 55 (by decide)]
    refine ⟨fun _ => ?_, fun y => absurd (by omega) y⟩
    refine up_ind (α := AF × AG) (G 55 1 - 1) (fun t s => J ≤ t ∧ t ≤ G 55 1 ∧ FrH F s.1 ∧ (∀ c : Nat, c ≠ 74 → s.2 c = G c) ∧ (∀ i : Int, 0 ≤ i → i < G 55 0 → (¬ s.2 74 i = 0 ↔ Bar G J t i)) ∧ BeH F G (fun j j2 _ => j < J ∨ (j = J ∧ j2 < t)) s.1) (fun t s => Go d MX10_hole 65 [some (vR 53), some (vI w), some (vI J), some (vI t), none, none] [] S s.1 s.2 Q) ?_ ?_ J (F1, G2) ⟨Int.le_refl _, by omega, f1, g2, fun i i0 i1 => ?_, beh_c be (fun l j r j2 hr p => ?_)⟩
    · rintro t ⟨F2, G3⟩ ⟨t0, t1, fr, g3, br, bs⟩ ht ih
      dsimp only at fr g3 br bs ih
      refine R_X10_hole_65 hsm ?_
      unfold V_X10_hole_65
      dsimp only
      rw [g3 55 (by decide)]
      refine ⟨fun y => absurd y (by omega), fun _ => ?_⟩
      refine mbare hd hsm hx mba J0 t0 (by omega) g3 br (fun G4 g4 br4 => ?_)
      refine mcols hd hsm hx J0 t0 (by omega) g4 br4 fr bs (fun F' fr' be' => ?_)
      exact ih (F', G4) ⟨by omega, by omega, fr', g4, br4, be'⟩
    · rintro t ⟨F2, G3⟩ ⟨t0, t1, fr, g3, br, bs⟩ ht
      dsimp only at fr g3 br bs
      refine R_X10_hole_65 hsm ?_
      unfold V_X10_hole_65
      dsimp only
      rw [g3 55 (by decide)]
      refine ⟨fun _ => ⟨by omega, hq F2 G3 fr g3 (beh_c bs (fun l j r j2 hr p => ?_))⟩, fun y => absurd (by omega) y⟩
      have := hr.2.2.2.2.2.1
      omega
    · have l1 := lo i i0 (by omega)
      dsimp only
      rw [l1]
      exact ⟨fun _ k k0 k1 => absurd k1 (by omega), fun _ => by decide⟩
    · have := hr.2.2.2.2.1
      omega
def PHo (w : Int) (F : AF) (G : AG) (z : Int) : Prop := (¬ (0 ≤ w ∧ w ≤ 4) ∧ z = -2) ∨ ((0 ≤ w ∧ w ≤ 4) ∧ (((∀ l j r j2 : Int, ¬ HRm G l j r j2) ∧ z = -1) ∨ ∃ x1 y1 x2 y2 m : Int, HB (me F G 0) (me F G 1) (G 55 0) (G 55 1) (emM G) x1 y1 x2 y2 m ∧ z = if w = 0 then x1 else if w = 1 then y1 else if w = 2 then x2 else if w = 3 then y2 else m))
theorem beh_hb {F : AF} {G : AG} (hx : MX F G) {F1 : AF} (h : BeH F G (fun _ _ _ => True) F1) (n : ¬ F1 53 46 = 0) : HRm G (F1 53 42) (F1 53 43) (F1 53 44) (F1 53 45) ∧ HB (me F G 0) (me F G 1) (G 55 0) (G 55 1) (emM G) (me F G 0 (F1 53 42)) (me F G 1 (F1 53 43)) (me F G 0 (F1 53 44 + 1) - 1) (me F G 1 (F1 53 45 + 1) - 1) (F1 53 46) := by
  have rx := (sq_x hx).2.2.2
  have ry := (sq_y hx).2.2.2
  have ar : ∀ l j r j2 : Int, (me F G 0 (r + 1) - 1 - me F G 0 l + 1) * (me F G 1 (j2 + 1) - 1 - me F G 1 j + 1) = arI (me F G 0) (me F G 1) l j r j2 := fun l j r j2 => by
    unfold arI
    rw [show me F G 0 (r + 1) - 1 - me F G 0 l + 1 = me F G 0 (r + 1) - me F G 0 l by omega, show me F G 1 (j2 + 1) - 1 - me F G 1 j + 1 = me F G 1 (j2 + 1) - me F G 1 j by omega]
  obtain ⟨all, alt⟩ := h
  rcases alt with e | ⟨hr, em⟩
  · exact absurd e n
  · refine ⟨hr, ⟨_, _, _, _, hr, rfl, rfl, rfl, rfl⟩, by rw [ar]; exact em, fun l j r j2 k => ?_⟩
    rw [ar]
    have b := all l j r j2 k trivial
    obtain ⟨h1, h2, h3, h4, h5, h6, -⟩ := hr
    obtain ⟨k1, k2, k3, k4, k5, k6, -⟩ := k
    rcases b with b | ⟨b, c⟩
    · exact Or.inl b
    · refine Or.inr ⟨b, ?_⟩
      rcases c with c | ⟨c1, c⟩
      · exact Or.inl (rise_lt ry h4 c (by omega))
      · refine Or.inr ⟨by rw [c1], ?_⟩
        rcases c with c | ⟨c2, c⟩
        · exact Or.inl (rise_lt rx h1 c (by omega))
        · refine Or.inr ⟨by rw [c2], ?_⟩
          have := rise_le ry (i := F1 53 45 + 1) (j := j2 + 1) (by omega) (by omega) (by omega)
          omega
theorem beh_no {F : AF} {G : AG} (hx : MX F G) {F1 : AF} (h : BeH F G (fun _ _ _ => True) F1) (n : F1 53 46 = 0) : ∀ l j r j2 : Int, ¬ HRm G l j r j2 := by
  intro l j r j2 k
  have b := h.1 l j r j2 k trivial
  obtain ⟨k1, k2, k3, k4, k5, k6, -⟩ := k
  have a2 := rise_lt (sq_x hx).2.2.2 (i := l) (j := r + 1) (by omega) (by omega) (by omega)
  have b2 := rise_lt (sq_y hx).2.2.2 (i := j) (j := j2 + 1) (by omega) (by omega) (by omega)
  have p : 0 < arI (me F G 0) (me F G 1) l j r j2 := Int.mul_pos (by omega) (by omega)
  unfold Bt at b
  omega
theorem frh_scr {F F' : AF} {G G' : AG} (h : FrH F F') (g : ∀ c : Nat, c ≠ 74 → G' c = G c) : Scr F F' G G' := ⟨fun c _ _ _ _ _ _ _ h1 => h.1 c h1, ⟨by rw [h.1 46 (by decide)], by rw [h.1 46 (by decide)], by rw [h.1 46 (by decide)]⟩, ⟨h.2 1 (by decide), h.2 2 (by decide), h.2 3 (by decide), h.2 11 (by decide), h.2 14 (by decide), h.2 34 (by decide), h.2 37 (by decide), h.2 38 (by decide), h.2 39 (by decide)⟩, fun c _ _ _ _ _ _ _ _ _ _ h1 => g c (by omega)⟩
theorem mhole {d : Nat} {S : AS} {F : AF} {G : AG} (hd : 3 ≤ d) (hsm : ShM S) (hx : MX F G) (mba : MBA G) (z46 : F 53 46 = 0) {w : Int} (w0 : 0 ≤ w) (w1 : w ≤ 4) {Q : AQ} (hq : ∀ (F' : AF) (G' : AG) (z : Int), Scr F F' G G' → PHo w F G z → Q (some (vJ z)) S F' G') : Go d MX10_hole 28 [some (vR 53), some (vI w), some (vI 0), none, none, none] [] S F G Q := by
  have n1 := (hx 0 (by omega) (by omega)).2.1
  have n2 := (hx 1 (by omega) (by omega)).2.1
  have n0 := (hx 0 (by omega) (by omega)).1
  have n3 := (hx 1 (by omega) (by omega)).1
  refine up_ind (α := AF × AG) (G 55 1 - 1) (fun t s => 0 ≤ t ∧ t ≤ G 55 1 ∧ FrH F s.1 ∧ (∀ c : Nat, c ≠ 74 → s.2 c = G c) ∧ BeH F G (fun j _ _ => j < t) s.1) (fun t s => Go d MX10_hole 28 [some (vR 53), some (vI w), some (vI t), none, none, none] [] S s.1 s.2 Q) ?_ ?_ 0 (F, G) ⟨by omega, by omega, frh_rf F, fun _ _ => rfl, fun l j r j2 hr p => ?_, Or.inl z46⟩
  · rintro t ⟨F1, G1⟩ ⟨t0, t1, fr, g1, bs⟩ ht ih
    dsimp only at fr g1 bs ih
    refine R_X10_hole_28 hsm ?_
    unfold V_X10_hole_28
    dsimp only
    rw [g1 55 (by decide)]
    refine ⟨fun y => absurd y (by omega), fun _ => ?_⟩
    exact mrows hd hsm hx mba t0 (by omega) g1 fr bs (fun F' G' fr' g' be' => ih (F', G') ⟨by omega, by omega, fr', g', be'⟩)
  · rintro t ⟨F1, G1⟩ ⟨t0, t1, fr, g1, bs⟩ ht
    dsimp only at fr g1 bs
    have et : t = G 55 1 := by omega
    have bs' : BeH F G (fun _ _ _ => True) F1 := beh_c bs (fun l j r j2 hr _ => by
      have h5 := hr.2.2.2.2.1
      have h6 := hr.2.2.2.2.2.1
      omega)
    have s54 := g1 54 (by decide)
    have s55 := g1 55 (by decide)
    have em := fun a => me_cg (F := F) (F' := F1) (G := G) (G' := G1) (fr.2 1 (by decide)) (fr.2 2 (by decide)) s54 s55 a
    have hx2 : MX F1 G1 := mx_cg (fr.2 1 (by decide)) (fr.2 2 (by decide)) s54 s55 hx
    have k := frh_scr fr g1
    have nn : (G1 55 0 = G 55 0) ∧ G1 55 1 = G 55 1 := ⟨by rw [s55], by rw [s55]⟩
    refine R_X10_hole_28 hsm ?_
    unfold V_X10_hole_28
    dsimp only
    rw [s55]
    refine ⟨fun _ => ⟨fun y => ?_, fun y => ?_⟩, fun y => absurd (by omega) y⟩
    · obtain ⟨hr, hb⟩ := beh_hb hx bs' y
      have fin := hq F1 G1 _ k (Or.inr ⟨⟨w0, w1⟩, Or.inr ⟨_, _, _, _, _, hb, rfl⟩⟩)
      obtain ⟨h1, h2, h3, h4, h5, h6, -⟩ := hr
      have sx := sq_x hx
      have sy := sq_y hx
      have u1 := (hx 0 (by omega) (by omega)).2.2.2.1
      have u2 := (hx 1 (by omega) (by omega)).2.2.2.1
      rw [msz_0] at u1
      rw [msz_1] at u2
      have a1 := rise_le sx.2.2.2 (i := 0) (j := F1 53 44 + 1) (by omega) (by omega) (by omega)
      have a2 := rise_le sx.2.2.2 (i := F1 53 44 + 1) (j := G 55 0) (by omega) (by omega) (by omega)
      have b1 := rise_le sy.2.2.2 (i := 0) (j := F1 53 45 + 1) (by omega) (by omega) (by omega)
      have b2 := rise_le sy.2.2.2 (i := F1 53 45 + 1) (j := G 55 1) (by omega) (by omega) (by omega)
      rw [sx.2.1] at a1
      rw [sx.2.2.1] at a2
      rw [sy.2.1] at b1
      rw [sy.2.2.1] at b2
      have p1 := pu_edgeAt (d := d - 1) (S := S) (by omega) hsm hx2 (a := 0) (i := F1 53 42) (by omega) (by omega) (by omega) (by omega)
      have p2 := pu_edgeAt (d := d - 1) (S := S) (by omega) hsm hx2 (a := 1) (i := F1 53 43) (by omega) (by omega) (by omega) (by omega)
      have p3 := pu_edgeAt (d := d - 1) (S := S) (by omega) hsm hx2 (a := 0) (i := F1 53 44 + 1) (by omega) (by omega) (by omega) (by omega)
      have p4 := pu_edgeAt (d := d - 1) (S := S) (by omega) hsm hx2 (a := 1) (i := F1 53 45 + 1) (by omega) (by omega) (by omega) (by omega)
      rw [em] at p1 p2 p3 p4
      refine ⟨fun z0 => ⟨fun z1 => ⟨fun z2 => ⟨fun z3 => ?_, fun z3 => ⟨by omega, by omega, _, p4, by omega, ?_⟩⟩, fun z2 => ⟨by omega, by omega, _, p3, by omega, ?_⟩⟩, fun z1 => ⟨by omega, _, p2, ?_⟩⟩, fun z0 => ⟨by omega, _, p1, ?_⟩⟩
      · rw [if_neg z0, if_neg z1, if_neg z2, if_neg z3] at fin; exact fin
      · rw [if_neg z0, if_neg z1, if_neg z2, if_pos z3] at fin; exact fin
      · rw [if_neg z0, if_neg z1, if_pos z2] at fin; exact fin
      · rw [if_neg z0, if_pos z1] at fin; exact fin
      · rw [if_pos z0] at fin; exact fin
    · exact hq F1 G1 _ k (Or.inr ⟨⟨w0, w1⟩, Or.inl ⟨beh_no hx bs' y, rfl⟩⟩)
  · have := hr.2.2.2.1
    omega
end
