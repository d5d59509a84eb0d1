/-! THE TRIAL OF AN ACT, by fields -/
theorem ok_startTrial {d : Nat} {S : AS} {F : AF} {G : AG} (hd : 2 ≤ d) (hsh : ShC S) (hc : CC F G) (h6 : CO F G 6 48) (h13 : CO F G 13 48) {g : Int} (hg : 0 ≤ g) (hg2 : g ≤ 2) {Q : AQ} (hq : ∀ G', (∀ c : Nat, c ≠ 8 → c ≠ 15 → c ≠ 19 → G' c = G c) → (∀ i : Int, 0 ≤ i → i < F 6 1 → G' 8 i = cb F G 4 (G 7 i)) → (∀ j : Int, 0 ≤ j → j < F 13 1 → G' 15 j = cb F G 11 (G 14 j)) → (∀ i j : Int, 0 ≤ i → i < F 6 1 → 0 ≤ j → j < F 13 1 → G' 19 (48 * j + i) = G 18 (2304 * g + 48 * cb F G 11 (G 14 j) + cb F G 4 (G 7 i))) → Q none S F G') : Ok d MX2_startTrial [vR 2, vI g] S F G Q := by
  refine ok_go rfl (by decide) (Nat.le_of_ble_eq_true rfl) (R_X2_startTrial_0 hsh ?_)
  unfold V_X2_startTrial_0
  refine ⟨by omega, ok_traceOrigins (a := 3) (by omega) (at_3 hsh) hc.1 h6 (fun G1 u1 v1 => ⟨rfl, rfl, ?_⟩)⟩
  have hc11 : CO F G1 11 48 := co_cg rfl (u1 12 (by decide)) hc.2.1
  have h13' : CO F G1 13 48 := co_cg rfl (u1 14 (by decide)) h13
  refine ok_traceOrigins (a := 10) (by omega) (at_10 hsh) hc11 h13' (fun G2 u2 v2 => ⟨rfl, rfl, ?_⟩)
  have o8 : ∀ i : Int, 0 ≤ i → i < F 6 1 → G2 8 i = cb F G 4 (G 7 i) := fun i a b => by
    rw [u2 8 (by decide)]
    exact v1 i a b
  have o15 : ∀ j : Int, 0 ≤ j → j < F 13 1 → G2 15 j = cb F G 11 (G 14 j) := fun j a b => by
    have e1 : G2 15 j = cb F G1 11 (G1 14 j) := v2 j a b
    rw [e1, cb_cg rfl (u1 12 (by decide)), u1 14 (by decide)]
  have fr : ∀ c : Nat, c ≠ 8 → c ≠ 15 → G2 c = G c := fun c a b => (u2 c b).trans (u1 c a)
  have x1 := h6.1
  have x2 := h6.2.1
  have y1 := h13.1
  have y2 := h13.2.1
  have bx : ∀ i : Int, 0 ≤ i → i < F 6 1 → 0 ≤ cb F G 4 (G 7 i) ∧ cb F G 4 (G 7 i) < 48 := fun i a b => by
    have p0 : 0 ≤ G 7 i := (co_in h6 a (Int.le_of_lt b)).1
    have := cb_spec (co_up hc.1 (m2 := 104) (by omega)) (p := G 7 i) p0
    have := hc.1.2.1
    omega
  have by' : ∀ j : Int, 0 ≤ j → j < F 13 1 → 0 ≤ cb F G 11 (G 14 j) ∧ cb F G 11 (G 14 j) < 48 := fun j a b => by
    have p0 : 0 ≤ G 14 j := (co_in h13 a (Int.le_of_lt b)).1
    have := cb_spec (co_up hc.2.1 (m2 := 104) (by omega)) (p := G 14 j) p0
    have := hc.2.1.2.1
    omega
  refine up_ind (α := AG) (F 13 1 - 1) (fun j G3 => 0 ≤ j ∧ j ≤ F 13 1 ∧ Upd G2 G3 19 0 (fun i' j' => 0 ≤ i' ∧ i' < F 6 1 ∧ 0 ≤ j' ∧ j' < j) (fun i' j' => G 18 (2304 * g + 48 * cb F G 11 (G 14 j') + cb F G 4 (G 7 i')))) (fun j G3 => Go d MX2_startTrial 16 [some (vR 2), some (vI g), some (vI j), none, none] [] S F G3 Q) ?_ ?_ 0 G2 ⟨by omega, by omega, upd_0 (fun i j _ _ _ _ q => by omega)⟩
  · intro j G3 hI hj ih
    obtain ⟨j0, j1, u3⟩ := hI
    refine R_X2_startTrial_16 hsh ?_
    unfold V_X2_startTrial_16
    have e15 : G3 15 j = cb F G 11 (G 14 j) := by rw [u3.1 15 (by decide)]; exact o15 j j0 (by omega)
    have bj := by' j j0 (by omega)
    rw [e15]
    refine ⟨fun q => absurd q (by omega), fun _ => ⟨by omega, j0, by omega, by omega, by omega, fun x6 e6 => ?_⟩⟩
    refine up_ind (α := AG) (F 6 1 - 1) (fun i G4 => 0 ≤ i ∧ i ≤ F 6 1 ∧ Upd G2 G4 19 0 (fun i' j' => (0 ≤ i' ∧ i' < F 6 1 ∧ 0 ≤ j' ∧ j' < j) ∨ (j' = j ∧ 0 ≤ i' ∧ i' < i)) (fun i' j' => G 18 (2304 * g + 48 * cb F G 11 (G 14 j') + cb F G 4 (G 7 i')))) (fun i G4 => Go d MX2_startTrial 52 [some (vR 2), some (vI g), some (vI j), some (vI x6), some (vI i)] [] S F G4 Q) ?_ ?_ 0 G3 ⟨by omega, by omega, upd_c u3 (fun i' j' _ _ _ _ => by omega)⟩
    · intro i G4 hI2 hi ih2
      obtain ⟨i0, i1, u4⟩ := hI2
      refine R_X2_startTrial_52 hsh ?_
      unfold V_X2_startTrial_52
      have e8 : G4 8 i = cb F G 4 (G 7 i) := by rw [u4.1 8 (by decide)]; exact o8 i i0 (by omega)
      have e18 : G4 18 = G 18 := by rw [u4.1 18 (by decide)]; exact fr 18 (by decide) (by decide)
      have bi := bx i i0 (by omega)
      rw [e8, e18]
      refine ⟨fun q => absurd q (by omega), fun _ => ⟨by omega, by omega, i0, by omega, by omega, by omega, by omega, by omega, by omega, fun G5 e5 => ⟨by omega, ih2 G5 ⟨by omega, by omega, ?_⟩⟩⟩⟩
      refine upd_s (i := i) (j := j) u4 i0 (by omega) j0 (by omega) (z := 48 * j + i) ?_ (by omega) (fun a b => by omega)
      rw [e5]
      congr 2
      omega
    · intro i G4 hI2 hi
      obtain ⟨i0, i1, u4⟩ := hI2
      refine R_X2_startTrial_52 hsh ?_
      unfold V_X2_startTrial_52
      exact ⟨fun _ => ⟨by omega, ih G4 ⟨by omega, by omega, upd_c u4 (fun i' j' _ _ _ _ => by omega)⟩⟩, fun q => absurd q (by omega)⟩
  · intro j G3 hI hj
    obtain ⟨j0, j1, u3⟩ := hI
    refine R_X2_startTrial_16 hsh ?_
    unfold V_X2_startTrial_16
    refine ⟨fun _ => hq G3 (fun c a b c9 => (u3.1 c c9).trans (fr c a b)) (fun i a b => ?_) (fun i a b => ?_) (fun i k a b c9 d9 => ?_), fun q => absurd q (by omega)⟩
    · rw [u3.1 8 (by decide)]; exact o8 i a b
    · rw [u3.1 15 (by decide)]; exact o15 i a b
    · have := (u3.2.1 i k a (by omega) c9 (by omega)).1 ⟨a, b, c9, by omega⟩
      rw [show 0 + 48 * k + i = 48 * k + i by omega] at this
      exact this
/-- the fields of the plan from x1, y1 to x2, y2 -/
def inF (F : AF) (G : AG) (x1 y1 x2 y2 i j : Int) : Prop := cb F G 6 x1 ≤ i ∧ i ≤ cb F G 6 x2 ∧ cb F G 13 y1 ≤ j ∧ j ≤ cb F G 13 y2
theorem ok_raise {d : Nat} {S : AS} {F : AF} {G : AG} (hd : 1 ≤ d) (hsh : ShC S) {re : Nat} (hk : AtRect S re) (h6 : CO F G 6 48) (h13 : CO F G 13 48) {v : Int} (hv : -1000000000 ≤ v) (hv2 : v ≤ 1000000000) (r1 : 0 ≤ F re 0) (r2 : F re 0 ≤ F re 2) (r3 : 0 ≤ F re 1) (r4 : F re 1 ≤ F re 3) (hb : ∀ i j : Int, 0 ≤ i → i < F 6 1 → 0 ≤ j → j < F 13 1 → 0 ≤ G 19 (48 * j + i) ∧ G 19 (48 * j + i) ≤ 1000000000000) {Q : AQ} (hq : ∀ G', Upd G G' 19 0 (inF F G (F re 0) (F re 1) (F re 2) (F re 3)) (fun i j => G 19 (48 * j + i) + v) → Q none S F G') : Ok d MX2_raise [vR 2, vR re, vJ v] S F G Q := by
  have h6' := co_up h6 (m2 := 104) (by omega)
  have h13' := co_up h13 (m2 := 104) (by omega)
  have a1 := cb_spec h6' (p := F re 0) r1
  have a2 := cb_spec h6' (p := F re 2) (by omega)
  have a3 := cb_spec h13' (p := F re 1) r3
  have a4 := cb_spec h13' (p := F re 3) (by omega)
  have x2 := h6.2.1
  have y2 := h13.2.1
  have P := @pu_bandOf
  refine ok_go rfl (by decide) (Nat.le_of_ble_eq_true rfl) (R_X2_raise_0 hsh hk ?_)
  unfold V_X2_raise_0
  refine ⟨hd, _, pu_bandOf (at_6 hsh) h6' (by omega), _, pu_bandOf (at_13 hsh) h13' (by omega), _, pu_bandOf (at_13 hsh) h13' (by omega), ?_⟩
  refine up_ind (α := AG) (cb F G 13 (F re 3)) (fun j G3 => cb F G 13 (F re 1) ≤ j ∧ Upd G G3 19 0 (fun i' j' => cb F G 6 (F re 0) ≤ i' ∧ i' ≤ cb F G 6 (F re 2) ∧ cb F G 13 (F re 1) ≤ j' ∧ j' < j ∧ j' ≤ cb F G 13 (F re 3)) (fun i j => G 19 (48 * j + i) + v)) (fun j G3 => Go d MX2_raise 48 [some (vR 2), some (vR re), some (vJ v), none, some (vI (cb F G 6 (F re 2))), some (vI (cb F G 13 (F re 3))), some (vI j), none] [] S F G3 Q) ?_ ?_ _ G ⟨Int.le_refl _, upd_0 (fun i j _ _ _ _ q => by omega)⟩
  · intro j G3 hI hj ih
    obtain ⟨j0, u3⟩ := hI
    refine R_X2_raise_48 hsh hk ?_
    unfold V_X2_raise_48
    refine ⟨fun q => absurd q (by omega), fun _ => ⟨hd, cb F G 6 (F re 0), ?_, ?_⟩⟩
    · have := pu_bandOf (d := d - 1) (S := S) (at_6 hsh) (co_cg (G1 := G3) rfl (u3.1 7 (by decide)) h6') (p := F re 0) r1
      rw [cb_cg (G1 := G3) rfl (u3.1 7 (by decide))] at this
      exact this
    · refine up_ind (α := AG) (cb F G 6 (F re 2)) (fun i G4 => cb F G 6 (F re 0) ≤ i ∧ Upd G G4 19 0 (fun i' j' => (cb F G 6 (F re 0) ≤ i' ∧ i' ≤ cb F G 6 (F re 2) ∧ cb F G 13 (F re 1) ≤ j' ∧ j' < j) ∨ (j' = j ∧ cb F G 6 (F re 0) ≤ i' ∧ i' < i ∧ i' ≤ cb F G 6 (F re 2))) (fun i j => G 19 (48 * j + i) + v)) (fun i G4 => Go d MX2_raise 71 [some (vR 2), some (vR re), some (vJ v), none, some (vI (cb F G 6 (F re 2))), some (vI (cb F G 13 (F re 3))), some (vI j), some (vI i)] [] S F G4 Q) ?_ ?_ _ G3 ⟨Int.le_refl _, upd_c u3 (fun i' j' _ _ _ _ => by omega)⟩
      · intro i G4 hI2 hi ih2
        obtain ⟨i0, u4⟩ := hI2
        refine R_X2_raise_71 hsh hk ?_
        unfold V_X2_raise_71
        have old : G4 19 (48 * j + i) = G 19 (48 * j + i) := by
          have := (u4.2.1 i j (by omega) (by omega) (by omega) (by omega)).2 (by omega)
          rw [show 0 + 48 * j + i = 48 * j + i by omega] at this
          exact this
        have bb := hb i j (by omega) (by omega) (by omega) (by omega)
        rw [old]
        refine ⟨fun q => absurd q (by omega), fun _ => ⟨by omega, by omega, by omega, by omega, by omega, fun G7 e7 => ⟨by omega, ih2 G7 ⟨by omega, upd_s (i := i) (j := j) u4 (by omega) (by omega) (by omega) (by omega) e7 (by omega) (fun a b => by omega)⟩⟩⟩⟩
      · intro i G4 hI2 hi
        obtain ⟨i0, u4⟩ := hI2
        refine R_X2_raise_71 hsh hk ?_
        unfold V_X2_raise_71
        exact ⟨fun _ => ⟨by omega, ih G4 ⟨by omega, upd_c u4 (fun i' j' _ _ _ _ => by omega)⟩⟩, fun q => absurd q (by omega)⟩
  · intro j G3 hI hj
    obtain ⟨j0, u3⟩ := hI
    refine R_X2_raise_48 hsh hk ?_
    unfold V_X2_raise_48
    refine ⟨fun _ => hq G3 (upd_c u3 (fun i' j' _ _ _ _ => ?_)), fun q => absurd q (by omega)⟩
    simp only [inF]
    omega
theorem ok_fill {d : Nat} {S : AS} {F : AF} {G : AG} (hd : 1 ≤ d) (hsh : ShC S) (h6 : CO F G 6 48) (h13 : CO F G 13 48) {v x1 y1 x2 y2 : Int} (r1 : 0 ≤ x1) (r3 : 0 ≤ y1) {Q : AQ} (hq : ∀ G', Upd G G' 19 0 (fun i j => x1 ≤ x2 ∧ y1 ≤ y2 ∧ inF F G x1 y1 x2 y2 i j) (fun _ _ => v) → Q none S F G') : Ok d MX2_fill [vR 2, vI x1, vI y1, vI x2, vI y2, vJ v] S F G Q := by
  refine ok_go rfl (by decide) (Nat.le_of_ble_eq_true rfl) (R_X2_fill_0 hsh ?_)
  unfold V_X2_fill_0
  refine ⟨fun q => hq G (upd_0 (fun i j _ _ _ _ z => by omega)), fun q => ⟨fun q2 => ?_, fun q2 => hq G (upd_0 (fun i j _ _ _ _ z => by omega))⟩⟩
  have h6' := co_up h6 (m2 := 104) (by omega)
  have h13' := co_up h13 (m2 := 104) (by omega)
  have a1 := cb_spec h6' (p := x1) r1
  have a2 := cb_spec h6' (p := x2) (by omega)
  have a3 := cb_spec h13' (p := y1) r3
  have a4 := cb_spec h13' (p := y2) (by omega)
  have x48 := h6.2.1
  have y48 := h13.2.1
  refine ⟨hd, _, pu_bandOf (at_6 hsh) h6' (by omega), _, pu_bandOf (at_13 hsh) h13' (by omega), _, pu_bandOf (at_13 hsh) h13' (by omega), ?_⟩
  refine up_ind (α := AG) (cb F G 13 y2) (fun j G3 => cb F G 13 y1 ≤ j ∧ Upd G G3 19 0 (fun i' j' => cb F G 6 x1 ≤ i' ∧ i' ≤ cb F G 6 x2 ∧ cb F G 13 y1 ≤ j' ∧ j' < j ∧ j' ≤ cb F G 13 y2) (fun _ _ => v)) (fun j G3 => Go d MX2_fill 52 [some (vR 2), some (vI x1), some (vI y1), some (vI x2), some (vI y2), some (vJ v), none, some (vI (cb F G 6 x2)), some (vI (cb F G 13 y2)), some (vI j), none] [] S F G3 Q) ?_ ?_ _ G ⟨Int.le_refl _, upd_0 (fun i j _ _ _ _ q => by omega)⟩
  · intro j G3 hI hj ih
    obtain ⟨j0, u3⟩ := hI
    refine R_X2_fill_52 hsh ?_
    unfold V_X2_fill_52
    refine ⟨fun q => absurd q (by omega), fun _ => ⟨hd, cb F G 6 x1, ?_, ?_⟩⟩
    · have := pu_bandOf (d := d - 1) (S := S) (at_6 hsh) (co_cg (G1 := G3) rfl (u3.1 7 (by decide)) h6') (p := x1) r1
      rw [cb_cg (G1 := G3) rfl (u3.1 7 (by decide))] at this
      exact this
    · refine up_ind (α := AG) (cb F G 6 x2) (fun i G4 => cb F G 6 x1 ≤ i ∧ Upd G G4 19 0 (fun i' j' => (cb F G 6 x1 ≤ i' ∧ i' ≤ cb F G 6 x2 ∧ cb F G 13 y1 ≤ j' ∧ j' < j) ∨ (j' = j ∧ cb F G 6 x1 ≤ i' ∧ i' < i ∧ i' ≤ cb F G 6 x2)) (fun _ _ => v)) (fun i G4 => Go d MX2_fill 72 [some (vR 2), some (vI x1), some (vI y1), some (vI x2), some (vI y2), some (vJ v), none, some (vI (cb F G 6 x2)), some (vI (cb F G 13 y2)), some (vI j), some (vI i)] [] S F G4 Q) ?_ ?_ _ G3 ⟨Int.le_refl _, upd_c u3 (fun i' j' _ _ _ _ => by omega)⟩
      · intro i G4 hI2 hi ih2
        obtain ⟨i0, u4⟩ := hI2
        refine R_X2_fill_72 hsh ?_
        unfold V_X2_fill_72
        refine ⟨fun q => absurd q (by omega), fun _ => ⟨by omega, by omega, by omega, by omega, fun G7 e7 => ⟨by omega, ih2 G7 ⟨by omega, upd_s (i := i) (j := j) u4 (by omega) (by omega) (by omega) (by omega) e7 (by omega) (fun a b => by omega)⟩⟩⟩⟩
      · intro i G4 hI2 hi
        obtain ⟨i0, u4⟩ := hI2
        refine R_X2_fill_72 hsh ?_
        unfold V_X2_fill_72
        exact ⟨fun _ => ⟨by omega, ih G4 ⟨by omega, upd_c u4 (fun i' j' _ _ _ _ => by omega)⟩⟩, fun q => absurd q (by omega)⟩
  · intro j G3 hI hj
    obtain ⟨j0, u3⟩ := hI
    refine R_X2_fill_52 hsh ?_
    unfold V_X2_fill_52
    refine ⟨fun _ => hq G3 (upd_c u3 (fun i' j' _ _ _ _ => ?_)), fun q => absurd q (by omega)⟩
    simp only [inF]
    omega
theorem ok_bring {d : Nat} {S : AS} {F : AF} {G : AG} (hd : 1 ≤ d) (hsh : ShC S) {re : Nat} (hk : AtRect S re) (h6 : CO F G 6 48) (h13 : CO F G 13 48) {g : Int} (hg : 0 ≤ g) (hg2 : g ≤ 2) (r1 : 0 ≤ F re 0) (r2 : F re 0 ≤ F re 2) (r3 : 0 ≤ F re 1) (r4 : F re 1 ≤ F re 3)
    (hb : ∀ i j : Int, 0 ≤ i → i < F 6 1 → 0 ≤ j → j < F 13 1 → 0 ≤ G 19 (48 * j + i) ∧ G 19 (48 * j + i) ≤ 1000000000000)
    (hs : ∀ i j : Int, inF F G (F re 0) (F re 1) (F re 2) (F re 3) i j → 0 ≤ G 9 i ∧ G 9 i < 48 ∧ 0 ≤ G 16 j ∧ G 16 j < 48 ∧ 0 ≤ G 18 (2304 * g + 48 * G 16 j + G 9 i) ∧ G 18 (2304 * g + 48 * G 16 j + G 9 i) ≤ 1000000000000) {Q : AQ} (hq : ∀ G', Upd G G' 19 0 (inF F G (F re 0) (F re 1) (F re 2) (F re 3)) (fun i j => G 19 (48 * j + i) + G 18 (2304 * g + 48 * G 16 j + G 9 i)) → Q none S F G') : Ok d MX2_bring [vR 2, vI g, vR re] S F G Q := by
  have h6' := co_up h6 (m2 := 104) (by omega)
  have h13' := co_up h13 (m2 := 104) (by omega)
  have a1 := cb_spec h6' (p := F re 0) r1
  have a2 := cb_spec h6' (p := F re 2) (by omega)
  have a3 := cb_spec h13' (p := F re 1) r3
  have a4 := cb_spec h13' (p := F re 3) (by omega)
  have x2 := h6.2.1
  have y2 := h13.2.1
  refine ok_go rfl (by decide) (Nat.le_of_ble_eq_true rfl) (R_X2_bring_0 hsh hk ?_)
  unfold V_X2_bring_0
  refine ⟨hd, _, pu_bandOf (at_6 hsh) h6' (by omega), _, pu_bandOf (at_13 hsh) h13' (by omega), _, pu_bandOf (at_13 hsh) h13' (by omega), ?_⟩
  refine up_ind (α := AG) (cb F G 13 (F re 3)) (fun j G3 => cb F G 13 (F re 1) ≤ j ∧ Upd G G3 19 0 (fun i' j' => cb F G 6 (F re 0) ≤ i' ∧ i' ≤ cb F G 6 (F re 2) ∧ cb F G 13 (F re 1) ≤ j' ∧ j' < j ∧ j' ≤ cb F G 13 (F re 3)) (fun i j => G 19 (48 * j + i) + G 18 (2304 * g + 48 * G 16 j + G 9 i))) (fun j G3 => Go d MX2_bring 47 [some (vR 2), some (vI g), some (vR re), some (vI (cb F G 6 (F re 2))), some (vI (cb F G 13 (F re 3))), some (vI j), none, none, none] [] S F G3 Q) ?_ ?_ _ G ⟨Int.le_refl _, upd_0 (fun i j _ _ _ _ q => by omega)⟩
  · intro j G3 hI hj ih
    obtain ⟨j0, u3⟩ := hI
    refine R_X2_bring_47 hsh hk ?_
    unfold V_X2_bring_47
    refine ⟨fun q => absurd q (by omega), fun _ => ⟨hd, cb F G 6 (F re 0), ?_, ?_⟩⟩
    · have := pu_bandOf (d := d - 1) (S := S) (at_6 hsh) (co_cg (G1 := G3) rfl (u3.1 7 (by decide)) h6') (p := F re 0) r1
      rw [cb_cg (G1 := G3) rfl (u3.1 7 (by decide))] at this
      exact this
    · refine up_ind (α := AG) (cb F G 6 (F re 2)) (fun i G4 => cb F G 6 (F re 0) ≤ i ∧ Upd G G4 19 0 (fun i' j' => (cb F G 6 (F re 0) ≤ i' ∧ i' ≤ cb F G 6 (F re 2) ∧ cb F G 13 (F re 1) ≤ j' ∧ j' < j) ∨ (j' = j ∧ cb F G 6 (F re 0) ≤ i' ∧ i' < i ∧ i' ≤ cb F G 6 (F re 2))) (fun i j => G 19 (48 * j + i) + G 18 (2304 * g + 48 * G 16 j + G 9 i))) (fun i G4 => Go d MX2_bring 70 [some (vR 2), some (vI g), some (vR re), some (vI (cb F G 6 (F re 2))), some (vI (cb F G 13 (F re 3))), some (vI j), some (vI i), none, none] [] S F G4 Q) ?_ ?_ _ G3 ⟨Int.le_refl _, upd_c u3 (fun i' j' _ _ _ _ => by omega)⟩
      · intro i G4 hI2 hi ih2
        obtain ⟨i0, u4⟩ := hI2
        refine R_X2_bring_70 hsh hk ?_
        unfold V_X2_bring_70
        have old : G4 19 (48 * j + i) = G 19 (48 * j + i) := by
          have := (u4.2.1 i j (by omega) (by omega) (by omega) (by omega)).2 (by omega)
          rw [show 0 + 48 * j + i = 48 * j + i by omega] at this
          exact this
        have bb := hb i j (by omega) (by omega) (by omega) (by omega)
        have ss9 := hs i j ⟨i0, hi, j0, hj⟩
        rw [u4.1 9 (by decide), u4.1 16 (by decide), u4.1 18 (by decide), old]
        refine ⟨fun q => absurd q (by omega), fun _ => ⟨by omega, by omega, fun x4 e4 => ⟨by omega, by omega, fun x7 e7 => ⟨fun q => absurd q (by omega), fun _ => ⟨fun q => absurd q (by omega), fun _ => ?_⟩⟩⟩⟩⟩
        rw [show g * 2304 + 48 * x7 + x4 = 2304 * g + 48 * G 16 j + G 9 i by omega]
        refine ⟨by omega, by omega, by omega, by omega, by omega, by omega, by omega, by omega, by omega, by omega, by omega, fun G19 e19 => ?_⟩
        unfold V_X2_bring_147
        exact ⟨by omega, ih2 G19 ⟨by omega, upd_s (i := i) (j := j) u4 (by omega) (by omega) (by omega) (by omega) e19 (by omega) (fun a b => by omega)⟩⟩
      · intro i G4 hI2 hi
        obtain ⟨i0, u4⟩ := hI2
        refine R_X2_bring_70 hsh hk ?_
        unfold V_X2_bring_70
        exact ⟨fun _ => ⟨by omega, ih G4 ⟨by omega, upd_c u4 (fun i' j' _ _ _ _ => by omega)⟩⟩, fun q => absurd q (by omega)⟩
  · intro j G3 hI hj
    obtain ⟨j0, u3⟩ := hI
    refine R_X2_bring_47 hsh hk ?_
    unfold V_X2_bring_47
    refine ⟨fun _ => hq G3 (upd_c u3 (fun i' j' _ _ _ _ => ?_)), fun q => absurd q (by omega)⟩
    simp only [inF]
    omega
/-- the planes of a row are parted by the plan: each field has what the field had that it is cut from -/
def Refd (F : AF) (G G' : AG) (p : Nat) : Prop := (∀ c : Nat, c ≠ p → G' c = G c) ∧ ∀ g i j : Int, 0 ≤ g → g ≤ 2 → 0 ≤ i → i < F 6 1 → 0 ≤ j → j < F 13 1 → G' p (2304 * g + 48 * j + i) = G p (2304 * g + 48 * G 15 j + G 8 i)
theorem ok_refine {d : Nat} {S : AS} {F : AF} {G : AG} (hsh : ShC S) {p : Nat} (hp : AtJ S p) (hn : sN S p = 6912) (hp8 : p ≠ 8) (hp15 : p ≠ 15) (h6 : 1 ≤ F 6 1) (h6' : F 6 1 ≤ 48) (h13 : 1 ≤ F 13 1) (h13' : F 13 1 ≤ 48) (ho8 : ∀ i : Int, 0 ≤ i → i < F 6 1 → 0 ≤ G 8 i ∧ G 8 i ≤ i) (ho15 : ∀ j : Int, 0 ≤ j → j < F 13 1 → 0 ≤ G 15 j ∧ G 15 j ≤ j) {Q : AQ} (hq : ∀ G', Refd F G G' p → Q none S F G') : Ok d MX2_refine [vR 2, vR p] S F G Q := by
  have plane : ∀ (g : Int) (G1 : AG), 0 ≤ g → g ≤ 2 → (∀ c : Nat, c ≠ p → G1 c = G c) → (∀ k : Int, 2304 * g ≤ k → G1 p k = G p k) → (∀ G2, Upd G1 G2 p (2304 * g) (fun i j => 0 ≤ i ∧ i < F 6 1 ∧ 0 ≤ j ∧ j < F 13 1) (fun i j => G p (2304 * g + 48 * G 15 j + G 8 i)) → Go d MX2_refine 2 [some (vR 2), some (vR p), some (vI (2304 * (g + 1))), none, none, none, none] [] S F G2 Q) → Go d MX2_refine 2 [some (vR 2), some (vR p), some (vI (2304 * g)), none, none, none, none] [] S F G1 Q := by
    intro g G1 g0 g2 fr un cont
    refine R_X2_refine_2 hsh hp ?_
    unfold V_X2_refine_2
    rw [hn]
    refine ⟨fun q => absurd q (by omega), fun _ => ⟨by omega, fun x2 e2 => ?_⟩⟩
    refine down_ind (α := AG) 0 (fun j G3 => j < F 13 1 ∧ -1 ≤ j ∧ Upd G1 G3 p (2304 * g) (fun i' j' => 0 ≤ i' ∧ i' < F 6 1 ∧ j < j' ∧ j' < F 13 1) (fun i j => G p (2304 * g + 48 * G 15 j + G 8 i))) (fun j G3 => Go d MX2_refine 21 [some (vR 2), some (vR p), some (vI (2304 * g)), some (vI j), none, none, none] [] S F G3 Q) ?_ ?_ x2 G1 ⟨by omega, by omega, upd_0 (fun i j _ _ _ _ q => by omega)⟩
    · intro j G3 hI hj ih
      obtain ⟨j1, jm, u3⟩ := hI
      have o15 := ho15 j hj j1
      have e15 : G3 15 = G 15 := by rw [u3.1 15 (fun z => hp15 z.symm)]; exact fr 15 (fun z => hp15 z.symm)
      refine R_X2_refine_21 hsh hp ?_
      unfold V_X2_refine_21
      rw [e15]
      refine ⟨fun q => absurd q (by omega), fun _ => ⟨by omega, by omega, fun x4 e4 => ⟨hj, by omega, by omega, by omega, fun x9 e9 => ⟨by omega, fun x11 e11 => ?_⟩⟩⟩⟩
      refine down_ind (α := AG) 0 (fun i G4 => i < F 6 1 ∧ -1 ≤ i ∧ Upd G1 G4 p (2304 * g) (fun i' j' => (0 ≤ i' ∧ i' < F 6 1 ∧ j < j' ∧ j' < F 13 1) ∨ (j' = j ∧ i < i' ∧ i' < F 6 1)) (fun i j => G p (2304 * g + 48 * G 15 j + G 8 i))) (fun i G4 => Go d MX2_refine 63 [some (vR 2), some (vR p), some (vI (2304 * g)), some (vI j), some (vI x4), some (vI x9), some (vI i)] [] S F G4 Q) ?_ ?_ x11 G3 ⟨by omega, by omega, upd_c u3 (fun i' j' _ _ _ _ => by omega)⟩
      · intro i G4 hI2 hi ih2
        obtain ⟨i1, im, u4⟩ := hI2
        have o8 := ho8 i hi i1
        have e8 : G4 8 = G 8 := by rw [u4.1 8 (fun z => hp8 z.symm)]; exact fr 8 (fun z => hp8 z.symm)
        refine R_X2_refine_63 hsh hp ?_
        unfold V_X2_refine_63
        rw [e8, hn]
        have old : G4 p (x9 + G 8 i) = G p (2304 * g + 48 * G 15 j + G 8 i) := by
          have := (u4.2.1 (G 8 i) (G 15 j) (by omega) (by omega) (by omega) (by omega)).2 (by omega)
          rw [show x9 + G 8 i = 2304 * g + 48 * G 15 j + G 8 i by omega, this]
          exact un _ (by omega)
        refine ⟨fun q => absurd q (by omega), fun _ => ⟨by omega, by omega, by omega, by omega, by omega, by omega, by omega, by omega, fun G10 e10 => ⟨by omega, ?_⟩⟩⟩
        rw [old] at e10
        exact ih2 G10 ⟨by omega, by omega, upd_s (i := i) (j := j) u4 (by omega) (by omega) (by omega) (by omega) e10 (by omega) (fun a b => by omega)⟩
      · intro i G4 hI2 hi
        obtain ⟨i1, im, u4⟩ := hI2
        refine R_X2_refine_63 hsh hp ?_
        unfold V_X2_refine_63
        exact ⟨fun _ => ⟨by omega, ih G4 ⟨by omega, by omega, upd_c u4 (fun i' j' _ _ _ _ => by omega)⟩⟩, fun q => absurd q (by omega)⟩
    · intro j G3 hI hj
      obtain ⟨j1, jm, u3⟩ := hI
      refine R_X2_refine_21 hsh hp ?_
      unfold V_X2_refine_21
      refine ⟨fun _ => ⟨by omega, ?_⟩, fun q => absurd q (by omega)⟩
      have := cont G3 (upd_c u3 (fun i' j' _ _ _ _ => by omega))
      rw [show 2304 * (g + 1) = 2304 * g + 2304 by omega] at this
      exact this
  refine ok_go rfl (by decide) (Nat.le_of_ble_eq_true rfl) (R_X2_refine_0 hsh hp ?_)
  unfold V_X2_refine_0
  refine plane 0 G (by omega) (by omega) (fun _ _ => rfl) (fun _ _ => rfl) (fun G1 u1 => plane 1 G1 (by omega) (by omega) u1.1 (fun k hk => u1.2.2 k (by omega)) (fun G2 u2 => plane 2 G2 (by omega) (by omega) (fun c hc => (u2.1 c hc).trans (u1.1 c hc)) (fun k hk => (u2.2.2 k (by omega)).trans (u1.2.2 k (by omega))) (fun G3 u3 => ?_)))
  refine R_X2_refine_2 hsh hp ?_
  unfold V_X2_refine_2
  rw [hn]
  refine ⟨fun _ => hq G3 ⟨fun c hc => (u3.1 c hc).trans ((u2.1 c hc).trans (u1.1 c hc)), fun g i j g0 g2 i0 i1 j0 j1 => ?_⟩, fun q => absurd q (by omega)⟩
  have : g = 0 ∨ g = 1 ∨ g = 2 := by omega
  rcases this with rfl | rfl | rfl
  · rw [u3.2.2 _ (by omega), u2.2.2 _ (by omega)]
    exact (u1.2.1 i j i0 (by omega) j0 (by omega)).1 ⟨i0, i1, j0, j1⟩
  · rw [u3.2.2 _ (by omega)]
    exact (u2.2.1 i j i0 (by omega) j0 (by omega)).1 ⟨i0, i1, j0, j1⟩
  · exact (u3.2.1 i j i0 (by omega) j0 (by omega)).1 ⟨i0, i1, j0, j1⟩
