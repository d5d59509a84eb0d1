section
/-! PAIRS OF CALLS THAT CHANGE SOMETHING -/
def PrB (d : Nat) (MC MM : AM) (avC avM : List AV) (mk : Int → AV) (S : AS) (F : AF) (G : AG) (b' : Int) : Prop := Ok d MC avC S F G (fun w S1 F1 G1 => ∃ z : Int, w = some (mk z) ∧ SLike S S1 ∧ ShC S1 ∧ ShM S1 ∧ Ok d MM avM S1 F1 G1 (fun w2 S2 F2 G2 => w2 = some (mk z) ∧ SLike S S2 ∧ Inv S2 F2 G2 b'))
theorem slike_tr {S S1 S2 : AS} (h : SLike S S1) (k : SLike S1 S2) : SLike S S2 := ⟨k.1.trans h.1, k.2.trans h.2⟩
theorem pr_prb {d : Nat} {MC MM : AM} {avC avM : List AV} {mk : Int → AV} {S : AS} {F : AF} {G : AG} {b : Int} (h : Pr d MC MM avC avM mk S F G b) : PrB d MC MM avC avM mk S F G b := by
  refine ok_mono h (fun w S1 F1 G1 q => ?_)
  obtain ⟨e, z, ew, hi, k⟩ := q
  subst e
  refine ⟨z, ew, ⟨rfl, rfl⟩, hi.1.1, hi.1.2.1, ok_mono k (fun w2 S2 F2 G2 q2 => ?_)⟩
  obtain ⟨e2, ew2, hi2⟩ := q2
  subst e2
  exact ⟨ew2, ⟨rfl, rfl⟩, hi2⟩
theorem inv_up {S : AS} {F : AF} {G : AG} {b c : Int} (h : Inv S F G b) (k : b ≤ c) : Inv S F G c := by
  obtain ⟨a1, a2, a3⟩ := inv_ci h
  exact ci_inv (ci_up a1 k) a2 a3
theorem kk_sfr {F F1 : AF} {G G1 : AG} (k : KK F G F G) (s : SFr F F1 G G1) : KK F G F1 G1 := by
  have e53 := s.2.1 53 (by decide) (by decide) (by decide) (by decide)
  exact kk_cr k (by rw [e53]) (by rw [e53]) (by rw [e53]) (by rw [e53]) (by rw [e53]) (fun c c0 c1 => s.2.2 c (by omega) (by omega))
theorem inv_rfr {S : AS} {F1 F2 : AF} {G1 G2 : AG} {b : Int} (ci : CI S F1 G1 b) (k : KK F1 G1 F2 G2) (r : RFr F1 F2 G1 G2) (kx : KX F1 G1 F2 G2) : Inv S F2 G2 b := by
  have f := r.1
  have g := r.2.2
  refine ci_inv (ci_cg ci (f 2 (by decide)) (f 3 (by decide)) (f 4 (by decide)) (f 10 (by decide)) (f 11 (by decide)) (f 17 (by decide)) (f 44 (by decide)) (fun c _ c1 => f c (by omega)) (g 5 (by omega)) (g 12 (by omega)) (g 18 (by omega)) (fun j => ⟨f _ (by omega), g _ (by omega)⟩) (by rw [f 46 (by decide)]; exact ci.2.2.2.2.2.2.2.2.2.1) (by rw [f 46 (by decide)]; exact ci.2.2.2.2.2.2.2.2.2.2)) (kk_cg k (f 2 (by decide)) (f 3 (by decide)) (f 4 (by decide)) (f 10 (by decide)) (f 11 (by decide)) (f 44 (by decide)) (fun c _ c1 => f c (by omega)) (g 5 (by omega)) (g 12 (by omega)) (g 18 (by omega)) (g 45 (by omega)) (fun j => ⟨f _ (by omega), g _ (by omega)⟩)) ?_
  unfold KX at *
  rw [g 47 (by omega), f 46 (by decide), f 1 (by decide)]
  exact kx
theorem kx_sfr {F F1 F2 : AF} {G G1 G2 : AG} (h : KX F G F G) (s : SFr F F1 G G1) (r : RFr F1 F2 G1 G2) : KX F1 G1 F2 G2 := by
  obtain ⟨x1, x2, x3, x4, x5⟩ := h
  have e46 := s.2.1 46 (by decide) (by decide) (by decide) (by decide)
  have e53 := s.2.1 53 (by decide) (by decide) (by decide) (by decide)
  have r34 := r.2.1 34 (by decide) (by decide)
  have r37 := r.2.1 37 (by decide) (by decide)
  have r38 := r.2.1 38 (by decide) (by decide)
  have r39 := r.2.1 39 (by decide) (by decide)
  unfold KX
  rw [s.2.2 47 (by decide) (by decide), e46, s.1, r.2.2 72 (by omega), s.2.2 72 (by decide) (by decide), r34, r37, r38, r39, e53]
  exact ⟨x1, x2, x3, x4, x5⟩
theorem prb_of {d : Nat} {MC MM : AM} {avC avM : List AV} {mk : Int → AV} {S : AS} {F : AF} {G : AG} {b b' : Int} {Sp : AS → AF → AG → Int → Prop} (h : Inv S F G b) (hC : ∀ Q : AQ, (∀ S1 F1 G1 z, Sp S1 F1 G1 z → SLike S S1 → SFr F F1 G G1 → CI S1 F1 G1 b' → Q (some (mk z)) S1 F1 G1) → Ok d MC avC S F G Q) (hM : ∀ S1 F1 G1 z, Sp S1 F1 G1 z → ShM S1 → KK F G F1 G1 → ∀ Q : AQ, (∀ F2 G2, KK F1 G1 F2 G2 → RFr F1 F2 G1 G2 → Q (some (mk z)) S1 F2 G2) → Ok d MM avM S1 F1 G1 Q) : PrB d MC MM avC avM mk S F G b' := by
  obtain ⟨ci, kk, kx⟩ := inv_ci h
  refine hC _ (fun S1 F1 G1 z sp sl sf ci1 => ⟨z, rfl, sl, ci1.1.1, ci1.1.2.1, ?_⟩)
  refine hM S1 F1 G1 z sp ci1.1.2.1 (kk_sfr kk sf) _ (fun F2 G2 k2 r2 => ⟨rfl, sl, ?_⟩)
  exact inv_rfr ci1 k2 r2 (kx_sfr kx sf r2)
theorem prb_add {d : Nat} {S : AS} {F : AF} {G : AG} {b : Int} (hd : 7 ≤ d) (h : Inv S F G b) (hb : b ≤ 1000000) (g x1 y1 x2 y2 v : Int) : PrB d MX9_add MX10_add [vR 1, vI g, vI x1, vI y1, vI x2, vI y2, vI v] [vR 53, vI g, vI x1, vI y1, vI x2, vI y2, vI v] vJ S F G (b + 1) :=
  prb_of (Sp := fun S1 F1 G1 z => S1 = S ∧ AddS F F1 G G1 g x1 y1 x2 y2 v z) h (fun Q hq => cs_add (by omega) (inv_ci h).1 hb g x1 y1 x2 y2 v (fun F1 G1 z a s c => hq S F1 G1 z ⟨rfl, a⟩ ⟨rfl, rfl⟩ s c)) (fun S1 F1 G1 z sp hsm k Q hq => cr_add hd hsm (inv_ci h).1 hb k sp.2 hq)
theorem prb_pick {d : Nat} {S : AS} {F : AF} {G : AG} {b : Int} (hd : 7 ≤ d) (h : Inv S F G b) (hb : b ≤ 1000000) {n : Int} (hn : r64 n) (g x1 y1 x2 y2 : Int) : PrB d MX9_pick MX10_pick [vR 1, vI g, vI x1, vI y1, vI x2, vI y2, vJ n] [vR 53, vI g, vI x1, vI y1, vI x2, vI y2, vJ n] vJ S F G (b + 1) :=
  prb_of (Sp := fun S1 F1 G1 z => S1 = S ∧ PickS F F1 G G1 g x1 y1 x2 y2 n z) h (fun Q hq => cs_pick (by omega) (inv_ci h).1 hb hn g x1 y1 x2 y2 (fun F1 G1 z a s c => hq S F1 G1 z ⟨rfl, a⟩ ⟨rfl, rfl⟩ s c)) (fun S1 F1 G1 z sp hsm k Q hq => cr_pick hd hsm (inv_ci h).1 hb k sp.2 hq)
theorem prb_move {d : Nat} {S : AS} {F : AF} {G : AG} {b : Int} (hd : 7 ≤ d) (h : Inv S F G b) (hb : b ≤ 1000000) (g x1 y1 x2 y2 dx dy : Int) : PrB d MX9_move MX10_move [vR 1, vI g, vI x1, vI y1, vI x2, vI y2, vI dx, vI dy] [vR 53, vI g, vI x1, vI y1, vI x2, vI y2, vI dx, vI dy] vJ S F G (b + 1) :=
  prb_of (Sp := fun S1 F1 G1 z => S1 = S ∧ MoveS F F1 G G1 g x1 y1 x2 y2 dx dy z) h (fun Q hq => cs_move (by omega) (inv_ci h).1 hb g x1 y1 x2 y2 dx dy (fun F1 G1 z a s c => hq S F1 G1 z ⟨rfl, a⟩ ⟨rfl, rfl⟩ s c)) (fun S1 F1 G1 z sp hsm k Q hq => cr_move hd hsm (inv_ci h).1 hb k sp.2 hq)
theorem prb_level {d : Nat} {S : AS} {F : AF} {G : AG} {b : Int} (hd : 7 ≤ d) (h : Inv S F G b) (hb : b ≤ 1000000) (g x1 y1 x2 y2 : Int) : PrB d MX9_level MX10_level [vR 1, vI g, vI x1, vI y1, vI x2, vI y2] [vR 53, vI g, vI x1, vI y1, vI x2, vI y2] vJ S F G (b + 1) :=
  prb_of (Sp := fun S1 F1 G1 z => S1 = S ∧ LevS F F1 G G1 g x1 y1 x2 y2 z) h (fun Q hq => cs_level (by omega) (inv_ci h).1 hb g x1 y1 x2 y2 (fun F1 G1 z a s c => hq S F1 G1 z ⟨rfl, a⟩ ⟨rfl, rfl⟩ s c)) (fun S1 F1 G1 z sp hsm k Q hq => cr_level hd hsm (inv_ci h).1 hb k sp.2 hq)
theorem prb_begin {d : Nat} {S : AS} {F : AF} {G : AG} {b : Int} (hd : 7 ≤ d) (h : Inv S F G b) : PrB d MX9_begin MX10_begin [vR 1] [vR 53] vI S F G b :=
  prb_of (Sp := fun S1 F1 G1 z => BegS S S1 F F1 G G1 z) h (fun Q hq => cs_begin (by omega) (inv_ci h).1 (fun S1 F1 G1 z a sl s c => hq S1 F1 G1 z a sl s c)) (fun S1 F1 G1 z sp hsm k Q hq => cr_begin hsm (inv_ci h).1 k sp hq)
theorem prb_commit {d : Nat} {S : AS} {F : AF} {G : AG} {b : Int} (hd : 7 ≤ d) (h : Inv S F G b) (hb : b ≤ 1000000) : PrB d MX9_commit MX10_commit [vR 1] [vR 53] vI S F G b :=
  prb_of (Sp := fun S1 F1 G1 z => S1 = S ∧ ComS F F1 G G1 z) h (fun Q hq => cs_commit (by omega) (inv_ci h).1 hb (fun F1 G1 z a s c => hq S F1 G1 z ⟨rfl, a⟩ ⟨rfl, rfl⟩ s c)) (fun S1 F1 G1 z sp hsm k Q hq => cr_commit hsm (inv_ci h).1 hb k sp.2 hq)
theorem prb_cancel {d : Nat} {S : AS} {F : AF} {G : AG} {b : Int} (hd : 7 ≤ d) (h : Inv S F G b) (hb : b ≤ 1000000) : PrB d MX9_cancel MX10_cancel [vR 1] [vR 53] vI S F G b :=
  prb_of (Sp := fun S1 F1 G1 z => S1 = S ∧ CanS F F1 G G1 z) h (fun Q hq => cs_cancel (by omega) (inv_ci h).1 hb (fun F1 G1 z a s c => hq S F1 G1 z ⟨rfl, a⟩ ⟨rfl, rfl⟩ s c)) (fun S1 F1 G1 z sp hsm k Q hq => cr_cancel hsm (inv_ci h).1 hb k sp.2 hq)
/-! ZONE -/
def zoF (F : AF) (zo x1 y1 x2 y2 l : Int) : AF := fu (fu (setR (setR F 51 x1 y1 x2 y2) (22 + 2 * zo.toNat + 1) x1 y1 x2 y2) (22 + 2 * zo.toNat) 1 l) (22 + 2 * zo.toNat) 2 1
theorem zoF_o {F : AF} {zo x1 y1 x2 y2 l : Int} {c : Nat} (h1 : c ≠ 51) (h2 : c ≠ 22 + 2 * zo.toNat) (h3 : c ≠ 22 + 2 * zo.toNat + 1) : zoF F zo x1 y1 x2 y2 l c = F c := by
  unfold zoF
  rw [fu_row h2, fu_row h2, setR_c h3, setR_c h1]
theorem zoF_r {F : AF} {zo x1 y1 x2 y2 l : Int} : zoF F zo x1 y1 x2 y2 l (22 + 2 * zo.toNat + 1) 0 = x1 ∧ zoF F zo x1 y1 x2 y2 l (22 + 2 * zo.toNat + 1) 1 = y1 ∧ zoF F zo x1 y1 x2 y2 l (22 + 2 * zo.toNat + 1) 2 = x2 ∧ zoF F zo x1 y1 x2 y2 l (22 + 2 * zo.toNat + 1) 3 = y2 ∧ zoF F zo x1 y1 x2 y2 l (22 + 2 * zo.toNat) 1 = l ∧ zoF F zo x1 y1 x2 y2 l (22 + 2 * zo.toNat) 2 = 1 := by
  unfold zoF
  refine ⟨?_, ?_, ?_, ?_, ?_, ?_⟩
  · rw [fu_c (by omega), fu_c (by omega), setR_0]
  · rw [fu_c (by omega), fu_c (by omega), setR_1]
  · rw [fu_c (by omega), fu_c (by omega), setR_2]
  · rw [fu_c (by omega), fu_c (by omega), setR_3]
  · rw [fu_k (by decide), fu_s]
  · rw [fu_s]
def ZonS (F F1 : AF) (G G1 : AG) (zo x1 y1 x2 y2 l z : Int) : Prop :=
  (¬ ((0 ≤ zo ∧ zo < 6) ∧ recS F x1 y1 x2 y2) → z = -2 ∧ SS F F1 G G1) ∧
  ((0 ≤ zo ∧ zo < 6) ∧ recS F x1 y1 x2 y2 → (¬ (0 ≤ l ∧ l ≤ 3000000000000000000) → z = -3 ∧ SS F F1 G G1) ∧
  (0 ≤ l ∧ l ≤ 3000000000000000000 → (l < aS (vu F G 18 (-1)) x1 y1 x2 y2 → z = -9 ∧ SS F F1 G G1) ∧
  (aS (vu F G 18 (-1)) x1 y1 x2 y2 ≤ l → z = aS (vu F G 18 (-1)) x1 y1 x2 y2 ∧ F1 = zoF F zo x1 y1 x2 y2 l ∧ G1 = G)))
theorem cs_zone {d : Nat} {S : AS} {F : AF} {G : AG} {b : Int} (hd : 6 ≤ d) (h : CI S F G b) (zo x1 y1 x2 y2 l : Int) {Q : AQ} (hq : ∀ F1 G1 z, ZonS F F1 G G1 zo x1 y1 x2 y2 l z → SFr F F1 G G1 → CI S F1 G1 b → Q (some (vJ z)) S F1 G1) : Ok d MX9_zone [vR 1, vI zo, vI x1, vI y1, vI x2, vI y2, vJ l] S F G Q := by
  have hsh := h.1.1
  have hq0 : ∀ F1 G1 z, SS F F1 G G1 → ZonS F F1 G G1 zo x1 y1 x2 y2 l z → Q (some (vJ z)) S F1 G1 := fun F1 G1 z s a => hq F1 G1 z a (sfr_ss s) (ci_ss h s)
  refine ok_go rfl (by decide) (Nat.le_of_ble_eq_true rfl) (R_X9_zone_0 hsh ?_)
  unfold V_X9_zone_0
  have pz := pu_zoneOf (d := d - 1) (S := S) (F := F) (G := G) hsh zo
  by_cases hz : 0 ≤ zo ∧ zo < 6
  · rw [if_pos hz] at pz
    refine ⟨by omega, _, pz, fun e => absurd e (by omega), fun _ => ok_askC (by omega) h _ _ _ _ ⟨rfl, _, rfl, fun q2 => ?_, fun q2 => ?_⟩⟩
    · have yr : recS F x1 y1 x2 y2 := Classical.byContradiction (fun z => q2 (bI_f z))
      have s51 := ss_51 (F := F) (G := G) x1 y1 x2 y2
      have bad : ¬ (0 ≤ l ∧ l ≤ 3000000000000000000) → Q (some (vJ (-3))) S (setR F 51 x1 y1 x2 y2) G := fun z => hq0 _ _ _ s51 ⟨fun n => absurd ⟨hz, yr⟩ n, fun _ => ⟨fun _ => ⟨rfl, s51⟩, fun n => absurd n z⟩⟩
      refine ⟨fun z => bad (fun n => by omega), fun z => ⟨fun z2 => ?_, fun z2 => bad (fun n => by omega)⟩⟩
      have vk : 0 ≤ l ∧ l ≤ 3000000000000000000 := ⟨by omega, z2⟩
      obtain ⟨hI, t1, t2, t3⟩ := ask_inC h yr
      obtain ⟨q1, q2', q3, q4, q5, q6⟩ := id yr
      have w4 : setR F 51 x1 y1 x2 y2 4 = F 4 := setR_c (by decide)
      have w11 : setR F 51 x1 y1 x2 y2 11 = F 11 := setR_c (by decide)
      have psum := pu_csumOf (d := d - 1) (by omega) hsh hI.2.1 (at_51 hsh) (ci_pba hI) (ci_ct hI) (g := -1) (by omega) (by omega) t2
      rw [setR_0, setR_1, setR_2, setR_3, csum_aS hI.2.1 18 (-1) q1 (by rw [w4]; exact q3) q4 (by rw [w11]; exact q6), vu_ss s51] at psum
      refine ⟨_, psum, fun p => ⟨sh_zoneAt hsh hz.1 hz.2, ok_set (sh_zoneAt hsh hz.1 hz.2).2.2 _ _ _ _ ⟨rfl, rfl, fun F24 e24 F25 e25 => ?_⟩⟩, fun p => hq0 _ _ _ s51 ⟨fun n => absurd ⟨hz, yr⟩ n, fun _ => ⟨fun n => absurd vk n, fun _ => ⟨fun _ => ⟨rfl, s51⟩, fun n => absurd n p⟩⟩⟩⟩
      have eF : F25 = zoF F zo x1 y1 x2 y2 l := by rw [e25, e24]; rfl
      subst eF
      have fo : ∀ c : Nat, c ≠ 51 → (c < 22 ∨ 33 < c) → zoF F zo x1 y1 x2 y2 l c = F c := fun c h1 h2 => zoF_o h1 (by omega) (by omega)
      refine hq _ _ _ ⟨fun n => absurd ⟨hz, yr⟩ n, fun _ => ⟨fun n => absurd vk n, fun _ => ⟨fun n => absurd n (by omega), fun _ => ⟨rfl, rfl, rfl⟩⟩⟩⟩ ⟨fo 1 (by decide) (by omega), fun c a b c1 c2 => fo c c1 (by omega), fun c a b => rfl⟩ ?_
      obtain ⟨hA, hc, hl, hcap, h18, hs, hb, hT, hZ, hX⟩ := id h
      have e4 := fo 4 (by decide) (by omega)
      have e11 := fo 11 (by decide) (by omega)
      have e2 := fo 2 (by decide) (by omega)
      have e44 := fo 44 (by decide) (by omega)
      have e46 := fo 46 (by decide) (by omega)
      refine ⟨by unfold CA; rw [e2]; exact hA, cc_cg e4 e11 (fo 17 (by decide) (by omega)) rfl rfl hc, by rw [fo 3 (by decide) (by omega), fo 10 (by decide) (by omega), e4, e11]; exact hl, by rw [e2]; exact hcap, pc_pl hc e4 e11 rfl rfl (by rw [e2]) (fun i _ _ => rfl) h18, fun j hj => ?_, ?_, by unfold STd; rw [e44]; exact hT, fun z z0 z1 => ?_, by rw [e46]; exact hX.1, by rw [e46]; exact hX.2⟩
      · rw [e2] at hj
        rw [fo _ (by omega) (by omega)]
        exact ⟨pc_pl hc e4 e11 rfl rfl (by rw [e2]) (fun i _ _ => rfl) (hs j hj).1, (hs j hj).2⟩
      · have e : (fun j : Int => zoF F zo x1 y1 x2 y2 l (78 + 2 * j.toNat) 1) = fun j : Int => F (78 + 2 * j.toNat) 1 := by
          funext j
          rw [fo _ (by omega) (by omega)]
        rw [e2, e]
        exact hb
      · by_cases e : z = zo
        · subst e
          obtain ⟨p0, p1, p2, p3, p4, p5⟩ := zoF_r (F := F) (zo := z) (x1 := x1) (y1 := y1) (x2 := x2) (y2 := y2) (l := l)
          have c4 := hc.1.2.2.2.1
          have c11 := hc.2.1.2.2.2.1
          unfold RO RG1
          rw [p0, p1, p2, p3, p4, p5, e4, e11]
          exact ⟨by omega, Or.inr rfl, fun _ => ⟨by omega, vk.1, vk.2⟩⟩
        · have := hZ z z0 z1
          have g1 : zoF F zo x1 y1 x2 y2 l (22 + 2 * z.toNat) = F (22 + 2 * z.toNat) := zoF_o (by omega) (by omega) (by omega)
          have g2 : zoF F zo x1 y1 x2 y2 l (22 + 2 * z.toNat + 1) = F (22 + 2 * z.toNat + 1) := zoF_o (by omega) (by omega) (by omega)
          unfold RO RG1 at *
          rw [g1, g2, e4, e11]
          exact this
    · exact hq0 _ _ _ (ss_51 x1 y1 x2 y2) ⟨fun _ => ⟨rfl, ss_51 x1 y1 x2 y2⟩, fun z => absurd z.2 (bI_0.mp q2)⟩
  · rw [if_neg hz] at pz
    exact ⟨by omega, _, pz, fun _ => hq0 F G _ (ss_rf F G) ⟨fun _ => ⟨rfl, ss_rf F G⟩, fun z => absurd z.1 hz⟩, fun e => absurd rfl e⟩
theorem cr_zone {d : Nat} {S S' : AS} {F F1 Fr : AF} {G G1 Gr : AG} {b : Int} (hd : 6 ≤ d) (hsm : ShM S') (ci : CI S F G b) (k : KK F G Fr Gr) {zo x1 y1 x2 y2 l z : Int} (a : ZonS F F1 G G1 zo x1 y1 x2 y2 l z) {Q : AQ} (hq : ∀ F2 G2, KK F1 G1 F2 G2 → RFr Fr F2 Gr G2 → Q (some (vJ z)) S' F2 G2) : Ok d MX10_zone [vR 53, vI zo, vI x1, vI y1, vI x2, vI y2, vJ l] S' Fr Gr Q := by
  have fin : ∀ zz F2 G2, (z = zz ∧ SS F F1 G G1) → RS Fr F2 Gr G2 → Q (some (vJ zz)) S' F2 G2 := fun zz F2 G2 e r => e.1 ▸ hq F2 G2 (kk_ss (kk_rs k r) e.2) (rfr_rs r)
  have hc := ci.2.1
  have c4 := hc.1.2.2.2.1
  have c11 := hc.2.1.2.2.2.1
  refine ok_go rfl (by decide) (Nat.le_of_ble_eq_true rfl) (R_X10_zone_0 hsm ?_)
  unfold V_X10_zone_0
  intro F0 e0
  have rs0 : RS Fr F0 Gr Gr := by rw [e0]; exact rs_fu (Or.inl rfl)
  have k0 := kk_rs k rs0
  have hx := k0.1.1
  have eW := k0.1.2.1
  have eH := k0.1.2.2.1
  refine ⟨by omega, _, pu_isIn hsm _ _ _, fun y => fin _ _ _ (a.1 (fun n => bI_0.mp y (by omega))) rs0, fun y => ⟨_, pu_isRectangle hsm _ _ _ _, fun q2 => ?_, fun q2 => fin _ _ _ (a.1 (fun n => bI_0.mp q2 (by rw [← eW, ← eH]; exact n.2))) rs0⟩⟩
  have yz : 0 ≤ zo ∧ zo < 6 := by
    have : 0 ≤ zo ∧ zo ≤ 5 := Classical.byContradiction (fun z => y (bI_f z))
    omega
  have yr : recS F x1 y1 x2 y2 := Classical.byContradiction (fun z => q2 (bI_f (by rw [← eW, ← eH]; exact z)))
  obtain ⟨r1, r2, r3, r4, r5, r6⟩ := id yr
  have ha := a.2 ⟨yz, yr⟩
  refine ⟨_, pu_isIn hsm _ _ _, fun q3 => ?_, fun q3 => fin _ _ _ (ha.1 (bI_0.mp q3)) rs0⟩
  have vk : 0 ≤ l ∧ l ≤ 3000000000000000000 := Classical.byContradiction (fun z => q3 (bI_f z))
  have ps := pu_msum (d := d - 1) (S := S') (by omega) hsm hx (kk_mba ci k0) (kk_mt ci k0) (g := -1) (x1 := x1) (y1 := y1) (x2 := x2) (y2 := y2) (by omega) (by omega) r1 (by omega) r4 (by omega) (by omega) (by omega) (by omega) (by omega)
  rw [kk_aS k0 (by omega) (by omega) r1 r3 r4 r6] at ps
  refine ⟨_, ps, fun p => ?_, fun p => fin _ _ _ ((ha.2 vk).1 (by omega)) rs0⟩
  obtain ⟨ez, eF, eG⟩ := (ha.2 vk).2 p
  subst eG
  refine ⟨by omega, by omega, by omega, fun G30 e30 => ⟨by omega, by omega, by omega, fun G34 e34 => ⟨by omega, by omega, by omega, fun G38 e38 => ⟨by omega, by omega, by omega, fun G42 e42 => ⟨by omega, by omega, fun G45 e45 G46 e46 => ?_⟩⟩⟩⟩⟩
  have g46 : ∀ c : Nat, c ≠ 63 → c ≠ 64 → c ≠ 65 → G46 c = Gr c := fun c h1 h2 h3 => by rw [e46, gu_row h3, e45, gu_row h2, e42, gu_row h1, e38, gu_row h1, e34, gu_row h1, e30, gu_row h1]
  have v65 : ∀ j : Int, G46 65 j = if j = zo then 1 else Gr 65 j := fun j => by
    have : G45 65 = Gr 65 := by rw [e45, gu_row (by decide), e42, gu_row (by decide), e38, gu_row (by decide), e34, gu_row (by decide), e30, gu_row (by decide)]
    by_cases e : j = zo
    · rw [if_pos e, e46, e, gu_s]
    · rw [if_neg e, e46, gu_i e, this]
  have v64 : ∀ j : Int, G46 64 j = if j = zo then l else Gr 64 j := fun j => by
    have : G42 64 = Gr 64 := by rw [e42, gu_row (by decide), e38, gu_row (by decide), e34, gu_row (by decide), e30, gu_row (by decide)]
    rw [e46, gu_c (by decide)]
    by_cases e : j = zo
    · rw [if_pos e, e45, e, gu_s]
    · rw [if_neg e, e45, gu_i e, this]
  have v63 : G46 63 = G42 63 := by rw [e46, gu_row (by decide), e45, gu_row (by decide)]
  have fo : ∀ c : Nat, c ≠ 51 → (c < 22 ∨ 33 < c) → F1 c = F c := fun c h1 h2 => by rw [eF]; exact zoF_o h1 (by omega) (by omega)
  obtain ⟨⟨k1, k2, k3, k4, k5⟩, ⟨k6, k7⟩, ⟨k8, k9⟩, k10, k11, k12, ⟨k13, k14⟩, k15⟩ := id k0
  have q4 := fo 4 (by decide) (by omega)
  have q11 := fo 11 (by decide) (by omega)
  have q2 := fo 2 (by decide) (by omega)
  have q44 := fo 44 (by decide) (by omega)
  have h54 := g46 54 (by decide) (by decide) (by decide)
  have h55 := g46 55 (by decide) (by decide) (by decide)
  have em := fun a => me_cg (F := F0) (F' := F0) (G := Gr) (G' := G46) rfl rfl h54 h55 a
  have mc : ∀ (p : Nat) (off : Int), p ≠ 63 → p ≠ 64 → p ≠ 65 → mC F0 G46 p off = mC F0 Gr p off := by
    intro p off h1 h2 h3
    funext g x y
    unfold mC cv
    rw [em, em, h55, g46 p h1 h2 h3]
  have vcs : ∀ (p : Nat), vC F1 G1 p = vC F G1 p := by
    intro p
    funext g x y
    unfold vC cv
    rw [q4, q11]
  rw [← ez]
  refine hq F0 G46 ⟨⟨mx_cg rfl rfl h54 h55 k1, by rw [q4]; exact k2, by rw [q11]; exact k3, fun q => by rw [isC_cg q4 rfl, em, h55]; exact k4 q, fun q => by rw [isC_cg q11 rfl, em, h55]; exact k5 q⟩, by rw [fo 3 (by decide) (by omega), fo 10 (by decide) (by omega), g46 56 (by decide) (by decide) (by decide)]; exact ⟨k6, k7⟩, by rw [q2]; exact ⟨k8, k9⟩, by rw [vcs, mc 57 0 (by decide) (by decide) (by decide), q4, q11]; exact k10, by rw [vcs, q4, q11, g46 59 (by decide) (by decide) (by decide)]; exact k11, fun j hj => ?_, ⟨by rw [q44]; exact k13, ?_⟩, fun zz z0 z1 => ?_⟩ ⟨fun c hc' => rs0.1 c hc', fun j j0 j1 => rs0.2.1 j (by omega) (by omega) (by omega), fun c hc' => g46 c (by omega) (by omega) (by omega)⟩
  · rw [q2] at hj
    rw [vcs, q4, q11, mc 58 _ (by decide) (by decide) (by decide), fo _ (by omega) (by omega), g46 60 (by decide) (by decide) (by decide), g46 61 (by decide) (by decide) (by decide)]
    exact k12 j hj
  · have ec : ct F1 G1 = ct F G1 := by
      funext i w
      unfold ct
      rw [q44]
    rw [ec, q44]
    unfold mt
    rw [g46 62 (by decide) (by decide) (by decide)]
    exact k14
  · by_cases e : zz = zo
    · subst e
      obtain ⟨p0, p1, p2, p3, p4, p5⟩ := zoF_r (F := F) (zo := zz) (x1 := x1) (y1 := y1) (x2 := x2) (y2 := y2) (l := l)
      rw [eF, p0, p1, p2, p3, p4, p5, v65, v64, if_pos rfl, if_pos rfl, v63, e42]
      refine ⟨rfl, fun _ => ⟨rfl, ?_, ?_, ?_, ?_⟩⟩
      · rw [gu_i (by omega), e38, gu_i (by omega), e34, gu_i (by omega), e30, gu_s]
      · rw [gu_i (by omega), e38, gu_i (by omega), e34, gu_s]
      · rw [gu_i (by omega), e38, gu_s]
      · rw [gu_s]
    · have g1 : F1 (22 + 2 * zz.toNat) = F (22 + 2 * zz.toNat) := by rw [eF]; exact zoF_o (by omega) (by omega) (by omega)
      have g2 : F1 (22 + 2 * zz.toNat + 1) = F (22 + 2 * zz.toNat + 1) := by rw [eF]; exact zoF_o (by omega) (by omega) (by omega)
      have o63 : ∀ j : Int, 4 * zz ≤ j → j ≤ 4 * zz + 3 → G42 63 j = Gr 63 j := fun j j0 j1 => by rw [e42, gu_i (by omega), e38, gu_i (by omega), e34, gu_i (by omega), e30, gu_i (by omega)]
      rw [g1, g2, v65, v64, if_neg e, if_neg e, v63, o63 _ (by omega) (by omega), o63 _ (by omega) (by omega), o63 _ (by omega) (by omega), o63 _ (by omega) (by omega)]
      exact k15 zz z0 z1
theorem prb_zone {d : Nat} {S : AS} {F : AF} {G : AG} {b : Int} (hd : 7 ≤ d) (h : Inv S F G b) (zo x1 y1 x2 y2 l : Int) : PrB d MX9_zone MX10_zone [vR 1, vI zo, vI x1, vI y1, vI x2, vI y2, vJ l] [vR 53, vI zo, vI x1, vI y1, vI x2, vI y2, vJ l] vJ S F G b :=
  prb_of (Sp := fun S1 F1 G1 z => S1 = S ∧ ZonS F F1 G G1 zo x1 y1 x2 y2 l z) h (fun Q hq => cs_zone (by omega) (inv_ci h).1 zo x1 y1 x2 y2 l (fun F1 G1 z a s c => hq S F1 G1 z ⟨rfl, a⟩ ⟨rfl, rfl⟩ s c)) (fun S1 F1 G1 z sp hsm k Q hq => cr_zone (by omega) hsm (inv_ci h).1 k sp.2 hq)
end
