section
/-! HELPERS OF ACTS -/
abbrev recS (F : AF) (x1 y1 x2 y2 : Int) : Prop := 0 ≤ x1 ∧ x1 ≤ x2 ∧ x2 < F 4 2 ∧ 0 ≤ y1 ∧ y1 ≤ y2 ∧ y2 < F 11 2
theorem ss_51 {F : AF} {G : AG} (a b c d : Int) : SS F (setR F 51 a b c d) G G := ⟨fun q _ _ _ _ h _ => setR_c h, fun _ _ _ _ _ _ _ _ _ => rfl⟩
theorem ss_52 {F : AF} {G : AG} (a b c d : Int) : SS F (setR F 52 a b c d) G G := ⟨fun q _ _ _ _ _ h => setR_c h, fun _ _ _ _ _ _ _ _ _ => rfl⟩
theorem ss_34 {F F' : AF} {G : AG} (h : Same34 F F') : SS F F' G G := ⟨fun q _ _ h3 _ _ _ => h q h3, fun _ _ _ _ _ _ _ _ _ => rfl⟩
theorem ss_G {F : AF} {G G' : AG} (h : ∀ c : Nat, c ≠ 7 → c ≠ 8 → c ≠ 9 → c ≠ 14 → c ≠ 15 → c ≠ 16 → c ≠ 19 → G' c = G c) : SS F F G G' := ⟨fun _ _ _ _ _ _ _ => rfl, fun c a1 a2 a3 a4 a5 a6 a7 _ => h c a1 a2 a3 a4 a5 a6 a7⟩
theorem ok_askC {d : Nat} {S : AS} {F : AF} {G : AG} {b : Int} (hd : 1 ≤ d) (h : CI S F G b) (x1 y1 x2 y2 : Int) {Q : AQ} (hq : Q (some (vI (bI (recS F x1 y1 x2 y2)))) S (setR F 51 x1 y1 x2 y2) G) : Ok d MX9_ask [vR 1, vI x1, vI y1, vI x2, vI y2] S F G Q := by
  have hsh := h.1.1
  refine ok_go rfl (by decide) (Nat.le_of_ble_eq_true rfl) (R_X9_ask_0 hsh ?_)
  unfold V_X9_ask_0
  have hc : CC (setR F 51 x1 y1 x2 y2) G := cc_cg (setR_c (by decide)) (setR_c (by decide)) (setR_c (by decide)) rfl rfl h.2.1
  have ph := pu_holds (d := d - 1) (S := S) hsh (at_51 hsh) hc
  rw [setR_0, setR_1, setR_2, setR_3, setR_c (by decide), setR_c (by decide)] at ph
  exact ⟨hd, ok_set (at_51 hsh) x1 y1 x2 y2 ⟨rfl, rfl, _, ph, bI_r, hq⟩⟩
theorem ask_inC {S : AS} {F : AF} {G : AG} {b : Int} (h : CI S F G b) {x1 y1 x2 y2 : Int} (r : recS F x1 y1 x2 y2) : CI S (setR F 51 x1 y1 x2 y2) G b ∧ RG1 (setR F 51 x1 y1 x2 y2) 51 ∧ RI (setR F 51 x1 y1 x2 y2) 51 ∧ RO (setR F 51 x1 y1 x2 y2) 51 := by
  have c4 := h.2.1.1.2.2.2.1
  have c11 := h.2.1.2.1.2.2.2.1
  obtain ⟨r1, r2, r3, r4, r5, r6⟩ := r
  refine ⟨ci_ss h (ss_51 x1 y1 x2 y2), ?_, ?_, ?_⟩
  · unfold RG1
    rw [setR_0, setR_1, setR_2, setR_3, setR_c (by decide), setR_c (by decide)]
    omega
  · unfold RI
    rw [setR_0, setR_1, setR_2, setR_3, setR_c (by decide), setR_c (by decide)]
    omega
  · unfold RO
    rw [setR_0, setR_1, setR_2, setR_3]
    omega
theorem ci_pba {S : AS} {F : AF} {G : AG} {b : Int} (h : CI S F G b) : PBA F G 18 := pc_pba h.2.1 h.2.2.2.2.1 h.2.2.2.1.2.1
theorem ci_ct {S : AS} {F : AF} {G : AG} {b : Int} (h : CI S F G b) : CT F G 18 := pc_ct h.2.1 h.2.2.2.2.1
theorem ci_zi {S : AS} {F : AF} {G : AG} {b : Int} (h : CI S F G b) : ZI F := h.2.2.2.2.2.2.2.2.1
theorem ci_vC {S : AS} {F : AF} {G : AG} {b : Int} (h : CI S F G b) {g x y : Int} (g0 : 0 ≤ g) (g1 : g ≤ 2) (x0 : 0 ≤ x) (x1 : x < F 4 2) (y0 : 0 ≤ y) (y1 : y < F 11 2) : 0 ≤ vC F G 18 g x y ∧ vC F G 18 g x y ≤ 1000000000000 ∧ vu F G 18 (-1) x y ≤ F 2 7 ∧ vC F G 18 g x y ≤ vu F G 18 (-1) x y := by
  obtain ⟨a, b', c, d⟩ := h.2.2.2.2.1.1 x y x0 x1 y0 y1
  have hcap := h.2.2.2.1.2.1
  rw [vu_all, vu_g (by omega), vu_g (by omega), vu_g (by omega)]
  have : g = 0 ∨ g = 1 ∨ g = 2 := by omega
  rcases this with e | e | e <;> subst e <;> omega
def RgB (B : Int → Prop) (w : Int) : Prop := ∃ (e : Int → Int) (n : Int), Sq e n w ∧ n ≤ 48 ∧ ∀ q : Int, isB e n q ↔ B q
theorem rgb_iff {e : Int → Int} {n w : Int} {B : Int → Prop} (s : Sq e n w) (hb : ∀ q : Int, isB e n q ↔ B q) : n ≤ 48 ↔ RgB B w := by
  constructor
  · exact fun h => ⟨e, n, s, h, hb⟩
  · rintro ⟨e', n', s', h', hb'⟩
    have := (sq_uniq s s' (fun q => (hb q).trans (hb' q).symm)).1
    omega
theorem rgb_c {B B' : Int → Prop} {w : Int} (h : ∀ q : Int, B q ↔ B' q) : RgB B w ↔ RgB B' w := ⟨fun ⟨e, n, s, k, b⟩ => ⟨e, n, s, k, fun q => (b q).trans (h q)⟩, fun ⟨e, n, s, k, b⟩ => ⟨e, n, s, k, fun q => (b q).trans (h q).symm⟩⟩
abbrev NB (F : AF) (G : AG) (o : Nat) (P : Int → Prop) (q : Int) : Prop := isC F G o q ∨ (P q ∧ 0 < q ∧ q < F o 2)
theorem pln_ss {F F' : AF} {G G' : AG} {n m : Int} {P R : Int → Prop} (h : Pln F F' G G' n m P R) : SS F F' G G' := ⟨fun c h6 h13 _ _ _ _ => h.1 c h6 h13, fun c h7 _ _ h14 _ _ _ _ => h.2.1 c h7 h14⟩
theorem pln_room {F F' : AF} {G G' : AG} {n m : Int} {P R : Int → Prop} (h : Pln F F' G G' n m P R) : (F' 6 1 ≤ 48 ↔ RgB (NB F G 4 P) (F 4 2)) ∧ (F' 13 1 ≤ 48 ↔ RgB (NB F G 11 R) (F 11 2)) := by
  obtain ⟨h1, h2, h3, h4, h5, h6, h7, h8, h9, h10⟩ := h
  have s6 : Sq (G' (6 + 1)) (F' 6 1) (F 4 2) := by rw [← h5]; exact sq_co h3
  have s13 : Sq (G' (13 + 1)) (F' 13 1) (F 11 2) := by rw [← h6]; exact sq_co h4
  exact ⟨rgb_iff s6 h9, rgb_iff s13 h10⟩
theorem ok_stP {d : Nat} {S : AS} {F0 F : AF} {G0 G : AG} {n m : Int} {P R : Int → Prop} (hd : 2 ≤ d) (hsh : ShC S) (hc : CC F0 G0) (h : Pln F0 F G0 G n m P R) (n6 : F 6 1 ≤ 48) (n13 : F 13 1 ≤ 48) {g : Int} (g0 : 0 ≤ g) (g1 : g ≤ 2) {Q : AQ} (hq : ∀ G', (∀ c : Nat, c ≠ 8 → c ≠ 15 → c ≠ 19 → G' c = G c) → TS F G' (vC F0 G0 18 g) → Q none S F G') : Ok d MX2_startTrial [vR 2, vI g] S F G Q := by
  have ss := pln_ss h
  obtain ⟨⟨-, e2, e3, e4, e10, e11, e17, e44, e46⟩, ez, ⟨g5, g12, g18, g45, -⟩, es⟩ := ss_f ss
  obtain ⟨h1, h2, h3, h4, h5, h6, h7, h8, h9, h10⟩ := h
  have c6 : CO F G 6 48 := ⟨h3.1, n6, h3.2.2⟩
  have c13 : CO F G 13 48 := ⟨h4.1, n13, h4.2.2⟩
  refine ok_startTrialC hd hsh (cc_cg e4 e11 e17 g5 g12 hc) c6 c13 (by rw [e4]; exact h5) (by rw [e11]; exact h6) ?_ ?_ g0 g1 (fun G' k t => hq G' k ?_)
  · intro q hb
    rw [e4, g5] at hb
    exact (h9 q).mpr (Or.inl hb)
  · intro q hb
    rw [e11, g12] at hb
    exact (h10 q).mpr (Or.inl hb)
  · rw [ss_vC ss g18] at t
    exact t
theorem pln_dx {F F' : AF} {G G' : AG} {n m : Int} {P R : Int → Prop} (h : Pln F F' G G' n m P R) {q : Int} (q0 : 0 ≤ q) (q1 : q ≤ F 4 2) (hP : P q) : isD (G' 7) (F' 6 1) q := by
  obtain ⟨h1, h2, h3, h4, h5, h6, h7, h8, h9, h10⟩ := h
  have s6 : Sq (G' 7) (F' 6 1) (F 4 2) := by rw [← h5]; exact sq_co h3
  by_cases a : q = 0
  · rw [a]; exact isD_of (isB_0 s6)
  · by_cases b : q = F 4 2
    · rw [b]; exact isD_w s6
    · exact isD_of ((h9 q).mpr (Or.inr ⟨hP, by omega, by omega⟩))
theorem pln_dy {F F' : AF} {G G' : AG} {n m : Int} {P R : Int → Prop} (h : Pln F F' G G' n m P R) {q : Int} (q0 : 0 ≤ q) (q1 : q ≤ F 11 2) (hP : R q) : isD (G' 14) (F' 13 1) q := by
  obtain ⟨h1, h2, h3, h4, h5, h6, h7, h8, h9, h10⟩ := h
  have s6 : Sq (G' 14) (F' 13 1) (F 11 2) := by rw [← h6]; exact sq_co h4
  by_cases a : q = 0
  · rw [a]; exact isD_of (isB_0 s6)
  · by_cases b : q = F 11 2
    · rw [b]; exact isD_w s6
    · exact isD_of ((h10 q).mpr (Or.inr ⟨hP, by omega, by omega⟩))
/-- cells of the script and of the reference stay -/
def SFr (F F' : AF) (G G' : AG) : Prop := F' 1 = F 1 ∧ (∀ c : Nat, 45 < c → c < 78 → c ≠ 51 → c ≠ 52 → F' c = F c) ∧ ∀ c : Nat, 45 < c → c < 78 → G' c = G c
theorem sfr_ss {F F' : AF} {G G' : AG} (h : SS F F' G G') : SFr F F' G G' := ⟨h.1 1 (by decide) (by decide) (by decide) (by decide) (by decide) (by decide), fun c a b c1 c2 => h.1 c (by omega) (by omega) (by omega) (by omega) c1 c2, fun c a b => h.2 c (by omega) (by omega) (by omega) (by omega) (by omega) (by omega) (by omega) (by omega)⟩
theorem sfr_dn {F F1 : AF} {G G1 : AG} {g : Int} {T : Int → Int → Int} {PX PY : Int → Prop} {v : Int → Int} (h : SDn F F1 G G1 g T PX PY v) : SFr F F1 G G1 := ⟨h.1 1 (by decide) (by decide) (by decide) (by decide) (by decide) (by decide) (by decide) (by decide) (by decide) (by decide) (by decide) (by decide), fun c a b c1 c2 => h.1 c (by omega) (by omega) (by omega) (by omega) (by omega) (by omega) (by omega) (by omega) (by omega) (by omega) c1 c2, fun c a b => h.2.1 c (by omega) (by omega) (by omega) (by omega) (by omega) (by omega) (by omega) (by omega) (by omega) (by omega) (by omega) (by omega) (by omega)⟩
theorem ci_up {S : AS} {F : AF} {G : AG} {b c : Int} (h : CI S F G b) (k : b ≤ c) : CI S F G c := by
  obtain ⟨hA, hc, hl, hcap, h18, hs, hb, hT, hZ, hX⟩ := h
  exact ⟨hA, hc, hl, hcap, h18, hs, ⟨by omega, by omega⟩, hT, hZ, hX⟩
end
