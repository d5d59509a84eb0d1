/-! THE REFERENCE'S LINES -/
theorem loc_ex {r p : Int → Int} {n k : Int} (n0 : 0 ≤ n) (k1 : 1 ≤ k) (k2 : k ≤ sI (fun i => r i * p i) n) : ∃ j l : Int, Loc r p n k j l := by
  have main : ∀ m : Nat, (m : Int) ≤ n → k ≤ sI (fun i => r i * p i) m → ∃ j l : Int, Loc r p n k j l := by
    intro m
    induction m with
    | zero =>
      intro _ h
      rw [sI_0 _ (by omega)] at h
      omega
    | succ m ih =>
      intro hm h
      have e : ((m + 1 : Nat) : Int) = (m : Int) + 1 := by omega
      rw [e, sI_1 _ (by omega)] at h
      by_cases w : k ≤ sI (fun i => r i * p i) m
      · exact ih (by omega) w
      · exact ⟨m, k - sI (fun i => r i * p i) m, by omega, by omega, rfl, by omega, by omega⟩
  have := main n.toNat (by omega)
  have e : (n.toNat : Int) = n := by omega
  rw [e] at this
  exact this k2
def mLN (F : AF) (G : AG) (g a : Int) : Int → Int := fun i => if a = 0 then colM F G g i 0 (F 53 2 - 1) else rowM F G g i 0 (F 53 1 - 1)
theorem mln_pos {F : AF} {G : AG} (hx : MX F G) (hb : MBA G) {g a i : Int} (hg : -1 ≤ g) (hg2 : g ≤ 2) (h0 : 0 ≤ a) (h1 : a ≤ 1) (i0 : 0 ≤ i) (i1 : i < G 55 a) : 0 ≤ mLN F G g a i := by
  unfold mLN
  by_cases w : a = 0
  · rw [if_pos w]
    subst w
    exact colM_pos hx hb hg hg2 i0 i1
  · rw [if_neg w]
    have : a = 1 := by omega
    subst this
    exact rowM_pos hx hb hg hg2 i0 i1
theorem pu_mmiddle {d : Nat} {S : AS} {F : AF} {G : AG} (hd : 5 ≤ d) (hsm : ShM S) (hx : MX F G) (hb : MBA G) {g a : Int} (hg : 0 ≤ g) (hg2 : g ≤ 2) (h0 : 0 ≤ a) (h1 : a ≤ 1) (u1 : 1 ≤ G 59 g) (u2 : G 59 g ≤ sI (fun b => mLN F G g a b * WD (me F G a) b) (G 55 a)) (hT : sI (fun b => mLN F G g a b * WD (me F G a) b) (G 55 a) ≤ 3000000000000000000) : ∃ b l : Int, Loc (mLN F G g a) (WD (me F G a)) (G 55 a) ((G 59 g + 1) / 2) b l ∧ 0 ≤ me F G a b + (l - 1) / mLN F G g a b ∧ me F G a b + (l - 1) / mLN F G g a b < msz F a ∧ Pu d MX10_middle [vR 53, vI g, vI a] S F G (some (vI (me F G a b + (l - 1) / mLN F G g a b))) := by
  obtain ⟨x1, x2, x3, x4, x5, x6⟩ := hx a h0 h1
  have pos : ∀ b : Int, 0 ≤ b → b < G 55 a → 0 ≤ mLN F G g a b * WD (me F G a) b := fun b b0 b1 => Int.mul_nonneg (mln_pos hx hb (by omega) hg2 h0 h1 b0 b1) (by have := x6 b b0 b1; unfold WD; omega)
  obtain ⟨B, L, hBL⟩ := loc_ex (r := mLN F G g a) (p := WD (me F G a)) (n := G 55 a) (k := (G 59 g + 1) / 2) (by omega) (by omega) (by omega)
  have hit0 := dv (mln_pos hx hb (by omega) hg2 h0 h1 hBL.1 hBL.2.1) hBL.2.2.2.1 hBL.2.2.2.2
  have mB := me_in hx h0 h1 (i := B) hBL.1 (by have := hBL.2.1; omega)
  have mB1 := me_in hx h0 h1 (i := B + 1) (by have := hBL.1; omega) (by have := hBL.2.1; omega)
  have dwB : WD (me F G a) B = me F G a (B + 1) - me F G a B := rfl
  refine ⟨B, L, hBL, by omega, by omega, ?_⟩
  refine ok_go rfl (by decide) (Nat.le_of_ble_eq_true rfl) (R_X10_middle_0 hsm ?_)
  unfold V_X10_middle_0
  rw [tdiv_pos (by omega)]
  refine ⟨hg, by omega, by omega, by omega, fun x5' e5 => ?_⟩
  refine up_ind (α := Int) (G 55 a - 1) (fun b l => 0 ≤ b ∧ b < G 55 a ∧ l = (G 59 g + 1) / 2 - sI (fun b => mLN F G g a b * WD (me F G a) b) b ∧ 1 ≤ l) (fun b l => Go d MX10_middle 16 [some (vR 53), some (vI g), some (vI a), some (vJ l), none, some (vI b), none, none, none, none] [] S F G (fun r' S' F' G' => r' = some (vI (me F G a B + (L - 1) / mLN F G g a B)) ∧ S' = S ∧ F' = F ∧ G' = G)) ?_ (fun b A hI hb' => absurd hI.2.1 (by omega)) 0 x5' ⟨by omega, by omega, by rw [sI_0 _ (by omega)]; omega, by omega⟩
  rintro b l ⟨b0, b1, el, l1⟩ - ih
  have sle := sI_at (f := fun b => mLN F G g a b * WD (me F G a) b) (n := G 55 a) (j := b) b0 b1 pos
  have sle' : mLN F G g a b * WD (me F G a) b ≤ sI (fun b => mLN F G g a b * WD (me F G a) b) (G 55 a) := sle
  have pj := pos b b0 b1
  have sp := sI_pos (f := fun b => mLN F G g a b * WD (me F G a) b) (n := b) (fun i i0 i1 => pos i i0 (by omega))
  have ss := sI_1 (fun b => mLN F G g a b * WD (me F G a) b) b0
  have f1 := me_in hx h0 h1 (i := b) b0 (by omega)
  have f2 := me_in hx h0 h1 (i := b + 1) (by omega) (by omega)
  have f3 := x6 b b0 b1
  have L0 := mln_pos hx hb (g := g) (by omega) hg2 h0 h1 b0 b1
  have pl : Pu (d - 1) MX10_lineOf [vR 53, vI g, vI a, vI b] S F G (some (vJ (mLN F G g a b))) := pu_lineOf (by omega) hsm hx hb (by omega) hg2 h0 h1 b0 b1
  have pe := pu_edgeAt (d := d - 1) (S := S) (by omega) hsm hx h0 h1 (i := b) b0 (by omega)
  have pe1 := pu_edgeAt (d := d - 1) (S := S) (by omega) hsm hx h0 h1 (i := b + 1) (by omega) (by omega)
  have ew : mLN F G g a b * (me F G a (b + 1) - me F G a b) = mLN F G g a b * WD (me F G a) b := rfl
  have dw : WD (me F G a) b = me F G a (b + 1) - me F G a b := rfl
  refine R_X10_middle_16 hsm ?_
  unfold V_X10_middle_16
  refine ⟨by omega, _, pl, by omega, _, pe1, _, pe, by omega, by rw [ew]; omega, fun x23 e23 => ?_⟩
  rw [ew] at e23
  refine ⟨fun y => ⟨by omega, fun x25 e25 => ih x25 ⟨by omega, ?_, by rw [ss]; omega, by omega⟩⟩, fun y => ?_⟩
  · by_cases w : b + 1 < G 55 a
    · exact w
    · have : b + 1 = G 55 a := by omega
      rw [this] at ss
      omega
  · have hit : l ≤ mLN F G g a b * WD (me F G a) b := by omega
    obtain ⟨D1, D2, D3, D4, D5, D6, D7, D8, D9⟩ := dv L0 l1 hit
    obtain ⟨q1, q2⟩ := loc_uniq pos hBL ⟨b0, b1, el, l1, hit⟩
    rw [tdiv_pos (by omega)]
    exact ⟨_, pe, by omega, by omega, by omega, by omega, by omega, by rw [q1, q2], rfl, rfl, rfl⟩
def hlv (t : Int) : Int := if t ≤ 3000000000000000000 then t else 3000000000000000001
theorem hl_v {r t : Int} (h : Hl r t) : r = hlv t := by
  unfold hlv
  rcases h with ⟨a, b⟩ | ⟨a, b⟩
  · rw [if_pos a, b]
  · rw [if_neg (by omega), b]
theorem pu_mhaul {d : Nat} {S : AS} {F : AF} {G : AG} (hd : 5 ≤ d) (hsm : ShM S) (hx : MX F G) (hb : MBA G) {g a p : Int} (hg : 0 ≤ g) (hg2 : g ≤ 2) (h0 : 0 ≤ a) (h1 : a ≤ 1) (p0 : 0 ≤ p) (p1 : p ≤ 10000) : Pu d MX10_haul [vR 53, vI g, vI a, vI p] S F G (some (vJ (hlv (sI (fun b => mLN F G g a b * farS (me F G a b) (me F G a (b + 1) - 1) p) (G 55 a))))) := by
  obtain ⟨x1, x2, x3, x4, x5, x6⟩ := hx a h0 h1
  have fb : ∀ b : Int, 0 ≤ b → b < G 55 a → 0 ≤ farS (me F G a b) (me F G a (b + 1) - 1) p ∧ farS (me F G a b) (me F G a (b + 1) - 1) p ≤ 500000000 := fun b b0 b1 => by
    have f1 := me_in hx h0 h1 (i := b) b0 (by omega)
    have f2 := me_in hx h0 h1 (i := b + 1) (by omega) (by omega)
    have f3 := x6 b b0 b1
    exact far_bd f1.1 (by omega) (by omega) p0 p1
  have pos : ∀ b : Int, 0 ≤ b → b < G 55 a → 0 ≤ mLN F G g a b * farS (me F G a b) (me F G a (b + 1) - 1) p := fun b b0 b1 => Int.mul_nonneg (mln_pos hx hb (by omega) hg2 h0 h1 b0 b1) (fb b b0 b1).1
  generalize hV : hlv (sI (fun b => mLN F G g a b * farS (me F G a b) (me F G a (b + 1) - 1) p) (G 55 a)) = V
  unfold hlv at hV
  refine ok_go rfl (by decide) (Nat.le_of_ble_eq_true rfl) (R_X10_haul_0 hsm ?_)
  unfold V_X10_haul_0
  refine up_ind (α := Int) (G 55 a - 1) (fun b s => 0 ≤ b ∧ b ≤ G 55 a ∧ s = sI (fun b => mLN F G g a b * farS (me F G a b) (me F G a (b + 1) - 1) p) b ∧ s ≤ 3000000000000000000) (fun b s => Go d MX10_haul 6 [some (vR 53), some (vI g), some (vI a), some (vI p), some (vJ s), none, some (vI b), none, none, none, none] [] S F G (fun r' S' F' G' => r' = some (vJ V) ∧ S' = S ∧ F' = F ∧ G' = G)) ?_ ?_ 0 0 ⟨by omega, by omega, by rw [sI_0 _ (by omega)], by omega⟩
  · rintro b s ⟨b0, b1, es, s1⟩ hb' ih
    have bN : b < G 55 a := by omega
    have L0 := mln_pos hx hb (g := g) (by omega) hg2 h0 h1 b0 bN
    have sp := sI_part (f := fun b => mLN F G g a b * farS (me F G a b) (me F G a (b + 1) - 1) p) (n := G 55 a) (m := b + 1) (by omega) (by omega) pos
    have s0 := sI_pos (f := fun b => mLN F G g a b * farS (me F G a b) (me F G a (b + 1) - 1) p) (n := b) (fun i i0 i1 => pos i i0 (by omega))
    have ss := sI_1 (fun b => mLN F G g a b * farS (me F G a b) (me F G a (b + 1) - 1) p) b0
    have f1 := me_in hx h0 h1 (i := b) b0 (by omega)
    have f2 := me_in hx h0 h1 (i := b + 1) (by omega) (by omega)
    have f3 := x6 b b0 bN
    have pb := pos b b0 bN
    have fbb := fb b b0 bN
    have pl : Pu (d - 1) MX10_lineOf [vR 53, vI g, vI a, vI b] S F G (some (vJ (mLN F G g a b))) := pu_lineOf (by omega) hsm hx hb (by omega) hg2 h0 h1 b0 bN
    have next : ∀ s' : Int, s' = s + mLN F G g a b * farS (me F G a b) (me F G a (b + 1) - 1) p → s' ≤ 3000000000000000000 → V_X10_haul_107 d S F G (fun r' S' F' G' => r' = some (vJ V) ∧ S' = S ∧ F' = F ∧ G' = G) g a p s' b (mLN F G g a b) (farS (me F G a b) (me F G a (b + 1) - 1) p) := by
      intro s' e1 e2
      unfold V_X10_haul_107
      exact ⟨by omega, ih s' ⟨by omega, by omega, by rw [ss]; omega, e2⟩⟩
    have over : 3000000000000000000 < s + mLN F G g a b * farS (me F G a b) (me F G a (b + 1) - 1) p → V = 3000000000000000001 := by
      intro z
      rw [ss] at sp
      have sp' : sI (fun b => mLN F G g a b * farS (me F G a b) (me F G a (b + 1) - 1) p) b + mLN F G g a b * farS (me F G a b) (me F G a (b + 1) - 1) p ≤ sI (fun b => mLN F G g a b * farS (me F G a b) (me F G a (b + 1) - 1) p) (G 55 a) := sp
      rw [if_neg (by omega)] at hV
      exact hV.symm
    refine R_X10_haul_6 hsm ?_
    unfold V_X10_haul_6
    refine ⟨h0, by omega, fun y => absurd y (by omega), fun _ => ⟨by omega, _, pl, _, pu_edgeAt (by omega) hsm hx h0 h1 b0 (by omega), by omega, _, pu_edgeAt (by omega) hsm hx h0 h1 (by omega) (by omega), by omega, _, pu_farAll (by omega) hsm f1.1 (by omega) (by omega) p0 p1, fun y => next s ?_ s1, fun y => ⟨fun y2 => ?_, fun y2 => next s ?_ s1⟩⟩⟩
    · rw [y, Int.zero_mul]; omega
    · rw [tdiv_pos (by omega)]
      have w0 : 0 < mLN F G g a b := by omega
      have dq := Int.ediv_nonneg (a := 3000000000000000000) (b := mLN F G g a b) (by omega) (by omega)
      have dq2 := Int.ediv_le_self (a := 3000000000000000000) (mLN F G g a b) (by omega)
      have dle := @Int.le_ediv_iff_mul_le (farS (me F G a b) (me F G a (b + 1) - 1) p) 3000000000000000000 (mLN F G g a b) w0
      rw [Int.mul_comm] at dle
      refine ⟨y, by omega, fun y3 => ?_, fun y3 => ⟨?_, rfl, rfl, rfl⟩⟩
      · have := dle.mp y3
        exact ⟨by omega, by omega, fun x34 e34 => ⟨fun y4 => next x34 e34 y4, fun y4 => ⟨by rw [over (by omega)], rfl, rfl, rfl⟩⟩⟩
      · have gt : 3000000000000000000 < mLN F G g a b * farS (me F G a b) (me F G a (b + 1) - 1) p := by
          by_cases z : mLN F G g a b * farS (me F G a b) (me F G a (b + 1) - 1) p ≤ 3000000000000000000
          · exact absurd (dle.mpr z) y3
          · omega
        rw [over (by omega)]
    · rw [y2, Int.mul_zero]; omega
  · rintro b s ⟨b0, b1, es, s1⟩ hb'
    have eb : b = G 55 a := by omega
    refine R_X10_haul_6 hsm ?_
    unfold V_X10_haul_6
    refine ⟨h0, by omega, fun _ => ⟨?_, rfl, rfl, rfl⟩, fun y => absurd y (by omega)⟩
    rw [eb] at es
    rw [← es, if_pos s1] at hV
    rw [hV]
