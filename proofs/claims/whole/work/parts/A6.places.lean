section
/-! PLACES OF A WINDOW -/
theorem sI_inc {f g : Int → Int} {n k : Int} (h : ∀ i : Int, 0 ≤ i → i < n → f i ≤ g i) (k0 : 0 ≤ k) (k1 : k < n) (hk : f k + 1 ≤ g k) : sI f n + 1 ≤ sI g n := by
  have e : sI g n = sI (fun i => (g i - (if i = k then 1 else 0)) + (if i = k then 1 else 0)) n := sI_congr (fun i _ _ => by omega)
  have o : sI (fun i => if i = k then (1 : Int) else 0) n = 1 := by
    rw [sI_one k0 k1 (fun i _ _ ne => if_neg ne), if_pos rfl]
  have l : sI f n ≤ sI (fun i => g i - (if i = k then 1 else 0)) n := sI_le (fun i i0 i1 => by
    by_cases c : i = k
    · rw [if_pos c, c]; omega
    · rw [if_neg c]; have := h i i0 i1; omega)
  rw [e, sI_add, o]
  omega
def PlR (F : AF) (G : AG) (a sz q : Int) : Prop := q = msz F a - sz ∨ (0 ≤ q ∧ q < msz F a - sz ∧ ∃ i : Int, 0 ≤ i ∧ i ≤ G 55 a ∧ (q = me F G a i ∨ q = me F G a i - sz))
def cntA (e : Int → Int) (n l : Int) : Int := sI (fun i => if e i ≤ l then 1 else 0) n
theorem cntA_le (e : Int → Int) {n : Int} (n0 : 0 ≤ n) (l : Int) : 0 ≤ cntA e n l ∧ cntA e n l ≤ n := by
  unfold cntA
  constructor
  · exact sI_pos (fun i _ _ => by split <;> omega)
  · have := sI_upi (f := fun i => if e i ≤ l then (1 : Int) else 0) (fun i => by split <;> omega) (a := 0) (c := n) (by omega) n0
    have z : sI (fun i => if e i ≤ l then (1 : Int) else 0) 0 = 0 := sI_0 _ (Int.le_refl 0)
    omega
theorem cntA_m {e : Int → Int} {n l l' : Int} (h : l ≤ l') : cntA e n l ≤ cntA e n l' := sI_le (fun i _ _ => by
  by_cases c : e i ≤ l
  · rw [if_pos c, if_pos (by omega)]; omega
  · rw [if_neg c]; split <;> omega)
theorem cntA_i {e : Int → Int} {n l l' k : Int} (h : l < l') (k0 : 0 ≤ k) (k1 : k < n) (e1 : e k = l') : cntA e n l + 1 ≤ cntA e n l' := sI_inc (fun i _ _ => by
  by_cases c : e i ≤ l
  · rw [if_pos c, if_pos (by omega)]; omega
  · rw [if_neg c]; split <;> omega) k0 k1 (by rw [if_neg (by omega), if_pos (by omega)]; omega)
def Nxt (F : AF) (G : AG) (a sz last i nx : Int) : Prop := last < nx ∧ nx ≤ msz F a - sz ∧ PlR F G a sz nx ∧ ∀ j : Int, 0 ≤ j → j < i → (last < me F G a j → nx ≤ me F G a j ∨ msz F a - sz ≤ me F G a j) ∧ (last < me F G a j - sz → nx ≤ me F G a j - sz)
def Laid (F : AF) (G G1 : AG) (row : Nat) (a sz m last : Int) : Prop := 0 ≤ m ∧ -1 ≤ last ∧ last ≤ msz F a - sz ∧ (∀ c : Nat, c ≠ row → G1 c = G c) ∧ (∀ i j : Int, 0 ≤ i → i < j → j < m → G1 row i < G1 row j) ∧ (∀ i : Int, 0 ≤ i → i < m → G1 row i ≤ last) ∧ (∀ q : Int, isB (G1 row) m q ↔ (PlR F G a sz q ∧ q ≤ last)) ∧ m ≤ cntA (me F G a) (G 55 a + 1) last + cntA (fun i => me F G a i - sz) (G 55 a + 1) last ∧ (0 ≤ last → 1 ≤ m)
theorem ok_laysPlaces {d : Nat} {S : AS} {F : AF} {G : AG} (hd : 2 ≤ d) (hsm : ShM S) (hx : MX F G) {a sz : Int} (a0 : 0 ≤ a) (a1 : a ≤ 1) (z0 : 1 ≤ sz) (z1 : sz ≤ msz F a) {row : Nat} (hrow : row = 75 ∨ row = 76) {Q : AQ} (hq : ∀ (G' : AG) (m : Int), (∀ c : Nat, c ≠ row → G' c = G c) → 1 ≤ m → m ≤ 98 → (∀ i j : Int, 0 ≤ i → i < j → j < m → G' row i < G' row j) → (∀ q : Int, isB (G' row) m q ↔ PlR F G a sz q) → Q (some (vI m)) S F G') : Ok d MX10_laysPlaces [vR 53, vI a, vI sz, vR row] S F G Q := by
  have hk : AtI S row := by
    rcases hrow with e | e
    · rw [e]; exact at_75 hsm
    · rw [e]; exact at_76 hsm
  have hN : (sN S row : Int) = 98 := by
    rcases hrow with e | e
    · rw [e, shm_n hsm 75 (by decide) (by decide)]; rfl
    · rw [e, shm_n hsm 76 (by decide) (by decide)]; rfl
  have r54 : (54 : Nat) ≠ row := by omega
  have r55 : (55 : Nat) ≠ row := by omega
  obtain ⟨n0, n48, w1, w2, -, rise⟩ := id (hx a a0 a1)
  have sq := sq_mx hx a0 a1
  have men : me F G a (G 55 a) = msz F a := me_n
  have mein := fun i (i0 : 0 ≤ i) (i1 : i ≤ G 55 a) => me_in hx a0 a1 i0 i1
  refine ok_go rfl (by decide) (Nat.le_of_ble_eq_true rfl) (R_X10_laysPlaces_0 hsm hk ?_)
  unfold V_X10_laysPlaces_0
  refine ⟨by omega, _, pu_sizeOf hsm a, by omega, fun most em => ?_⟩
  subst em
  have plle : ∀ q : Int, PlR F G a sz q → 0 ≤ q ∧ q ≤ msz F a - sz := by
    intro q p
    rcases p with p | ⟨p, p2, -⟩
    · omega
    · omega
  have main : ∀ (k : Nat) (m last : Int) (G1 : AG), msz F a - sz - last ≤ k → Laid F G G1 row a sz m last → Go d MX10_laysPlaces 15 [some (vR 53), some (vI a), some (vI sz), some (vR row), some (vI (msz F a - sz)), some (vI m), some (vI last), none, none, none] [] S F G1 Q := by
    intro k
    induction k with
    | zero =>
      intro m last G1 hk' ld
      obtain ⟨l1, l2, l3, l4, l5, l6, l7, l8, l9⟩ := ld
      refine R_X10_laysPlaces_15 hsm hk ?_
      unfold V_X10_laysPlaces_15
      have ca := cntA_le (me F G a) (n := G 55 a + 1) (by omega) last
      have cb := cntA_le (fun i => me F G a i - sz) (n := G 55 a + 1) (by omega) last
      exact ⟨fun _ => hq G1 m l4 (l9 (by omega)) (by omega) l5 (fun q => (l7 q).trans ⟨fun z => z.1, fun z => ⟨z, by have := plle q z; omega⟩⟩), fun z => absurd (by omega) z⟩
    | succ k ih =>
      intro m last G1 hk' ld
      obtain ⟨l1, l2, l3, l4, l5, l6, l7, l8, l9⟩ := id ld
      refine R_X10_laysPlaces_15 hsm hk ?_
      unfold V_X10_laysPlaces_15
      have ca := cntA_le (me F G a) (n := G 55 a + 1) (by omega) last
      have cb := cntA_le (fun i => me F G a i - sz) (n := G 55 a + 1) (by omega) last
      refine ⟨fun z => hq G1 m l4 (l9 (by omega)) (by omega) l5 (fun q => (l7 q).trans ⟨fun z => z.1, fun z => ⟨z, by have := plle q z; omega⟩⟩), fun z => ?_⟩
      have g55 : G1 55 = G 55 := l4 55 r55
      have g54 : G1 54 = G 54 := l4 54 r54
      have hx1 : MX F G1 := mx_cg rfl rfl g54 g55 hx
      have em := fun a => me_cg (F := F) (F' := F) (G := G) (G' := G1) rfl rfl g54 g55 a
      refine up_ind (α := Int) (G 55 a) (fun i nx => 0 ≤ i ∧ i ≤ G 55 a + 1 ∧ Nxt F G a sz last i nx) (fun i nx => Go d MX10_laysPlaces 29 [some (vR 53), some (vI a), some (vI sz), some (vR row), some (vI (msz F a - sz)), some (vI m), some (vI last), some (vI nx), some (vI i), none] [] S F G1 Q) ?_ ?_ 0 (msz F a - sz) ⟨by omega, by omega, by omega, by omega, Or.inl rfl, fun j j0 j1 => absurd j1 (by omega)⟩
      · rintro i nx ⟨i0, i1, x1, x2, x3, x4⟩ hi ih2
        have mi := mein i i0 hi
        have fin : ∀ nx2 at' : Int, Nxt F G a sz last (i + 1) nx2 → V_X10_laysPlaces_91 d S F G1 Q a sz row (msz F a - sz) m last nx2 i at' := by
          intro nx2 at' nn
          unfold V_X10_laysPlaces_91
          exact ⟨by omega, ih2 nx2 ⟨by omega, by omega, nn⟩⟩
        have mid : ∀ nx1 : Int, (last < nx1 ∧ nx1 ≤ msz F a - sz ∧ PlR F G a sz nx1 ∧ nx1 ≤ nx ∧ (last < me F G a i → nx1 ≤ me F G a i ∨ msz F a - sz ≤ me F G a i)) → V_X10_laysPlaces_67 d S F G1 Q a sz row (msz F a - sz) m last nx1 i (me F G a i) := by
          rintro nx1 ⟨y1, y2, y3, y4, y5⟩
          unfold V_X10_laysPlaces_67
          have all : ∀ nx2 : Int, nx2 ≤ nx1 → (last < me F G a i - sz → nx2 ≤ me F G a i - sz) → ∀ j : Int, 0 ≤ j → j < i + 1 → (last < me F G a j → nx2 ≤ me F G a j ∨ msz F a - sz ≤ me F G a j) ∧ (last < me F G a j - sz → nx2 ≤ me F G a j - sz) := by
            intro nx2 le h2 j j0 j1
            by_cases e : j = i
            · subst e
              exact ⟨fun z => by have := y5 z; omega, h2⟩
            · have := x4 j j0 (by omega)
              exact ⟨fun z => by have := this.1 z; omega, fun z => by have := this.2 z; omega⟩
          refine ⟨by omega, fun c => fin nx1 _ ⟨y1, y2, y3, all nx1 (Int.le_refl _) (fun z => absurd z (by omega))⟩, fun c => ⟨fun c2 => fin nx1 _ ⟨y1, y2, y3, all nx1 (Int.le_refl _) (fun _ => c2)⟩, fun c2 x2' e2 => fin x2' _ ?_⟩⟩
          subst e2
          exact ⟨by omega, by omega, Or.inr ⟨by omega, by omega, i, i0, hi, Or.inr rfl⟩, all _ (by omega) (fun _ => Int.le_refl _)⟩
        have pe := pu_edgeAt (d := d - 1) (S := S) (by omega) hsm hx1 (a := a) (i := i) a0 a1 i0 (by rw [g55]; exact hi)
        rw [em] at pe
        refine R_X10_laysPlaces_29 hsm hk ?_
        unfold V_X10_laysPlaces_29
        rw [g55]
        refine ⟨a0, by omega, fun y => absurd y (by omega), fun _ => ⟨by omega, _, pe, fun c => mid nx ⟨x1, x2, x3, Int.le_refl _, fun z' => absurd z' (by omega)⟩, fun c => ⟨fun c2 => mid nx ⟨x1, x2, x3, Int.le_refl _, fun _ => Or.inl c2⟩, fun c2 => mid _ ⟨by omega, by omega, Or.inr ⟨by omega, by omega, i, i0, hi, Or.inl rfl⟩, by omega, fun _ => Or.inl (Int.le_refl _)⟩⟩⟩⟩
      · rintro i nx ⟨i0, i1, x1, x2, x3, x4⟩ hi
        have inc : cntA (me F G a) (G 55 a + 1) last + cntA (fun i => me F G a i - sz) (G 55 a + 1) last + 1 ≤ cntA (me F G a) (G 55 a + 1) nx + cntA (fun i => me F G a i - sz) (G 55 a + 1) nx := by
          have m1 := cntA_m (e := me F G a) (n := G 55 a + 1) (l := last) (l' := nx) (by omega)
          have m2 := cntA_m (e := fun i => me F G a i - sz) (n := G 55 a + 1) (l := last) (l' := nx) (by omega)
          rcases x3 with e | ⟨-, -, t, t0, t1, e | e⟩
          · have := cntA_i (e := fun i => me F G a i - sz) (n := G 55 a + 1) (l := last) (l' := nx) (k := G 55 a) x1 (by omega) (by omega) (by rw [men, e])
            omega
          · have := cntA_i (e := me F G a) (n := G 55 a + 1) (l := last) (l' := nx) (k := t) x1 t0 (by omega) e.symm
            omega
          · have := cntA_i (e := fun i => me F G a i - sz) (n := G 55 a + 1) (l := last) (l' := nx) (k := t) x1 t0 (by omega) e.symm
            omega
        have ca' := cntA_le (me F G a) (n := G 55 a + 1) (by omega) nx
        have cb' := cntA_le (fun i => me F G a i - sz) (n := G 55 a + 1) (by omega) nx
        refine R_X10_laysPlaces_29 hsm hk ?_
        unfold V_X10_laysPlaces_29
        rw [g55]
        refine ⟨a0, by omega, fun _ => ⟨by omega, by rw [hN]; omega, fun G5 e5 => ⟨by omega, ih (m + 1) nx G5 (by omega) ?_⟩⟩, fun y => absurd (by omega) y⟩
        have pos : 0 ≤ nx := (plle nx x3).1
        refine ⟨by omega, by omega, x2, fun c hc => by rw [e5, gu_row hc]; exact l4 c hc, fun p q p0 pq qm => ?_, fun p p0 pm => ?_, fun q => ?_, by omega, fun _ => by omega⟩
        · by_cases c : q = m
          · rw [e5, c, gu_s, gu_i (by omega)]
            have := l6 p p0 (by omega)
            omega
          · rw [e5, gu_i (by omega), gu_i (by omega)]
            exact l5 p q p0 pq (by omega)
        · by_cases c : p = m
          · rw [e5, c, gu_s]; exact Int.le_refl _
          · rw [e5, gu_i c]
            have := l6 p p0 (by omega)
            omega
        · constructor
          · rintro ⟨p, p0, p1, pe⟩
            by_cases c : p = m
            · rw [e5, c, gu_s] at pe
              rw [← pe]
              exact ⟨x3, Int.le_refl _⟩
            · rw [e5, gu_i c] at pe
              have := (l7 q).mp ⟨p, p0, by omega, pe⟩
              exact ⟨this.1, by omega⟩
          · rintro ⟨pq, ql⟩
            by_cases c : q ≤ last
            · obtain ⟨p, p0, p1, pe⟩ := (l7 q).mpr ⟨pq, c⟩
              exact ⟨p, p0, by omega, by rw [e5, gu_i (by omega)]; exact pe⟩
            · have eq : q = nx := by
                rcases id pq with e | ⟨t1, t2, t, t3, t4, e | e⟩
                · omega
                · have := (x4 t t3 (by omega)).1 (by omega)
                  omega
                · have := (x4 t t3 (by omega)).2 (by omega)
                  omega
              exact ⟨m, by omega, by omega, by rw [e5, gu_s, eq]⟩
  refine main (msz F a - sz + 1).toNat 0 (-1) G (by omega) ⟨by omega, by omega, by omega, fun _ _ => rfl, fun i j i0 ij jm => absurd jm (by omega), fun i i0 im => absurd im (by omega), fun q => ⟨fun ⟨i, i0, i1, _⟩ => absurd i1 (by omega), fun z => absurd z.2 (by have := plle q z.1; omega)⟩, ?_, fun z => absurd z (by omega)⟩
  have ca := cntA_le (me F G a) (n := G 55 a + 1) (by omega) (-1)
  have cb := cntA_le (fun i => me F G a i - sz) (n := G 55 a + 1) (by omega) (-1)
  omega
end
