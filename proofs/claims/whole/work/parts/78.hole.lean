/-! HOLES: those with one bottom -/
def Geq (F : AF) (a t l b : Int) : Prop := a < F 34 8 ∨ (a = F 34 8 ∧ (F 35 1 < t ∨ (F 35 1 = t ∧ (F 35 0 < l ∨ (F 35 0 = l ∧ F 35 3 ≤ b)))))
def Same2 (F F' : AF) : Prop := ∀ c : Nat, c ≠ 34 → c ≠ 35 → F' c = F c
def Imp (F F' : AF) : Prop := ∀ a t l b : Int, Geq F a t l b → Geq F' a t l b
def SameH (F F' : AF) : Prop := F' 34 8 = F 34 8 ∧ F' 35 = F 35
theorem pu_isAheadOfHole {d : Nat} {S : AS} {F : AF} {G : AG} (hsh : ShC S) (l t b : Int) : Pu d MX7_isAheadOfHole [vR 34, vI l, vI t, vI b] S F G (some (vI (bI (t < F 35 1 ∨ (t = F 35 1 ∧ (l < F 35 0 ∨ (l = F 35 0 ∧ b < F 35 3))))))) := by
  refine ok_go rfl (by decide) (Nat.le_of_ble_eq_true rfl) (R_X7_isAheadOfHole_0 hsh ?_)
  unfold V_X7_isAheadOfHole_0
  refine ⟨fun h1 => ⟨fun h2 => ⟨fun h3 => ⟨?_, rfl, rfl, rfl⟩, fun h3 => ⟨?_, rfl, rfl, rfl⟩⟩, fun h2 => ⟨fun h3 => ⟨?_, rfl, rfl, rfl⟩, fun h3 => ⟨?_, rfl, rfl, rfl⟩⟩⟩, fun h1 => ⟨fun h3 => ⟨?_, rfl, rfl, rfl⟩, fun h3 => ⟨?_, rfl, rfl, rfl⟩⟩⟩
  · rw [bI_f (by omega)]
  · rw [bI_t (by omega)]
  · rw [bI_f (by omega)]
  · rw [bI_t (by omega)]
  · rw [bI_f (by omega)]
  · rw [bI_t (by omega)]
theorem ok_takeHole {d : Nat} {S : AS} {F : AF} {G : AG} (hd : 1 ≤ d) (hsh : ShC S) {l t r b : Int} (l0 : 0 ≤ l) (lr : l ≤ r) (r1 : r ≤ 10000) (t0 : 0 ≤ t) (tb : t ≤ b) (b1 : b ≤ 10000) {Q : AQ} (hq : ∀ F' : AF, Same2 F F' → Imp F F' → Geq F' ((r - l + 1) * (b - t + 1)) t l b → (SameH F F' ∨ (F' 34 8 = (r - l + 1) * (b - t + 1) ∧ F' 35 0 = l ∧ F' 35 1 = t ∧ F' 35 2 = r ∧ F' 35 3 = b)) → Q none S F' G) : Ok d MX7_takeHole [vR 34, vI l, vI t, vI r, vI b] S F G Q := by
  have m := mul_bd (a := r - l + 1) (b := b - t + 1) (A := 10001) (B := 10001) (by omega) (by omega) (by omega) (by omega)
  have set' : (F 34 8 < (r - l + 1) * (b - t + 1) ∨ ((r - l + 1) * (b - t + 1) = F 34 8 ∧ (t < F 35 1 ∨ (t = F 35 1 ∧ (l < F 35 0 ∨ (l = F 35 0 ∧ b < F 35 3)))))) → V_X7_takeHole_47 d S F G Q l t r b ((r - l + 1) * (b - t + 1)) := by
    intro c
    unfold V_X7_takeHole_47
    intro F1 e1
    refine ⟨hd, ok_set (at_35 hsh) l t r b ⟨rfl, rfl, ?_⟩⟩
    have k8 : setR F1 35 l t r b 34 8 = (r - l + 1) * (b - t + 1) := by rw [setR_c (by decide), e1, fu_s]
    refine hq _ (fun c h1 h2 => by rw [setR_c h2, e1, fu_row h1]) (fun a' t' l' b' h => ?_) ?_ (Or.inr ⟨k8, setR_0, setR_1, setR_2, setR_3⟩)
    · unfold Geq at *
      rw [k8, setR_0, setR_1, setR_3]
      omega
    · unfold Geq
      rw [k8, setR_0, setR_1, setR_3]
      omega
  refine ok_go rfl (by decide) (Nat.le_of_ble_eq_true rfl) (R_X7_takeHole_0 hsh ?_)
  unfold V_X7_takeHole_0
  refine ⟨by omega, by omega, by omega, by omega, by omega, fun x6 e6 => ?_⟩
  subst e6
  refine ⟨fun y => set' (Or.inl y), fun y => ⟨fun y2 => hq F (fun _ _ _ => rfl) (fun _ _ _ _ h => h) ?_ (Or.inl ⟨rfl, rfl⟩), fun y2 => ⟨hd, _, pu_isAheadOfHole hsh l t b, fun z => hq F (fun _ _ _ => rfl) (fun _ _ _ _ h => h) ?_ (Or.inl ⟨rfl, rfl⟩), fun z => set' (Or.inr ⟨y2, ?_⟩)⟩⟩⟩
  · unfold Geq; omega
  · have := bI_0.mp z
    unfold Geq; omega
  · by_cases w : (t < F 35 1 ∨ (t = F 35 1 ∧ (l < F 35 0 ∨ (l = F 35 0 ∧ b < F 35 3))))
    · exact w
    · exact absurd (bI_f w) z
/-- a rectangle within a rectangle has fewer cells, or is it -/
theorem area_in {w h w' h' : Int} (w0 : 1 ≤ w) (ww : w ≤ w') (h0 : 1 ≤ h) (hh : h ≤ h') : w * h ≤ w' * h' ∧ (w * h = w' * h' → w = w' ∧ h = h') := by
  have p1 := Int.mul_nonneg (by omega : 0 ≤ w' - w) (by omega : 0 ≤ h')
  have p2 := Int.mul_nonneg (by omega : 0 ≤ w) (by omega : 0 ≤ h' - h)
  have i : w' * h' = w * h + (w' - w) * h' + w * (h' - h) := by
    simp only [Int.sub_mul, Int.mul_sub]
    omega
  refine ⟨by omega, fun e => ?_⟩
  have z1 : (w' - w) * h' = 0 := by omega
  have z2 : w * (h' - h) = 0 := by omega
  rcases Int.mul_eq_zero.mp z1 with y | y
  · rcases Int.mul_eq_zero.mp z2 with x | x
    · omega
    · exact ⟨by omega, by omega⟩
  · omega
theorem geq_in {F : AF} {l t r l' t' r' b : Int} (h : Geq F ((r' - l' + 1) * (b - t' + 1)) t' l' b) (a1 : l' ≤ l) (a2 : l ≤ r) (a3 : r ≤ r') (a4 : t' ≤ t) (a5 : t ≤ b) : Geq F ((r - l + 1) * (b - t + 1)) t l b := by
  have a := area_in (w := r - l + 1) (h := b - t + 1) (w' := r' - l' + 1) (h' := b - t' + 1) (by omega) (by omega) (by omega) (by omega)
  unfold Geq at *
  by_cases e : (r - l + 1) * (b - t + 1) = (r' - l' + 1) * (b - t' + 1)
  · have := a.2 e
    omega
  · omega
def Ent (G : AG) (B x t : Int) : Prop := ∃ k : Int, 0 ≤ k ∧ k < B ∧ G 37 k ≤ x ∧ G 38 k ≤ t
def Sok (cl ex : Int → Int) (i L T : Int) : Prop := ∃ a : Int, 0 ≤ a ∧ a < i ∧ L = ex a ∧ ∀ c : Int, a ≤ c → c < i → cl c ≤ T
def Clr (cl : Int → Int) (l r t : Int) : Prop := ∀ c : Int, l ≤ c → c ≤ r → cl c ≤ t
def IsCl (cl : Int → Int) (n t : Int) : Prop := ∃ c : Int, 0 ≤ c ∧ c < n ∧ t = cl c
/-- a hole with this bottom -/
def VB (cl ex : Int → Int) (n b x1 y1 x2 y2 : Int) : Prop := ∃ l r : Int, 0 ≤ l ∧ l ≤ r ∧ r < n ∧ x1 = ex l ∧ x2 = ex (r + 1) - 1 ∧ y2 = b ∧ 0 ≤ y1 ∧ y1 ≤ b ∧ IsCl cl n y1 ∧ Clr cl l r y1
def HAlt (F F' : AF) (cl ex : Int → Int) (n b : Int) : Prop := SameH F F' ∨ (VB cl ex n b (F' 35 0) (F' 35 1) (F' 35 2) (F' 35 3) ∧ F' 34 8 = (F' 35 2 - F' 35 0 + 1) * (F' 35 3 - F' 35 1 + 1))
theorem halt_tr {F F1 F2 : AF} {cl ex : Int → Int} {n b : Int} (h1 : HAlt F F1 cl ex n b) (h2 : HAlt F1 F2 cl ex n b) : HAlt F F2 cl ex n b := by
  rcases h2 with ⟨e1, e2⟩ | h2
  · rcases h1 with ⟨g1, g2⟩ | h1
    · exact Or.inl ⟨e1.trans g1, e2.trans g2⟩
    · refine Or.inr ?_
      rw [e1, e2]
      exact h1
  · exact Or.inr h2
def Cov (F : AF) (G : AG) (cl ex : Int → Int) (n b i B : Int) : Prop := ∀ l r t : Int, 0 ≤ l → l ≤ r → r < i → r < n → 0 ≤ t → t ≤ b → Clr cl l r t → Ent G B (ex l) t ∨ Geq F ((ex (r + 1) - 1 - ex l + 1) * (b - t + 1)) t (ex l) b
def Cur (G : AG) (cl ex : Int → Int) (b i B : Int) : Prop := ∀ l t : Int, 0 ≤ l → l < i → 0 ≤ t → t ≤ b → Clr cl l (i - 1) t → Ent G B (ex l) t
def Stk (G : AG) (cl ex : Int → Int) (n b i B : Int) : Prop := (∀ k : Int, 0 ≤ k → k < B → Sok cl ex i (G 37 k) (G 38 k) ∧ 0 ≤ G 38 k ∧ G 38 k ≤ b ∧ IsCl cl n (G 38 k)) ∧ ∀ k m : Int, 0 ≤ k → k ≤ m → m < B → G 37 k ≤ G 37 m ∧ (k < m → G 38 m < G 38 k)
