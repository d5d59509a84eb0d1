section
/-! BOUND, VALUE -/
theorem min_cg {e e' e1 e1' : Int → Int} {n n1 : Int} {u u' : Int → Int → Int} (h1 : ∀ i : Int, 0 ≤ i → i ≤ n → e i = e' i) (h2 : ∀ i : Int, 0 ≤ i → i ≤ n1 → e1 i = e1' i) (h3 : ∀ i j : Int, 0 ≤ i → i < n → 0 ≤ j → j < n1 → u i j = u' i j) {x1 y1 x2 y2 v : Int} (h : MinIn e e1 n n1 u x1 y1 x2 y2 v) : MinIn e' e1' n n1 u' x1 y1 x2 y2 v := by
  obtain ⟨⟨i, j, a1, a2, a3, a4, a5, a6, a7⟩, k⟩ := h
  refine ⟨⟨i, j, a1, a2, a3, a4, ?_, ?_, ?_⟩, fun i j b1 b2 b3 b4 b5 b6 => ?_⟩
  · rw [← h1 i a1 (by omega), ← h1 (i + 1) (by omega) (by omega)]; exact a5
  · rw [← h2 j a3 (by omega), ← h2 (j + 1) (by omega) (by omega)]; exact a6
  · rw [← h3 i j a1 a2 a3 a4]; exact a7
  · rw [← h1 i b1 (by omega), ← h1 (i + 1) (by omega) (by omega)] at b5
    rw [← h2 j b3 (by omega), ← h2 (j + 1) (by omega) (by omega)] at b6
    rw [← h3 i j b1 b2 b3 b4]
    exact k i j b1 b2 b3 b4 b5 b6
theorem max_cg {e e' e1 e1' : Int → Int} {n n1 : Int} {u u' : Int → Int → Int} (h1 : ∀ i : Int, 0 ≤ i → i ≤ n → e i = e' i) (h2 : ∀ i : Int, 0 ≤ i → i ≤ n1 → e1 i = e1' i) (h3 : ∀ i j : Int, 0 ≤ i → i < n → 0 ≤ j → j < n1 → u i j = u' i j) {x1 y1 x2 y2 v : Int} (h : MaxIn e e1 n n1 u x1 y1 x2 y2 v) : MaxIn e' e1' n n1 u' x1 y1 x2 y2 v := by
  obtain ⟨⟨i, j, a1, a2, a3, a4, a5, a6, a7⟩, k⟩ := h
  refine ⟨⟨i, j, a1, a2, a3, a4, ?_, ?_, ?_⟩, fun i j b1 b2 b3 b4 b5 b6 => ?_⟩
  · rw [← h1 i a1 (by omega), ← h1 (i + 1) (by omega) (by omega)]; exact a5
  · rw [← h2 j a3 (by omega), ← h2 (j + 1) (by omega) (by omega)]; exact a6
  · rw [← h3 i j a1 a2 a3 a4]; exact a7
  · rw [← h1 i b1 (by omega), ← h1 (i + 1) (by omega) (by omega)] at b5
    rw [← h2 j b3 (by omega), ← h2 (j + 1) (by omega) (by omega)] at b6
    rw [← h3 i j b1 b2 b3 b4]
    exact k i j b1 b2 b3 b4 b5 b6
def BdV (F : AF) (G : AG) (g w x1 y1 x2 y2 z : Int) : Prop := (w = 0 → MinIn (me F G 0) (me F G 1) (G 55 0) (G 55 1) (mu G g) x1 y1 x2 y2 z) ∧ (w = 1 → MaxIn (me F G 0) (me F G 1) (G 55 0) (G 55 1) (mu G g) x1 y1 x2 y2 z)
def PBd (g x1 y1 x2 y2 w : Int) (F : AF) (G : AG) (z : Int) : Prop := (¬ ((-1 ≤ g ∧ g ≤ 2) ∧ recOK F x1 y1 x2 y2 ∧ 0 ≤ w ∧ w ≤ 1) ∧ z = -2) ∨ (((-1 ≤ g ∧ g ≤ 2) ∧ recOK F x1 y1 x2 y2 ∧ 0 ≤ w ∧ w ≤ 1) ∧ BdV F G g w x1 y1 x2 y2 z)
theorem pbd_uniq {g x1 y1 x2 y2 w : Int} {F : AF} {G : AG} {z z' : Int} (h : PBd g x1 y1 x2 y2 w F G z) (h' : PBd g x1 y1 x2 y2 w F G z') : z = z' := by
  rcases h with ⟨a, e⟩ | ⟨a, e⟩
  · rcases h' with ⟨a', e'⟩ | ⟨a', e'⟩
    · rw [e, e']
    · exact absurd a' a
  · rcases h' with ⟨a', e'⟩ | ⟨a', e'⟩
    · exact absurd a a'
    · have : w = 0 ∨ w = 1 := by have := a.2.2; omega
      rcases this with q | q
      · exact min_uniq (e.1 q) (e'.1 q)
      · exact max_uniq (e.2 q) (e'.2 q)
theorem pbd_scr {g x1 y1 x2 y2 w : Int} {F F1 : AF} {G G1 : AG} (k : Scr F F1 G G1) {z : Int} (h : PBd g x1 y1 x2 y2 w F1 G1 z) : PBd g x1 y1 x2 y2 w F G z := by
  unfold PBd BdV recOK at *
  rw [scr_me k, scr_me k, scr_mu k, (scr_g k).2.1, k.2.2.1.1, k.2.2.1.2.1] at h
  exact h
def Pd (F : AF) (G : AG) (x1 y1 x2 y2 i j a b : Int) : Prop := 0 ≤ a ∧ a < G 55 0 ∧ 0 ≤ b ∧ b < G 55 1 ∧ (a < i ∨ (a = i ∧ b < j)) ∧ ovB F G x1 y1 x2 y2 a b
def BdS (F : AF) (G : AG) (g w x1 y1 x2 y2 i j its : Int) : Prop := (its = -1 ∧ ∀ a b : Int, ¬ Pd F G x1 y1 x2 y2 i j a b) ∨ ((∃ a b : Int, Pd F G x1 y1 x2 y2 i j a b ∧ mu G g a b = its) ∧ 0 ≤ its ∧ ∀ a b : Int, Pd F G x1 y1 x2 y2 i j a b → (w = 0 → its ≤ mu G g a b) ∧ (¬ w = 0 → mu G g a b ≤ its))
theorem pd_s {F : AF} {G : AG} {x1 y1 x2 y2 i j a b : Int} (h : Pd F G x1 y1 x2 y2 i (j + 1) a b) : Pd F G x1 y1 x2 y2 i j a b ∨ ((a = i ∧ b = j) ∧ ovB F G x1 y1 x2 y2 i j) := by
  obtain ⟨h1, h2, h3, h4, h5, h6⟩ := h
  by_cases e : a = i ∧ b = j
  · refine Or.inr ⟨e, ?_⟩
    rw [← e.1, ← e.2]
    exact h6
  · exact Or.inl ⟨h1, h2, h3, h4, by omega, h6⟩
theorem pd_u {F : AF} {G : AG} {x1 y1 x2 y2 i j a b : Int} (h : Pd F G x1 y1 x2 y2 i j a b) : Pd F G x1 y1 x2 y2 i (j + 1) a b := by
  obtain ⟨h1, h2, h3, h4, h5, h6⟩ := h
  exact ⟨h1, h2, h3, h4, by omega, h6⟩
theorem bds_skip {F : AF} {G : AG} {g w x1 y1 x2 y2 i j its : Int} (h : BdS F G g w x1 y1 x2 y2 i j its) (no : ¬ ovB F G x1 y1 x2 y2 i j) : BdS F G g w x1 y1 x2 y2 i (j + 1) its := by
  rcases h with ⟨e, k⟩ | ⟨⟨a, b, p, q⟩, c, k⟩
  · exact Or.inl ⟨e, fun a b p => (pd_s p).elim (k a b) (fun z => no z.2)⟩
  · exact Or.inr ⟨⟨a, b, pd_u p, q⟩, c, fun a b p => (pd_s p).elim (k a b) (fun z => absurd z.2 no)⟩
theorem bds_new {F : AF} {G : AG} {g w x1 y1 x2 y2 i j its : Int} (h : BdS F G g w x1 y1 x2 y2 i j its) (i0 : 0 ≤ i) (i1 : i < G 55 0) (j0 : 0 ≤ j) (j1 : j < G 55 1) (o : ovB F G x1 y1 x2 y2 i j) (m0 : 0 ≤ mu G g i j) (bt : its = -1 ∨ ((w = 0 → mu G g i j ≤ its) ∧ (¬ w = 0 → its ≤ mu G g i j))) : BdS F G g w x1 y1 x2 y2 i (j + 1) (mu G g i j) := by
  refine Or.inr ⟨⟨i, j, ⟨i0, i1, j0, j1, by omega, o⟩, rfl⟩, m0, fun a b p => ?_⟩
  rcases pd_s p with p | ⟨⟨e1, e2⟩, -⟩
  · rcases h with ⟨e, k⟩ | ⟨⟨a', b', p', q⟩, c, k⟩
    · exact absurd p (k a b)
    · have := k a b p
      rcases bt with bt | bt
      · omega
      · refine ⟨fun w0 => ?_, fun w0 => ?_⟩
        · have := this.1 w0
          have := bt.1 w0
          omega
        · have := this.2 w0
          have := bt.2 w0
          omega
  · rw [e1, e2]
    exact ⟨fun _ => Int.le_refl _, fun _ => Int.le_refl _⟩
theorem bds_old {F : AF} {G : AG} {g w x1 y1 x2 y2 i j its : Int} (h : BdS F G g w x1 y1 x2 y2 i j its) (n : ¬ its = -1) (bt : (w = 0 → its ≤ mu G g i j) ∧ (¬ w = 0 → mu G g i j ≤ its)) : BdS F G g w x1 y1 x2 y2 i (j + 1) its := by
  rcases h with ⟨e, k⟩ | ⟨⟨a, b, p, q⟩, c, k⟩
  · exact absurd e n
  · refine Or.inr ⟨⟨a, b, pd_u p, q⟩, c, fun a b p => ?_⟩
    rcases pd_s p with p | ⟨⟨e1, e2⟩, -⟩
    · exact k a b p
    · rw [e1, e2]
      exact bt
theorem bds_n {F : AF} {G : AG} {g w x1 y1 x2 y2 i j its : Int} (h : BdS F G g w x1 y1 x2 y2 i j its) (hj : G 55 1 ≤ j) : BdS F G g w x1 y1 x2 y2 (i + 1) 0 its := by
  have e : ∀ a b : Int, Pd F G x1 y1 x2 y2 (i + 1) 0 a b ↔ Pd F G x1 y1 x2 y2 i j a b := fun a b => by
    unfold Pd
    refine ⟨fun ⟨h1, h2, h3, h4, h5, h6⟩ => ⟨h1, h2, h3, h4, by omega, h6⟩, fun ⟨h1, h2, h3, h4, h5, h6⟩ => ⟨h1, h2, h3, h4, by omega, h6⟩⟩
  rcases h with ⟨z, k⟩ | ⟨⟨a, b, p, q⟩, c, k⟩
  · exact Or.inl ⟨z, fun a b p => k a b ((e a b).mp p)⟩
  · exact Or.inr ⟨⟨a, b, (e a b).mpr p, q⟩, c, fun a b p => k a b ((e a b).mp p)⟩
theorem pr_bound {d : Nat} {S : AS} {F : AF} {G : AG} {b : Int} (hd : 5 ≤ d) (h : Inv S F G b) (g x1 y1 x2 y2 w : Int) : Pr d MX9_bound MX10_bound [vR 1, vI g, vI x1, vI y1, vI x2, vI y2, vI w] [vR 53, vI g, vI x1, vI y1, vI x2, vI y2, vI w] vJ S F G b := by
  refine pr_rel (P := PBd g x1 y1 x2 y2 w) h (fun z z' p p' => pbd_uniq p p') (fun F1 G1 k z p => pbd_scr k p) (fun Q hq => ?_) (fun F G h Q hq => ?_)
  · have hsh := inv_shc h
    refine ok_go rfl (by decide) (Nat.le_of_ble_eq_true rfl) (R_X9_bound_0 hsh ?_)
    unfold V_X9_bound_0
    refine ⟨by omega, _, pu_cisGoodOrAll (by omega) hsh g, fun q => hq F G _ (scr_rf F G) (Or.inl ⟨fun z => bI_0.mp q z.1, rfl⟩), fun q => ok_ask (by omega) h _ _ _ _ ⟨rfl, _, rfl, fun q2 => hq _ G _ (scr_51 _ _ _ _) (Or.inl ⟨fun z => bI_0.mp q2 z.2.1, rfl⟩), fun q2 => ?_⟩⟩
    have yg : -1 ≤ g ∧ g ≤ 2 := Classical.byContradiction (fun z => q (bI_f z))
    have yr : recOK F x1 y1 x2 y2 := Classical.byContradiction (fun z => q2 (bI_f z))
    have k := scr_51 (F := F) (G := G) x1 y1 x2 y2
    obtain ⟨hI, hr1, -, -⟩ := ask_in h yr
    obtain ⟨n0, n1, rx, ry⟩ := inv_rows hI.2.1
    have cu' : ∀ i j : Int, 0 ≤ i → i < setR F 51 x1 y1 x2 y2 4 1 → 0 ≤ j → j < setR F 51 x1 y1 x2 y2 11 1 → cu G 18 g i j = mu G g i j := fun i j i0 i1 j0 j1 => inv_cu hI yg.1 yg.2 i0 i1 j0 j1
    refine ⟨fun q3 => hq _ G _ k (Or.inl ⟨fun z => by have := z.2.2; omega, rfl⟩), fun q3 => ⟨fun q4 => ⟨fun q5 => ?_, fun q5 => ?_⟩, fun q4 => hq _ G _ k (Or.inl ⟨fun z => by have := z.2.2; omega, rfl⟩)⟩⟩
    · obtain ⟨v, mi, pv⟩ := pu_mostIn (d := d - 1) (by omega) hsh (inv_cc hI) (at_51 hsh) (inv_pba hI) yg.1 yg.2 hr1
      rw [setR_0, setR_1, setR_2, setR_3] at mi
      have mi2 := max_cg rx ry cu' mi
      rw [n0, n1] at mi2
      exact ⟨_, pv, hq _ G _ k (pbd_scr k (Or.inr ⟨⟨yg, by unfold recOK; rw [k.2.2.1.1, k.2.2.1.2.1]; exact yr, by omega, by omega⟩, fun z => absurd z q5, fun _ => mi2⟩))⟩
    · obtain ⟨v, mi, pv⟩ := pu_leastIn (d := d - 1) (by omega) hsh (inv_cc hI) (at_51 hsh) (inv_pba hI) yg.1 yg.2 hr1
      rw [setR_0, setR_1, setR_2, setR_3] at mi
      have mi2 := min_cg rx ry cu' mi
      rw [n0, n1] at mi2
      exact ⟨_, pv, hq _ G _ k (pbd_scr k (Or.inr ⟨⟨yg, by unfold recOK; rw [k.2.2.1.1, k.2.2.1.2.1]; exact yr, by omega, by omega⟩, fun _ => mi2, fun z => absurd z (by omega)⟩))⟩
  · have hsm := inv_shm h
    refine ok_go rfl (by decide) (Nat.le_of_ble_eq_true rfl) (R_X10_bound_0 hsm ?_)
    unfold V_X10_bound_0
    intro F1 e1
    subst e1
    have k := scr_thrown (F := F) (G := G)
    have h1 := inv_scr h k
    have hq' : ∀ (z : Int), PBd g x1 y1 x2 y2 w (fu F 53 0 0) G z → Q (some (vJ z)) S (fu F 53 0 0) G := fun z p => hq _ G z k (pbd_scr k p)
    clear hq
    generalize hF1 : fu F 53 0 0 = F1 at *
    have sz := inv_sz h1
    have hx := inv_mx h1
    have mba := inv_mba h1
    refine ⟨by omega, _, pu_isGoodOrAll (by omega) hsm g, fun q => hq' _ (Or.inl ⟨fun z => bI_0.mp q z.1, rfl⟩), fun q => ⟨_, pu_isRectangle hsm _ _ _ _, fun q2 => hq' _ (Or.inl ⟨fun z => bI_0.mp q2 z.2.1, rfl⟩), fun q2 => ⟨_, pu_isIn hsm _ _ _, fun q3 => ?_, fun q3 => hq' _ (Or.inl ⟨fun z => bI_0.mp q3 z.2.2, rfl⟩)⟩⟩⟩
    have yg : -1 ≤ g ∧ g ≤ 2 := Classical.byContradiction (fun z => q (bI_f z))
    have yr : recOK F1 x1 y1 x2 y2 := Classical.byContradiction (fun z => q2 (bI_f z))
    have yw : 0 ≤ w ∧ w ≤ 1 := Classical.byContradiction (fun z => q3 (bI_f z))
    obtain ⟨r1, r2, r3, r4, r5, r6⟩ := id yr
    have n1 := (hx 0 (by omega) (by omega)).2.1
    have n2 := (hx 1 (by omega) (by omega)).2.1
    have n0 := (hx 0 (by omega) (by omega)).1
    have w1 := (hx 0 (by omega) (by omega)).2.2.2.1
    have w2 := (hx 1 (by omega) (by omega)).2.2.2.1
    rw [msz_0] at w1
    rw [msz_1] at w2
    refine up_ind (α := Int) (G 55 0 - 1) (fun i its => 0 ≤ i ∧ i ≤ G 55 0 ∧ BdS F1 G g w x1 y1 x2 y2 i 0 its) (fun i its => Go d MX10_bound 48 [some (vR 53), some (vI g), some (vI x1), some (vI y1), some (vI x2), some (vI y2), some (vI w), some (vJ its), none, some (vI i), none, none, none] [] S F1 G Q) ?_ ?_ 0 (-1) ⟨by omega, by omega, Or.inl ⟨rfl, fun a b p => by have := p.1; have := p.2.2.1; have := p.2.2.2.2.1; omega⟩⟩
    · rintro i its ⟨i0, i1, bd⟩ hi ih
      refine R_X10_bound_48 hsm ?_
      unfold V_X10_bound_48
      refine ⟨fun y => absurd y (by omega), fun _ => ?_⟩
      refine up_ind (α := Int) (G 55 1 - 1) (fun j its => 0 ≤ j ∧ BdS F1 G g w x1 y1 x2 y2 i j its) (fun j its => Go d MX10_bound 62 [some (vR 53), some (vI g), some (vI x1), some (vI y1), some (vI x2), some (vI y2), some (vI w), some (vJ its), none, some (vI i), some (vI j), none, none] [] S F1 G Q) ?_ ?_ 0 its ⟨by omega, bd⟩
      · rintro j it2 ⟨j0, bd2⟩ hj ih2
        have next : ∀ v : Int, BdS F1 G g w x1 y1 x2 y2 i (j + 1) v → V_X10_bound_150 d S F1 G Q g x1 y1 x2 y2 w v i j := by
          intro v bv
          unfold V_X10_bound_150
          exact ⟨by omega, ih2 v ⟨by omega, bv⟩⟩
        have p0 := pu_part (d := d - 1) (S := S) (F := F1) (G := G) (by omega) hsm hx (a := 0) (i := i) (x := x1) (y := x2) (by omega) (by omega) i0 (by omega) (by omega) (by omega) (by omega) (by omega)
        have p1 := pu_part (d := d - 1) (S := S) (F := F1) (G := G) (by omega) hsm hx (a := 1) (i := j) (x := y1) (y := y2) (by omega) (by omega) j0 (by omega) (by omega) (by omega) (by omega) (by omega)
        have o1 := ov_pos (me F1 G 0 i) (me F1 G 0 (i + 1)) x1 x2
        have o2 := ov_pos (me F1 G 1 j) (me F1 G 1 (j + 1)) y1 y2
        have pi := pu_in (d := d - 1) (S := S) (F := F1) (by omega) hsm (mba i j i0 (by omega) j0 (by omega)) yg.1 yg.2 i0 (by omega) j0 (by omega)
        have mi := mu_in (mba i j i0 (by omega) j0 (by omega)) yg.1 yg.2
        refine R_X10_bound_62 hsm ?_
        unfold V_X10_bound_62
        refine ⟨fun y => absurd y (by omega), fun _ => ⟨by omega, _, p0, fun z => next _ (bds_skip bd2 (fun o => by have := o.1; omega)), fun z => ⟨_, p1, fun z2 => ?_, fun z2 => next _ (bds_skip bd2 (fun o => by have := o.2; omega))⟩⟩⟩
        have ob : ovB F1 G x1 y1 x2 y2 i j := ⟨by omega, by omega⟩
        have nw' : (it2 = -1 ∨ ((w = 0 → mu G g i j ≤ it2) ∧ (¬ w = 0 → it2 ≤ mu G g i j))) → V_X10_bound_146 d S F1 G Q g x1 y1 x2 y2 w it2 i j (mu G g i j) := by
          intro bt
          unfold V_X10_bound_146
          exact next _ (bds_new bd2 i0 (by omega) j0 (by omega) ob mi.1 bt)
        exact ⟨_, pi, fun e => nw' (Or.inl e), fun e => ⟨fun w0 => ⟨fun c => next _ (bds_old bd2 e ⟨fun z => absurd z w0, fun _ => c⟩), fun c => nw' (Or.inr ⟨fun z => absurd z w0, fun _ => by omega⟩)⟩, fun w0 => ⟨fun c => next _ (bds_old bd2 e ⟨fun _ => c, fun z => absurd w0 z⟩), fun c => nw' (Or.inr ⟨fun _ => by omega, fun z => absurd w0 z⟩)⟩⟩⟩
      · rintro j it2 ⟨j0, bd2⟩ hj
        refine R_X10_bound_62 hsm ?_
        unfold V_X10_bound_62
        exact ⟨fun _ => ⟨by omega, ih it2 ⟨by omega, by omega, bds_n bd2 (by omega)⟩⟩, fun y => absurd y (by omega)⟩
    · rintro i its ⟨i0, i1, bd⟩ hi
      refine R_X10_bound_48 hsm ?_
      unfold V_X10_bound_48
      refine ⟨fun _ => hq' its (Or.inr ⟨⟨yg, yr, yw⟩, ?_⟩), fun y => absurd y (by omega)⟩
      have bx := mb_spec hx (a := 0) (p := x1) (by omega) (by omega) r1 (by rw [msz_0]; omega)
      have by' := mb_spec hx (a := 1) (p := y1) (by omega) (by omega) r4 (by rw [msz_1]; omega)
      have ex : Pd F1 G x1 y1 x2 y2 i 0 (mb F1 G 0 x1) (mb F1 G 1 y1) := ⟨bx.1, bx.2.1, by'.1, by'.2.1, by omega, ov_blk (sq_x hx) r1 (by omega) (Int.le_refl _) r2, ov_blk (sq_y hx) r4 (by omega) (Int.le_refl _) r5⟩
      have all : ∀ a b : Int, 0 ≤ a → a < G 55 0 → 0 ≤ b → b < G 55 1 → 0 < ov (me F1 G 0 a) (me F1 G 0 (a + 1)) x1 x2 → 0 < ov (me F1 G 1 b) (me F1 G 1 (b + 1)) y1 y2 → Pd F1 G x1 y1 x2 y2 i 0 a b := fun a b a0 a1 b0 b1 o1 o2 => ⟨a0, a1, b0, b1, by omega, o1, o2⟩
      rcases bd with ⟨-, kk⟩ | ⟨⟨a, c, p, pe⟩, -, kk⟩
      · exact absurd ex (kk _ _)
      · obtain ⟨t1, t2, t3, t4, -, t5, t6⟩ := p
        exact ⟨fun w0 => ⟨⟨a, c, t1, t2, t3, t4, t5, t6, pe⟩, fun a b a0 a1 b0 b1 o1 o2 => (kk a b (all a b a0 a1 b0 b1 o1 o2)).1 w0⟩, fun w1' => ⟨⟨a, c, t1, t2, t3, t4, t5, t6, pe⟩, fun a b a0 a1 b0 b1 o1 o2 => (kk a b (all a b a0 a1 b0 b1 o1 o2)).2 (by omega)⟩⟩
/-! VALUE -/
theorem nF_anti {F : AF} {G : AG} {g x1 y1 x2 y2 s t : Int} (h : s ≤ t) : nFrom F G g t x1 y1 x2 y2 ≤ nFrom F G g s x1 y1 x2 y2 := by
  unfold nFrom
  refine aS_le (fun x y _ _ _ _ => ?_)
  by_cases c : mv F G g x y < s
  · rw [if_pos c, if_pos (by omega)]; omega
  · rw [if_neg c]
    split <;> omega
def PVa (g x1 y1 x2 y2 n : Int) (F : AF) (G : AG) (z : Int) : Prop := (¬ ((-1 ≤ g ∧ g ≤ 2) ∧ recOK F x1 y1 x2 y2) ∧ z = -2) ∨ (((-1 ≤ g ∧ g ≤ 2) ∧ recOK F x1 y1 x2 y2) ∧ ((¬ 1 ≤ n ∧ z = -3) ∨ (1 ≤ n ∧ ((¬ n ≤ (x2 - x1 + 1) * (y2 - y1 + 1) ∧ z = -1) ∨ (n ≤ (x2 - x1 + 1) * (y2 - y1 + 1) ∧ Rank (fun t => nFrom F G g t x1 y1 x2 y2) ((x2 - x1 + 1) * (y2 - y1 + 1)) n z)))))
theorem pva_uniq {g x1 y1 x2 y2 n : Int} {F : AF} {G : AG} {z z' : Int} (h : PVa g x1 y1 x2 y2 n F G z) (h' : PVa g x1 y1 x2 y2 n F G z') : z = z' := by
  rcases h with ⟨a, e⟩ | ⟨a, e⟩
  · rcases h' with ⟨a', e'⟩ | ⟨a', e'⟩
    · rw [e, e']
    · exact absurd a' a
  · rcases h' with ⟨a', e'⟩ | ⟨a', e'⟩
    · exact absurd a a'
    · rcases e with ⟨c, e⟩ | ⟨c, e⟩
      · rcases e' with ⟨c', e'⟩ | ⟨c', e'⟩
        · rw [e, e']
        · exact absurd c' c
      · rcases e' with ⟨c', e'⟩ | ⟨c', e'⟩
        · exact absurd c c'
        · rcases e with ⟨f, e⟩ | ⟨f, e⟩
          · rcases e' with ⟨f', e'⟩ | ⟨f', e'⟩
            · rw [e, e']
            · exact absurd f' f
          · rcases e' with ⟨f', e'⟩ | ⟨f', e'⟩
            · exact absurd f f'
            · exact rank_uniq (fun s t h => nF_anti h) e e'
theorem pva_scr {g x1 y1 x2 y2 n : Int} {F F1 : AF} {G G1 : AG} (k : Scr F F1 G G1) {z : Int} (h : PVa g x1 y1 x2 y2 n F1 G1 z) : PVa g x1 y1 x2 y2 n F G z := by
  unfold PVa nFrom recOK at *
  rw [scr_mv k, k.2.2.1.1, k.2.2.1.2.1] at h
  exact h
theorem pr_value {d : Nat} {S : AS} {F : AF} {G : AG} {b : Int} (hd : 6 ≤ d) (h : Inv S F G b) (g x1 y1 x2 y2 n : Int) (hn : r64 n) : Pr d MX9_value MX10_value [vR 1, vI g, vI x1, vI y1, vI x2, vI y2, vJ n] [vR 53, vI g, vI x1, vI y1, vI x2, vI y2, vJ n] vJ S F G b := by
  refine pr_rel (P := PVa g x1 y1 x2 y2 n) h (fun z z' p p' => pva_uniq p p') (fun F1 G1 k z p => pva_scr k p) (fun Q hq => ?_) (fun F G h Q hq => ?_)
  · have hsh := inv_shc h
    refine ok_go rfl (by decide) (Nat.le_of_ble_eq_true rfl) (R_X9_value_0 hsh ?_)
    unfold V_X9_value_0
    refine ⟨by omega, _, pu_cisGoodOrAll (by omega) hsh g, fun q => hq F G _ (scr_rf F G) (Or.inl ⟨fun z => bI_0.mp q z.1, rfl⟩), fun q => ok_ask (by omega) h _ _ _ _ ⟨rfl, _, rfl, fun q2 => ?_, fun q2 => hq _ G _ (scr_51 _ _ _ _) (Or.inl ⟨fun z => bI_0.mp q2 z.2, rfl⟩)⟩⟩
    have yg : -1 ≤ g ∧ g ≤ 2 := Classical.byContradiction (fun z => q (bI_f z))
    have yr : recOK F x1 y1 x2 y2 := Classical.byContradiction (fun z => q2 (bI_f z))
    have k := scr_51 (F := F) (G := G) x1 y1 x2 y2
    obtain ⟨hI, hr1, -, hro⟩ := ask_in h yr
    have yr' : recOK (setR F 51 x1 y1 x2 y2) x1 y1 x2 y2 := by
      unfold recOK
      rw [k.2.2.1.1, k.2.2.1.2.1]
      exact yr
    have pc := pu_cells (d := d - 1) (S := S) (G := G) (by omega) (at_51 hsh) hro
    rw [setR_0, setR_1, setR_2, setR_3] at pc
    refine ⟨fun n1 => ⟨_, pc, fun n2 => ?_, fun n2 => hq _ G _ k (Or.inr ⟨⟨yg, yr⟩, Or.inr ⟨n1, Or.inl ⟨n2, rfl⟩⟩⟩)⟩, fun n1 => hq _ G _ k (Or.inr ⟨⟨yg, yr⟩, Or.inl ⟨n1, rfl⟩⟩)⟩
    obtain ⟨v, rk, pv⟩ := pu_valueOfRank (d := d - 1) (by omega) hsh (inv_cc hI) (at_51 hsh) (inv_pba hI) yg.1 yg.2 hr1 n1 (by rw [setR_0, setR_1, setR_2, setR_3]; exact n2)
    rw [setR_0, setR_1, setR_2, setR_3] at rk
    have ec : (fun t => ccells (setR F 51 x1 y1 x2 y2) G 18 g t x1 y1 x2 y2) = fun t => nFrom (setR F 51 x1 y1 x2 y2) G g t x1 y1 x2 y2 := by
      funext t
      exact ccells_n hI yg.1 yg.2 t yr'
    rw [ec] at rk
    exact ⟨_, pv, hq _ G _ k (pva_scr k (Or.inr ⟨⟨yg, yr'⟩, Or.inr ⟨n1, Or.inr ⟨n2, rk⟩⟩⟩))⟩
  · have hsm := inv_shm h
    refine ok_go rfl (by decide) (Nat.le_of_ble_eq_true rfl) (R_X10_value_0 hsm ?_)
    unfold V_X10_value_0
    intro F1 e1
    subst e1
    have k := scr_thrown (F := F) (G := G)
    have h1 := inv_scr h k
    have hq' : ∀ (z : Int), PVa g x1 y1 x2 y2 n (fu F 53 0 0) G z → Q (some (vJ z)) S (fu F 53 0 0) G := fun z p => hq _ G z k (pva_scr k p)
    clear hq
    generalize hF1 : fu F 53 0 0 = F1 at *
    have sz := inv_sz h1
    have hx := inv_mx h1
    have mba := inv_mba h1
    refine ⟨by omega, _, pu_isGoodOrAll (by omega) hsm g, fun q => hq' _ (Or.inl ⟨fun z => bI_0.mp q z.1, rfl⟩), fun q => ⟨_, pu_isRectangle hsm _ _ _ _, fun q2 => ?_, fun q2 => hq' _ (Or.inl ⟨fun z => bI_0.mp q2 z.2, rfl⟩)⟩⟩
    have yg : -1 ≤ g ∧ g ≤ 2 := Classical.byContradiction (fun z => q (bI_f z))
    have yr : recOK F1 x1 y1 x2 y2 := Classical.byContradiction (fun z => q2 (bI_f z))
    obtain ⟨r1, r2, r3, r4, r5, r6⟩ := id yr
    have cn := mul_bd (a := x2 - x1 + 1) (b := y2 - y1 + 1) (A := 10000) (B := 10000) (by omega) (by omega) (by omega) (by omega)
    refine ⟨fun n1 => ⟨by omega, by omega, by omega, by omega, by omega, fun N eN => ⟨fun n2 => ?_, fun n2 => hq' _ (Or.inr ⟨⟨yg, yr⟩, Or.inr ⟨n1, Or.inl ⟨by rw [← eN]; exact n2, rfl⟩⟩⟩)⟩⟩, fun n1 => hq' _ (Or.inr ⟨⟨yg, yr⟩, Or.inl ⟨n1, rfl⟩⟩)⟩
    have hmv : ∀ x y : Int, x1 ≤ x → x ≤ x2 → y1 ≤ y → y ≤ y2 → 0 ≤ mv F1 G g x y ∧ mv F1 G g x y ≤ 1000000000000 := fun x y a b c e => mv_in hx mba yg.1 yg.2 (by omega) (by omega) (by omega) (by omega)
    have c0 : nFrom F1 G g 0 x1 y1 x2 y2 = N := by
      unfold nFrom
      have : aS (fun x y => if mv F1 G g x y < 0 then (0 : Int) else 1) x1 y1 x2 y2 = aS (fun _ _ => 1) x1 y1 x2 y2 := aS_congr (fun x y a b c e => by rw [if_neg (by have := (hmv x y a b c e).1; omega)])
      rw [this, aS_const 1 (by omega) (by omega), eN]
      omega
    have c1 : nFrom F1 G g (3000000000000 + 1) x1 y1 x2 y2 = 0 := by
      unfold nFrom
      have : aS (fun x y => if mv F1 G g x y < 3000000000000 + 1 then (0 : Int) else 1) x1 y1 x2 y2 = aS (fun _ _ => 0) x1 y1 x2 y2 := aS_congr (fun x y a b c e => by rw [if_pos (by have := (hmv x y a b c e).2; omega)])
      rw [this, aS_z]
    have main : ∀ (m : Nat) (lo hi : Int), hi - lo ≤ m → 0 ≤ lo → lo ≤ hi → hi ≤ 3000000000000 → N - n + 1 ≤ nFrom F1 G g lo x1 y1 x2 y2 → nFrom F1 G g (hi + 1) x1 y1 x2 y2 ≤ N - n → Go d MX10_value 77 [some (vR 53), some (vI g), some (vI x1), some (vI y1), some (vI x2), some (vI y2), some (vJ n), none, some (vJ N), none, some (vJ lo), none, some (vJ hi), none, none, none] [] S F1 G Q := by
      intro m
      induction m with
      | zero =>
        intro lo hi hm l0 lh h3 p1 p2
        refine R_X10_value_77 hsm ?_
        unfold V_X10_value_77
        have e : lo = hi := by omega
        subst e
        exact ⟨fun _ => hq' lo (Or.inr ⟨⟨yg, yr⟩, Or.inr ⟨n1, Or.inr ⟨by rw [← eN]; exact n2, by rw [← eN]; exact ⟨p1, p2⟩⟩⟩⟩), fun z => absurd (Int.le_refl _) z⟩
      | succ m ih =>
        intro lo hi hm l0 lh h3 p1 p2
        refine R_X10_value_77 hsm ?_
        unfold V_X10_value_77
        refine ⟨fun z => ?_, fun z => ?_⟩
        · have e : lo = hi := by omega
          subst e
          exact hq' lo (Or.inr ⟨⟨yg, yr⟩, Or.inr ⟨n1, Or.inr ⟨by rw [← eN]; exact n2, by rw [← eN]; exact ⟨p1, p2⟩⟩⟩⟩)
        · rw [tdiv_pos (by omega)]
          refine ⟨by omega, by omega, by omega, fun mid em => ?_⟩
          have pf := pu_cellsFrom (d := d - 1) (S := S) (by omega) hsm hx mba (t := mid) yg.1 yg.2 (by omega : -100000 ≤ x1) (by omega) (by omega : -100000 ≤ y1) (by omega) (by omega : -100000 ≤ x2) (by omega) (by omega : -100000 ≤ y2) (by omega)
          rw [cellsM_n hx mid yr] at pf
          refine ⟨by omega, _, pf, by omega, by omega, fun c => ⟨by omega, fun x15 e15 => ?_⟩, fun c => ?_⟩
          · unfold V_X10_value_135
            have e2 : x15 + 1 = mid := by omega
            exact ih lo x15 (by omega) l0 (by omega) (by omega) p1 (by rw [e2]; omega)
          · unfold V_X10_value_135
            exact ih mid hi (by omega) (by omega) (by omega) h3 (by omega) p2
    exact main 3000000000000 0 3000000000000 (by omega) (by omega) (by omega) (by omega) (by rw [c0]; omega) (by rw [c1]; omega)
end
