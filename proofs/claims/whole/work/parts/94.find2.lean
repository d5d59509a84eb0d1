/-! PAIRS THAT FIND A UNIT -/
theorem pr_rel {d : Nat} {S : AS} {F : AF} {G : AG} {b : Int} {MC MM : AM} {avC avM : List AV} {mk : Int → AV} {P : AF → AG → Int → Prop} (h : Inv S F G b) (uniq : ∀ z z' : Int, P F G z → P F G z' → z = z') (hP : ∀ F1 G1, Scr F F1 G G1 → ∀ z : Int, P F1 G1 z → P F G z) (hC : ∀ Q : AQ, (∀ F' G' z, Scr F F' G G' → P F G z → Q (some (mk z)) S F' G') → Ok d MC avC S F G Q) (hM : ∀ F1 G1, Inv S F1 G1 b → ∀ Q : AQ, (∀ F' G' z, Scr F1 F' G1 G' → P F1 G1 z → Q (some (mk z)) S F' G') → Ok d MM avM S F1 G1 Q) : Pr d MC MM avC avM mk S F G b := by
  refine hC _ (fun F1 G1 z k pz => ⟨rfl, z, rfl, inv_scr h k, ?_⟩)
  exact hM F1 G1 (inv_scr h k) _ (fun F2 G2 z2 k2 pz2 => ⟨rfl, by rw [uniq z z2 pz (hP F1 G1 k z2 pz2)], inv_scr (inv_scr h k) k2⟩)
theorem scr_mu {F F' : AF} {G G' : AG} (k : Scr F F' G G') : mu G' = mu G := by
  funext g i j
  unfold mu
  rw [(scr_g k).2.2.2.1]
/-- the k-th unit of a rectangle, row by row -/
def FdR (F : AF) (G : AG) (g x1 y1 x2 y2 k x y r : Int) : Prop := FdC (me F G 1) (me F G 0) (G 55 1) (G 55 0) (mq G g) y1 y2 x1 x2 k y x r
theorem fdr_scr {F F1 : AF} {G G1 : AG} (k : Scr F F1 G G1) {g x1 y1 x2 y2 n x y r : Int} (h : FdR F1 G1 g x1 y1 x2 y2 n x y r) : FdR F G g x1 y1 x2 y2 n x y r := by
  unfold FdR mq at *
  rw [scr_me k, scr_me k, (scr_g k).2.1, scr_mu k] at h
  exact h
theorem fdr_uniq {S : AS} {F : AF} {G : AG} {b : Int} (h : Inv S F G b) {g x1 y1 x2 y2 n x y r x' y' r' : Int} (g0 : 0 ≤ g) (g1 : g ≤ 2) (f : FdR F G g x1 y1 x2 y2 n x y r) (f' : FdR F G g x1 y1 x2 y2 n x' y' r') : x = x' ∧ y = y' ∧ r = r' := by
  have := fd_uniq (mq_pos (inv_mba h) (g := g) (by omega) g1) f f'
  exact ⟨this.2.1, this.1, this.2.2⟩
theorem fdr_le {S : AS} {F : AF} {G : AG} {b : Int} (h : Inv S F G b) {g x1 y1 x2 y2 n x y r : Int} (g0 : 0 ≤ g) (g1 : g ≤ 2) (rc : recOK F x1 y1 x2 y2) (f : FdR F G g x1 y1 x2 y2 n x y r) : n ≤ aS (mv F G g) x1 y1 x2 y2 ∧ x1 ≤ x ∧ x ≤ x2 ∧ y1 ≤ y ∧ y ≤ y2 := by
  obtain ⟨r1, r2, r3, r4, r5, r6⟩ := rc
  have hU := mq_pos (inv_mba h) (g := g) (by omega) g1
  have t := fd_tot hU f
  rw [mtot (inv_mx h) r1 r3 r4 r6] at t
  have c := fd_cells (sq_y (inv_mx h)) (sq_x (inv_mx h)) hU r4 r6 r1 r3 f
  exact ⟨t, c.2.2.1, c.2.2.2.1, c.1, c.2.1⟩
def PFi (g x1 y1 x2 y2 n : Int) (V : AF → AG → Int → Int → Int) (F : AF) (G : AG) (z : Int) : Prop := (¬ ((0 ≤ g ∧ g ≤ 2) ∧ recOK F x1 y1 x2 y2) ∧ z = -2) ∨ (((0 ≤ g ∧ g ≤ 2) ∧ recOK F x1 y1 x2 y2) ∧ ((n < 1 ∧ z = -3) ∨ (1 ≤ n ∧ ((aS (mv F G g) x1 y1 x2 y2 < n ∧ z = -1) ∨ ∃ x y r : Int, FdR F G g x1 y1 x2 y2 n x y r ∧ z = V F G x y))))
theorem pfi_uniq {S : AS} {F : AF} {G : AG} {b : Int} (h : Inv S F G b) {g x1 y1 x2 y2 n : Int} {V : AF → AG → Int → Int → Int} {z z' : Int} (p : PFi g x1 y1 x2 y2 n V F G z) (p' : PFi g x1 y1 x2 y2 n V F G z') : z = z' := by
  rcases p with ⟨c, e⟩ | ⟨c, p⟩
  · rcases p' with ⟨-, e'⟩ | ⟨c', -⟩
    · rw [e, e']
    · exact absurd c' c
  · rcases p' with ⟨c', -⟩ | ⟨-, p'⟩
    · exact absurd c c'
    · rcases p with ⟨a, e⟩ | ⟨a, p⟩
      · rcases p' with ⟨-, e'⟩ | ⟨a', -⟩
        · rw [e, e']
        · omega
      · rcases p' with ⟨a', -⟩ | ⟨-, p'⟩
        · omega
        · rcases p with ⟨u, e⟩ | ⟨x, y, r, f, e⟩
          · rcases p' with ⟨-, e'⟩ | ⟨x', y', r', f', -⟩
            · rw [e, e']
            · have := (fdr_le h c.1.1 c.1.2 c.2 f').1
              omega
          · rcases p' with ⟨u', -⟩ | ⟨x', y', r', f', e'⟩
            · have := (fdr_le h c.1.1 c.1.2 c.2 f).1
              omega
            · obtain ⟨q1, q2, -⟩ := fdr_uniq h c.1.1 c.1.2 f f'
              rw [e, e', q1, q2]
theorem pfi_scr {F F1 : AF} {G G1 : AG} (k : Scr F F1 G G1) {g x1 y1 x2 y2 n : Int} {V : AF → AG → Int → Int → Int} (hV : ∀ x y : Int, V F1 G1 x y = V F G x y) {z : Int} (p : PFi g x1 y1 x2 y2 n V F1 G1 z) : PFi g x1 y1 x2 y2 n V F G z := by
  have e1 := k.2.2.1.1
  have e2 := k.2.2.1.2.1
  have er : recOK F1 x1 y1 x2 y2 ↔ recOK F x1 y1 x2 y2 := by
    unfold recOK
    rw [e1, e2]
  unfold PFi at *
  rw [er, scr_mv k] at p
  rcases p with p | ⟨c, p | ⟨a, p | ⟨x, y, r, f, e⟩⟩⟩
  · exact Or.inl p
  · exact Or.inr ⟨c, Or.inl p⟩
  · exact Or.inr ⟨c, Or.inr ⟨a, Or.inl p⟩⟩
  · exact Or.inr ⟨c, Or.inr ⟨a, Or.inr ⟨x, y, r, fdr_scr k f, by rw [← hV]; exact e⟩⟩⟩
/-- the number of a cell -/
theorem pr_findIn {d : Nat} {S : AS} {F : AF} {G : AG} {b : Int} (hd : 6 ≤ d) (h : Inv S F G b) (g x1 y1 x2 y2 n : Int) (hn : r64 n) : Pr d MX9_findIn MX10_findIn [vR 1, vI g, vI x1, vI y1, vI x2, vI y2, vJ n] [vR 53, vI g, vI x1, vI y1, vI x2, vI y2, vJ n] vJ S F G b := by
  refine pr_rel (P := PFi g x1 y1 x2 y2 n (fun F _ x y => F 53 1 * y + x)) h (fun z z' p p' => pfi_uniq h p p') (fun F1 G1 k z p => pfi_scr k (fun x y => by rw [k.2.2.1.1]) p) (fun Q hq => ?_) (fun F G h Q hq => ?_)
  · have hsh := inv_shc h
    have sz := inv_sz h
    refine ok_go rfl (by decide) (Nat.le_of_ble_eq_true rfl) (R_X9_findIn_0 hsh ?_)
    unfold V_X9_findIn_0
    refine ⟨by omega, _, pu_cisGood hsh g, fun q => hq F G _ (scr_rf F G) (Or.inl ⟨fun z => bI_0.mp q z.1, rfl⟩), fun q => ok_ask (by omega) h _ _ _ _ ⟨rfl, _, rfl, fun q2 => ?_, fun q2 => hq _ G _ (scr_51 _ _ _ _) (Or.inl ⟨fun z => bI_0.mp q2 z.2, rfl⟩)⟩⟩
    have yg : 0 ≤ g ∧ g ≤ 2 := Classical.byContradiction (fun z => q (bI_f z))
    have yr : recOK F x1 y1 x2 y2 := Classical.byContradiction (fun z => q2 (bI_f z))
    have k := scr_51 (F := F) (G := G) x1 y1 x2 y2
    have hI := inv_scr h k
    have yr' : recOK (setR F 51 x1 y1 x2 y2) x1 y1 x2 y2 := by
      unfold recOK
      rw [k.2.2.1.1, k.2.2.1.2.1]
      exact yr
    refine ok_go rfl (by decide) (Nat.le_of_ble_eq_true rfl) (R_X9_numberOfUnit_0 hsh (at_51 hsh) ?_)
    unfold V_X9_numberOfUnit_0
    refine ⟨fun n1 => ⟨by omega, loc_inv0 (by omega) hI (at_51 hsh) yg.1 yg.2 n1 hn setR_0 setR_1 setR_2 setR_3 yr' (fun F' x y r s f e4 e5 _ _ => ⟨rfl, 1, rfl, fun z => absurd z (by decide), fun _ => ?_⟩) (fun F' s lt => ⟨rfl, 0, rfl, fun _ => ⟨rfl, _, rfl, hq F' G _ (scr_tr k (scr_34 s)) (Or.inr ⟨⟨yg, yr⟩, Or.inr ⟨n1, Or.inl ⟨by rw [scr_mv k] at lt; exact lt, rfl⟩⟩⟩)⟩, fun z => absurd rfl z⟩)⟩, fun n1 => ⟨rfl, _, rfl, hq _ G _ k (Or.inr ⟨⟨yg, yr⟩, Or.inl ⟨by omega, rfl⟩⟩)⟩⟩
    have k34 := scr_tr k (scr_34 (G := G) s)
    have hI4 := inv_scr h k34
    have sz4 := inv_sz hI4
    have fl := fdr_le h yg.1 yg.2 yr (fdr_scr k f)
    obtain ⟨r1, r2, r3, r4, r5, r6⟩ := id yr
    have pn := pu_cnumber (d := d - 1 - 1) (S := S) (F := F') (G := G) (by omega) hsh (inv_cc hI4) (x := x) (y := y) (by omega) (by omega) (by omega) (by omega)
    rw [e4, e5]
    have e42 : F' 4 2 = F 53 1 := by rw [sz4.1, k34.2.2.1.1]
    rw [e42] at pn
    exact ⟨_, pn, rfl, _, rfl, hq F' G _ k34 (Or.inr ⟨⟨yg, yr⟩, Or.inr ⟨n1, Or.inr ⟨x, y, r, fdr_scr k f, rfl⟩⟩⟩)⟩
  · have hsm := inv_shm h
    refine ok_go rfl (by decide) (Nat.le_of_ble_eq_true rfl) (R_X10_findIn_0 hsm ?_)
    unfold V_X10_findIn_0
    intro F1 e1
    subst e1
    have k := scr_thrown (F := F) (G := G)
    have h1 := inv_scr h k
    have hq' : ∀ (F' : AF) (G' : AG) (z : Int), Scr (fu F 53 0 0) F' G G' → PFi g x1 y1 x2 y2 n (fun F _ x y => F 53 1 * y + x) (fu F 53 0 0) G z → Q (some (vJ z)) S F' G' := fun F' G' z k' p => hq F' G' z (scr_tr k k') (pfi_scr k (fun x y => by rw [k.2.2.1.1]) p)
    clear hq
    generalize hF1 : fu F 53 0 0 = F1 at *
    have sz := inv_sz h1
    refine ⟨by omega, _, pu_isGood (by omega) hsm g, fun q => hq' F1 G _ (scr_rf _ _) (Or.inl ⟨fun z => bI_0.mp q z.1, rfl⟩), fun q => ⟨_, pu_isRectangle hsm _ _ _ _, fun q2 => ?_, fun q2 => hq' F1 G _ (scr_rf _ _) (Or.inl ⟨fun z => bI_0.mp q2 z.2, rfl⟩)⟩⟩
    have yg : 0 ≤ g ∧ g ≤ 2 := Classical.byContradiction (fun z => q (bI_f z))
    have yr : recOK F1 x1 y1 x2 y2 := Classical.byContradiction (fun z => q2 (bI_f z))
    obtain ⟨r1, r2, r3, r4, r5, r6⟩ := id yr
    have ba := inv_all h1 yg.1 yg.2
    have mono := aS_mono (f := mv F1 G g) (x1 := x1) (y1 := y1) (x2 := x2) (y2 := y2) (a1 := 0) (b1 := 0) (a2 := F1 53 1 - 1) (b2 := F1 53 2 - 1) (fun x y x0 x1' y0 y1' => (mv_in (inv_mx h1) (inv_mba h1) (by omega) yg.2 x0 (by omega) y0 (by omega)).1) r1 r4 (by omega) (by omega)
    rw [← ba.1] at mono
    refine ⟨fun n1 => ⟨yg.1, by omega, fun n2 => hq' F1 G _ (scr_rf _ _) (Or.inr ⟨⟨yg, yr⟩, Or.inr ⟨n1, Or.inl ⟨by omega, rfl⟩⟩⟩), fun n2 => ?_⟩, fun n1 => hq' F1 G _ (scr_rf _ _) (Or.inr ⟨⟨yg, yr⟩, Or.inl ⟨by omega, rfl⟩⟩)⟩
    refine ok_finds (by omega) hsm (inv_mx h1) (inv_mba h1) (inv_mt h1) yg.1 yg.2 yr n1 (by omega) (fun x y r f => ⟨rfl, 1, rfl, fun z => absurd z (by decide), fun _ => ?_⟩) (fun lt => ⟨rfl, 0, rfl, fun _ => hq' F1 G _ (scr_rf _ _) (Or.inr ⟨⟨yg, yr⟩, Or.inr ⟨n1, Or.inl ⟨lt, rfl⟩⟩⟩), fun z => absurd rfl z⟩)
    have fl := fdr_le h1 yg.1 yg.2 yr f
    have kk : Scr F1 (fu (fu (fu F1 53 22 y) 53 21 x) 53 23 r) G G := scr_tr (scr_tr (scr_f (by decide) (by decide) (by decide) (by decide) (by decide) (by decide) (by decide) (by decide) (by decide)) (scr_f (by decide) (by decide) (by decide) (by decide) (by decide) (by decide) (by decide) (by decide) (by decide))) (scr_f (by decide) (by decide) (by decide) (by decide) (by decide) (by decide) (by decide) (by decide) (by decide))
    have vx : fu (fu (fu F1 53 22 y) 53 21 x) 53 23 r 53 21 = x := by rw [fu_k (by decide), fu_s]
    have vy : fu (fu (fu F1 53 22 y) 53 21 x) 53 23 r 53 22 = y := by rw [fu_k (by decide), fu_k (by decide), fu_s]
    have v1 := kk.2.2.1.1
    rw [vx, vy]
    have pn := pu_number (d := d - 1) (S := S) (F := fu (fu (fu F1 53 22 y) 53 21 x) 53 23 r) (G := G) hsm (x := x) (y := y) (by omega) (by omega) (by omega) (by omega) (by omega) (by omega)
    rw [v1] at pn
    exact ⟨_, pn, hq' _ G _ kk (Or.inr ⟨⟨yg, yr⟩, Or.inr ⟨n1, Or.inr ⟨x, y, r, f, rfl⟩⟩⟩)⟩
