/-! HOW MANY CELLS ARE TOUCHED; UNITS BY AN ORDER -/
theorem scr_n {F F1 : AF} {G G1 : AG} (k : Scr F F1 G G1) (g t x1 y1 x2 y2 : Int) : nFrom F1 G1 g t x1 y1 x2 y2 = nFrom F G g t x1 y1 x2 y2 := by
  unfold nFrom
  rw [scr_mv k]
theorem pr_touched {d : Nat} {S : AS} {F : AF} {G : AG} {b : Int} (hd : 6 ≤ d) (h : Inv S F G b) (g x1 y1 x2 y2 n : Int) (hn : r64 n) : Pr d MX9_touched MX10_touched [vR 1, vI g, vI x1, vI y1, vI x2, vI y2, vJ n] [vR 53, vI g, vI x1, vI y1, vI x2, vI y2, vJ n] vJ S F G b := by
  refine pr_rel (P := PFi g x1 y1 x2 y2 n (fun F G x y => nFrom F G g 1 x1 y1 x2 (y - 1) + nFrom F G g 1 x1 y x y)) h (fun z z' p p' => pfi_uniq h p p') (fun F1 G1 k z p => pfi_scr k (fun x y => by rw [scr_n k, scr_n k]) p) (fun Q hq => ?_) (fun F G h Q hq => ?_)
  · have hsh := inv_shc h
    have sz := inv_sz h
    refine ok_go rfl (by decide) (Nat.le_of_ble_eq_true rfl) (R_X9_touched_0 hsh ?_)
    unfold V_X9_touched_0
    refine ⟨by omega, _, pu_cisGood hsh g, fun q => hq F G _ (scr_rf F G) (Or.inl ⟨fun z => bI_0.mp q z.1, rfl⟩), fun q => ok_ask (by omega) h _ _ _ _ ⟨rfl, _, rfl, fun q2 => ?_, fun q2 => hq _ G _ (scr_51 _ _ _ _) (Or.inl ⟨fun z => bI_0.mp q2 z.2, rfl⟩)⟩⟩
    have yg : 0 ≤ g ∧ g ≤ 2 := Classical.byContradiction (fun z => q (bI_f z))
    have yr : recOK F x1 y1 x2 y2 := Classical.byContradiction (fun z => q2 (bI_f z))
    have k := scr_51 (F := F) (G := G) x1 y1 x2 y2
    have hI := inv_scr h k
    have yr' : recOK (setR F 51 x1 y1 x2 y2) x1 y1 x2 y2 := by
      unfold recOK
      rw [k.2.2.1.1, k.2.2.1.2.1]
      exact yr
    refine ⟨fun n1 => loc_inv0 (by omega) hI (at_51 hsh) yg.1 yg.2 n1 hn setR_0 setR_1 setR_2 setR_3 yr' (fun F' x y r s f _ _ _ e7 => ⟨rfl, 1, rfl, fun z => absurd z (by decide), fun _ => ?_⟩) (fun F' s lt => ⟨rfl, 0, rfl, fun _ => hq F' G _ (scr_tr k (scr_34 s)) (Or.inr ⟨⟨yg, yr⟩, Or.inr ⟨n1, Or.inl ⟨by rw [scr_mv k] at lt; exact lt, rfl⟩⟩⟩), fun z => absurd rfl z⟩), fun n1 => hq _ G _ k (Or.inr ⟨⟨yg, yr⟩, Or.inl ⟨by omega, rfl⟩⟩)⟩
    rw [e7, scr_n k, scr_n k]
    exact hq F' G _ (scr_tr k (scr_34 s)) (Or.inr ⟨⟨yg, yr⟩, Or.inr ⟨n1, Or.inr ⟨x, y, r, fdr_scr k f, rfl⟩⟩⟩)
  · have hsm := inv_shm h
    refine ok_go rfl (by decide) (Nat.le_of_ble_eq_true rfl) (R_X10_touched_0 hsm ?_)
    unfold V_X10_touched_0
    intro F1 e1
    subst e1
    have k := scr_thrown (F := F) (G := G)
    have h1 := inv_scr h k
    have hq' : ∀ (F' : AF) (G' : AG) (z : Int), Scr (fu F 53 0 0) F' G G' → PFi g x1 y1 x2 y2 n (fun F G x y => nFrom F G g 1 x1 y1 x2 (y - 1) + nFrom F G g 1 x1 y x y) (fu F 53 0 0) G z → Q (some (vJ z)) S F' G' := fun F' G' z k' p => hq F' G' z (scr_tr k k') (pfi_scr k (fun x y => by rw [scr_n k, scr_n k]) p)
    clear hq
    generalize hF1 : fu F 53 0 0 = F1 at *
    have sz := inv_sz h1
    refine ⟨by omega, _, pu_isGood (by omega) hsm g, fun q => hq' F1 G _ (scr_rf _ _) (Or.inl ⟨fun z => bI_0.mp q z.1, rfl⟩), fun q => ⟨_, pu_isRectangle hsm _ _ _ _, fun q2 => ?_, fun q2 => hq' F1 G _ (scr_rf _ _) (Or.inl ⟨fun z => bI_0.mp q2 z.2, rfl⟩)⟩⟩
    have yg : 0 ≤ g ∧ g ≤ 2 := Classical.byContradiction (fun z => q (bI_f z))
    have yr : recOK F1 x1 y1 x2 y2 := Classical.byContradiction (fun z => q2 (bI_f z))
    obtain ⟨r1, r2, r3, r4, r5, r6⟩ := id yr
    have ba := inv_all h1 yg.1 yg.2
    have mono := aS_mono (f := mv F1 G g) (x1 := x1) (y1 := y1) (x2 := x2) (y2 := y2) (a1 := 0) (b1 := 0) (a2 := F1 53 1 - 1) (b2 := F1 53 2 - 1) (fun x y x0 x1' y0 y1' => (mv_in (inv_mx h1) (inv_mba h1) (by omega) yg.2 x0 (by omega) y0 (by omega)).1) r1 r4 (by omega) (by omega)
    rw [← ba.1] at mono
    refine ⟨fun n1 => ⟨yg.1, by omega, fun n2 => hq' F1 G _ (scr_rf _ _) (Or.inr ⟨⟨yg, yr⟩, Or.inr ⟨n1, Or.inl ⟨by omega, rfl⟩⟩⟩), fun n2 => ?_⟩, fun n1 => hq' F1 G _ (scr_rf _ _) (Or.inr ⟨⟨yg, yr⟩, Or.inl ⟨by omega, rfl⟩⟩)⟩
    refine ok_finds (by omega) hsm (inv_mx h1) (inv_mba h1) (inv_mt h1) yg.1 yg.2 yr n1 (by omega) (fun x y r f => ⟨rfl, 1, rfl, fun _ x22 e22 x23 e23 => ?_, fun z => absurd z (by decide)⟩) (fun lt => ⟨rfl, 0, rfl, fun z => absurd rfl z, fun _ => hq' F1 G _ (scr_rf _ _) (Or.inr ⟨⟨yg, yr⟩, Or.inr ⟨n1, Or.inl ⟨lt, rfl⟩⟩⟩)⟩)
    have fl := fdr_le h1 yg.1 yg.2 yr f
    have kk : Scr F1 (fu (fu (fu F1 53 22 y) 53 21 x) 53 23 r) G G := scr_tr (scr_tr (scr_f (by decide) (by decide) (by decide) (by decide) (by decide) (by decide) (by decide) (by decide) (by decide)) (scr_f (by decide) (by decide) (by decide) (by decide) (by decide) (by decide) (by decide) (by decide) (by decide))) (scr_f (by decide) (by decide) (by decide) (by decide) (by decide) (by decide) (by decide) (by decide) (by decide))
    have vx : fu (fu (fu F1 53 22 y) 53 21 x) 53 23 r 53 21 = x := by rw [fu_k (by decide), fu_s]
    have vy : fu (fu (fu F1 53 22 y) 53 21 x) 53 23 r 53 22 = y := by rw [fu_k (by decide), fu_k (by decide), fu_s]
    rw [vx] at e22
    rw [vy] at e23
    subst e22 e23
    have hK := inv_scr h1 kk
    have v1 := kk.2.2.1.1
    have v2 := kk.2.2.1.2.1
    generalize hF2 : fu (fu (fu F1 53 22 x23) 53 21 x22) 53 23 r = F2 at *
    have cf := fun (a1 b1 c1 d1 : Int) (rc : recOK F2 a1 b1 c1 d1) => pu_cellsFrom (d := d - 1) (S := S) (F := F2) (G := G) (by omega) hsm (inv_mx hK) (inv_mba hK) (g := g) (x1 := a1) (y1 := b1) (x2 := c1) (y2 := d1) (t := 1) (by omega) yg.2 (by omega) (by omega) (by omega) (by omega) (by omega) (by omega) (by omega) (by omega)
    have nb : ∀ a1 b1 c1 d1 : Int, recOK F2 a1 b1 c1 d1 → 0 ≤ nFrom F1 G g 1 a1 b1 c1 d1 ∧ nFrom F1 G g 1 a1 b1 c1 d1 ≤ 100000000 := by
      intro a1 b1 c1 d1 rc
      refine ⟨aS_pos (fun x y _ _ _ _ => by split <;> omega), ?_⟩
      have q1 : nFrom F1 G g 1 a1 b1 c1 d1 ≤ aS (fun _ _ => 1) a1 b1 c1 d1 := aS_le (fun x y _ _ _ _ => by split <;> omega)
      rw [aS_const 1 (by omega) (by omega), Int.mul_one] at q1
      have m := mul_bd (a := c1 - a1 + 1) (b := d1 - b1 + 1) (A := 10000) (B := 10000) (by omega) (by omega) (by omega) (by omega)
      omega
    have fin : ∀ s : Int, s = nFrom F1 G g 1 x1 y1 x2 (x23 - 1) → 0 ≤ s → s ≤ 100000000 → V_X10_touched_108 d S F2 G Q g x1 y1 x2 y2 n x22 x23 s := by
      intro s es s0 s1
      have rc : recOK F2 x1 x23 x22 x23 := ⟨by omega, by omega, by omega, by omega, by omega, by omega⟩
      have c := cf x1 x23 x22 x23 rc
      rw [cellsM_n (inv_mx hK) 1 rc, scr_n kk] at c
      have b2 := nb _ _ _ _ rc
      unfold V_X10_touched_108
      refine ⟨by omega, _, c, by omega, ?_⟩
      rw [es]
      exact hq' F2 G _ kk (Or.inr ⟨⟨yg, yr⟩, Or.inr ⟨n1, Or.inr ⟨x22, x23, r, f, rfl⟩⟩⟩)
    refine ⟨fun z => fin 0 ?_ (by omega) (by omega), fun z => ?_⟩
    · unfold nFrom
      rw [aS_ey (by omega)]
    · have rc : recOK F2 x1 y1 x2 (x23 - 1) := ⟨by omega, by omega, by omega, by omega, by omega, by omega⟩
      have c := cf x1 y1 x2 (x23 - 1) rc
      rw [cellsM_n (inv_mx hK) 1 rc, scr_n kk] at c
      have b2 := nb _ _ _ _ rc
      exact ⟨by omega, _, c, fin _ rfl b2.1 b2.2⟩
/-- the k-th unit of all, column by column -/
def FdD (F : AF) (G : AG) (g k x y r : Int) : Prop := FdC (me F G 0) (me F G 1) (G 55 0) (G 55 1) (mu G g) 0 (F 53 1 - 1) 0 (F 53 2 - 1) k x y r
def PFd (g o n : Int) (F : AF) (G : AG) (z : Int) : Prop := (¬ ((0 ≤ g ∧ g ≤ 2) ∧ 0 ≤ o ∧ o ≤ 1) ∧ z = -2) ∨ (((0 ≤ g ∧ g ≤ 2) ∧ 0 ≤ o ∧ o ≤ 1) ∧ ((n < 1 ∧ z = -3) ∨ (1 ≤ n ∧ ((aS (mv F G g) 0 0 (F 53 1 - 1) (F 53 2 - 1) < n ∧ z = -1) ∨ (n ≤ aS (mv F G g) 0 0 (F 53 1 - 1) (F 53 2 - 1) ∧ ∃ x y r : Int, ((o = 0 ∧ FdR F G g 0 0 (F 53 1 - 1) (F 53 2 - 1) n x y r) ∨ (o = 1 ∧ FdD F G g n x y r)) ∧ z = F 53 1 * y + x)))))
theorem pfd_uniq {S : AS} {F : AF} {G : AG} {b : Int} (h : Inv S F G b) {g o n z z' : Int} (p : PFd g o n F G z) (p' : PFd g o n F G z') : z = z' := by
  rcases p with ⟨c, e⟩ | ⟨c, ⟨a, e⟩ | ⟨a, ⟨u, e⟩ | ⟨u, x, y, r, f, e⟩⟩⟩
  · rcases p' with ⟨-, e'⟩ | ⟨c', -⟩
    · rw [e, e']
    · exact absurd c' c
  · rcases p' with ⟨c', -⟩ | ⟨-, ⟨-, e'⟩ | ⟨a', -⟩⟩
    · exact absurd c c'
    · rw [e, e']
    · omega
  · rcases p' with ⟨c', -⟩ | ⟨-, ⟨a', -⟩ | ⟨-, ⟨-, e'⟩ | ⟨u', -⟩⟩⟩
    · exact absurd c c'
    · omega
    · rw [e, e']
    · omega
  · rcases p' with ⟨c', -⟩ | ⟨-, ⟨a', -⟩ | ⟨-, ⟨u', -⟩ | ⟨-, x', y', r', f', e'⟩⟩⟩
    · exact absurd c c'
    · omega
    · omega
    · rcases f with ⟨o0, f⟩ | ⟨o0, f⟩
      · rcases f' with ⟨-, f'⟩ | ⟨o1, -⟩
        · obtain ⟨q1, q2, -⟩ := fdr_uniq h c.1.1 c.1.2 f f'
          rw [e, e', q1, q2]
        · omega
      · rcases f' with ⟨o1, -⟩ | ⟨-, f'⟩
        · omega
        · obtain ⟨q1, q2, -⟩ := fd_uniq (mu_pos (inv_mba h) (g := g) (by omega) c.1.2) f f'
          rw [e, e', q1, q2]
theorem pfd_scr {F F1 : AF} {G G1 : AG} (k : Scr F F1 G G1) {g o n z : Int} (p : PFd g o n F1 G1 z) : PFd g o n F G z := by
  have e1 := k.2.2.1.1
  have e2 := k.2.2.1.2.1
  unfold PFd FdD at *
  rw [scr_mv k, e1, e2, scr_me k, scr_me k, (scr_g k).2.1, scr_mu k] at p
  rcases p with p | ⟨c, p | ⟨a, p | ⟨u, x, y, r, f, e⟩⟩⟩
  · exact Or.inl p
  · exact Or.inr ⟨c, Or.inl p⟩
  · exact Or.inr ⟨c, Or.inr ⟨a, Or.inl p⟩⟩
  · refine Or.inr ⟨c, Or.inr ⟨a, Or.inr ⟨u, x, y, r, ?_, e⟩⟩⟩
    rcases f with ⟨o0, f⟩ | f
    · exact Or.inl ⟨o0, fdr_scr k f⟩
    · exact Or.inr f
theorem fdd_in {S : AS} {F : AF} {G : AG} {b : Int} (h : Inv S F G b) {g n x y r : Int} (g0 : 0 ≤ g) (g1 : g ≤ 2) (f : FdD F G g n x y r) : 0 ≤ x ∧ x < F 53 1 ∧ 0 ≤ y ∧ y < F 53 2 ∧ n ≤ aS (mv F G g) 0 0 (F 53 1 - 1) (F 53 2 - 1) := by
  have sz := inv_sz h
  have hx := inv_mx h
  have hU := mu_pos (inv_mba h) (g := g) (by omega) g1
  have c := fd_cells (sq_x hx) (sq_y hx) hU (by omega) (by omega) (by omega) (by omega) f
  have t := fd_tot hU f
  rw [tot_dS (sq_x hx) (sq_y hx) (mu G g) (by omega) (by omega) (by omega) (by omega)] at t
  have sw := dS_swap (fun x y => mu G g (blk (me F G 0) (G 55 0) x) (blk (me F G 1) (G 55 1) y)) 0 (F 53 1 - 1) 0 (F 53 2 - 1)
  rw [sw] at t
  exact ⟨by omega, by omega, by omega, by omega, t⟩
