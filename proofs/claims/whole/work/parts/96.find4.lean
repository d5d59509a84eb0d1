/-! UNITS BY AN ORDER, OF ALL -/
theorem tot_D {F : AF} {G : AG} (hx : MX F G) (g : Int) : tot (me F G 0) (me F G 1) (G 55 0) (G 55 1) (mu G g) 0 (F 53 1 - 1) 0 (F 53 2 - 1) = aS (mv F G g) 0 0 (F 53 1 - 1) (F 53 2 - 1) := by
  rw [tot_dS (sq_x hx) (sq_y hx) (mu G g) (by omega) (by omega) (by omega) (by omega)]
  have sw := dS_swap (fun x y => mu G g (blk (me F G 0) (G 55 0) x) (blk (me F G 1) (G 55 1) y)) 0 (F 53 1 - 1) 0 (F 53 2 - 1)
  rw [sw]
  rfl
theorem pr_find {d : Nat} {S : AS} {F : AF} {G : AG} {b : Int} (hd : 6 ≤ d) (h : Inv S F G b) (g o n : Int) (hn : r64 n) : Pr d MX9_find MX10_find [vR 1, vI g, vI o, vJ n] [vR 53, vI g, vI o, vJ n] vJ S F G b := by
  refine pr_rel (P := PFd g o n) h (fun z z' p p' => pfd_uniq h p p') (fun F1 G1 k z p => pfd_scr k p) (fun Q hq => ?_) (fun F G h Q hq => ?_)
  · have hsh := inv_shc h
    have sz := inv_sz h
    refine ok_go rfl (by decide) (Nat.le_of_ble_eq_true rfl) (R_X9_find_0 hsh ?_)
    unfold V_X9_find_0
    refine ⟨by omega, _, pu_cisGood hsh g, fun q => hq F G _ (scr_rf F G) (Or.inl ⟨fun z => bI_0.mp q z.1, rfl⟩), fun q => ⟨_, pu_isAxis hsh o, fun q2 => ?_, fun q2 => hq F G _ (scr_rf F G) (Or.inl ⟨fun z => bI_0.mp q2 z.2, rfl⟩)⟩⟩
    have yg : 0 ≤ g ∧ g ≤ 2 := Classical.byContradiction (fun z => q (bI_f z))
    have yo : 0 ≤ o ∧ o ≤ 1 := Classical.byContradiction (fun z => q2 (bI_f z))
    obtain ⟨-, -, w0, w1, w2, w3⟩ := inv_cc h
    have yr : recOK F 0 0 (F 53 1 - 1) (F 53 2 - 1) := ⟨by omega, by omega, by omega, by omega, by omega, by omega⟩
    have fin : ∀ (F' : AF) (x y : Int), Same34 F F' → F' 34 4 = x → F' 34 5 = y → 0 ≤ x → x < F 53 1 → 0 ≤ y → y < F 53 2 → PFd g o n F G (F 53 1 * y + x) → ∃ z : Int, Pu (d - 1 - 1) MX2_number [vR 2, vI (F' 34 4), vI (F' 34 5)] S F' G (some (vJ z)) ∧ S = S ∧ ∃ z1 : Int, some (vJ z) = some (vJ z1) ∧ Q (some (vJ z1)) S F' G := by
      intro F' x y s e4 e5 x0 x1 y0 y1 p
      have k34 := scr_34 (G := G) s
      have hI4 := inv_scr h k34
      have sz4 := inv_sz hI4
      have v1 := k34.2.2.1.1
      have v2 := k34.2.2.1.2.1
      have pn := pu_cnumber (d := d - 1 - 1) (S := S) (F := F') (G := G) (by omega) hsh (inv_cc hI4) (x := x) (y := y) (by omega) (by omega) (by omega) (by omega)
      rw [e4, e5]
      have e42 : F' 4 2 = F 53 1 := by rw [sz4.1, v1]
      rw [e42] at pn
      exact ⟨_, pn, rfl, _, rfl, hq F' G _ k34 p⟩
    refine ok_go rfl (by decide) (Nat.le_of_ble_eq_true rfl) (R_X9_numberOfUnit_0 hsh (at_17 hsh) ?_)
    unfold V_X9_numberOfUnit_0
    refine ⟨fun n1 => ⟨by omega, ?_⟩, fun n1 => ⟨rfl, _, rfl, hq _ G _ (scr_rf F G) (Or.inr ⟨⟨yg, yo⟩, Or.inl ⟨by omega, rfl⟩⟩)⟩⟩
    by_cases o0 : o = 0
    · subst o0
      refine loc_inv0 (by omega) h (at_17 hsh) yg.1 yg.2 n1 hn w0 w1 (by rw [w2, sz.1]) (by rw [w3, sz.2.1]) yr (fun F' x y r s f e4 e5 _ _ => ⟨rfl, 1, rfl, fun z => absurd z (by decide), fun _ => ?_⟩) (fun F' s lt => ⟨rfl, 0, rfl, fun _ => ⟨rfl, _, rfl, hq F' G _ (scr_34 s) (Or.inr ⟨⟨yg, yo⟩, Or.inr ⟨n1, Or.inl ⟨lt, rfl⟩⟩⟩)⟩, fun z => absurd rfl z⟩)
      have fl := fdr_le h yg.1 yg.2 yr f
      exact fin F' x y s e4 e5 (by omega) (by omega) (by omega) (by omega) (Or.inr ⟨⟨yg, yo⟩, Or.inr ⟨n1, Or.inr ⟨fl.1, x, y, r, Or.inl ⟨rfl, f⟩, rfl⟩⟩⟩)
    · have o1 : o = 1 := by omega
      subst o1
      refine loc_inv1 (by omega) h yg.1 yg.2 n1 hn (fun F' x y r s f e4 e5 => ⟨rfl, 1, rfl, fun z => absurd z (by decide), fun _ => ?_⟩) (fun F' s lt => ⟨rfl, 0, rfl, fun _ => ⟨rfl, _, rfl, hq F' G _ (scr_34 s) (Or.inr ⟨⟨yg, yo⟩, Or.inr ⟨n1, Or.inl ⟨lt, rfl⟩⟩⟩)⟩, fun z => absurd rfl z⟩)
      have fl := fdd_in h yg.1 yg.2 f
      exact fin F' x y s e4 e5 (by omega) (by omega) (by omega) (by omega) (Or.inr ⟨⟨yg, yo⟩, Or.inr ⟨n1, Or.inr ⟨fl.2.2.2.2, x, y, r, Or.inr ⟨rfl, f⟩, rfl⟩⟩⟩)
  · have hsm := inv_shm h
    refine ok_go rfl (by decide) (Nat.le_of_ble_eq_true rfl) (R_X10_find_0 hsm ?_)
    unfold V_X10_find_0
    intro F1 e1
    subst e1
    have k := scr_thrown (F := F) (G := G)
    have h1 := inv_scr h k
    have hq' : ∀ (F' : AF) (G' : AG) (z : Int), Scr (fu F 53 0 0) F' G G' → PFd g o n (fu F 53 0 0) G z → Q (some (vJ z)) S F' G' := fun F' G' z k' p => hq F' G' z (scr_tr k k') (pfd_scr k p)
    clear hq
    generalize hF1 : fu F 53 0 0 = F1 at *
    have sz := inv_sz h1
    refine ⟨by omega, _, pu_isGood (by omega) hsm g, fun q => hq' F1 G _ (scr_rf _ _) (Or.inl ⟨fun z => bI_0.mp q z.1, rfl⟩), fun q => ⟨_, pu_isIn hsm _ _ _, fun q2 => ?_, fun q2 => hq' F1 G _ (scr_rf _ _) (Or.inl ⟨fun z => bI_0.mp q2 z.2, rfl⟩)⟩⟩
    have yg : 0 ≤ g ∧ g ≤ 2 := Classical.byContradiction (fun z => q (bI_f z))
    have yo : 0 ≤ o ∧ o ≤ 1 := Classical.byContradiction (fun z => q2 (bI_f z))
    have yr : recOK F1 0 0 (F1 53 1 - 1) (F1 53 2 - 1) := ⟨by omega, by omega, by omega, by omega, by omega, by omega⟩
    have ba := inv_all h1 yg.1 yg.2
    have tD := tot_D (inv_mx h1) g
    have fin : ∀ (F2 : AF) (x y s : Int), Scr F1 F2 G G → F2 53 21 = x → F2 53 22 = y → 0 ≤ x → x < F1 53 1 → 0 ≤ y → y < F1 53 2 → PFd g o n F1 G (F1 53 1 * y + x) → V_X10_find_84 d S F2 G Q g o n s := by
      intro F2 x y s kk vx vy x0 x1 y0 y1 p
      have v1 := kk.2.2.1.1
      have v2 := kk.2.2.1.2.1
      have pn := pu_number (d := d - 1) (S := S) (F := F2) (G := G) hsm (x := x) (y := y) (by omega) (by omega) (by omega) (by omega) (by omega) (by omega)
      rw [v1] at pn
      unfold V_X10_find_84
      rw [vx, vy]
      exact ⟨by omega, _, pn, hq' _ G _ kk p⟩
    refine ⟨fun n1 => ⟨yg.1, by omega, fun n2 => ⟨fun o1 => ?_, fun o0 => ⟨by omega, by omega, ?_⟩⟩, fun n2 => hq' F1 G _ (scr_rf _ _) (Or.inr ⟨⟨yg, yo⟩, Or.inr ⟨n1, Or.inl ⟨by omega, rfl⟩⟩⟩)⟩, fun n1 => hq' F1 G _ (scr_rf _ _) (Or.inr ⟨⟨yg, yo⟩, Or.inl ⟨by omega, rfl⟩⟩)⟩
    · have e1 : o = 1 := by omega
      subst e1
      refine ok_findsDown (by omega) hsm (inv_mx h1) (inv_mba h1) yg.1 yg.2 (by omega) n1 (by omega) (fun x y r f => ⟨rfl, 1, rfl, ?_⟩) (fun lt => absurd lt (by omega))
      have fl := fdd_in h1 yg.1 yg.2 f
      exact fin _ x y 1 (scr_tr (scr_f (by decide) (by decide) (by decide) (by decide) (by decide) (by decide) (by decide) (by decide) (by decide)) (scr_f (by decide) (by decide) (by decide) (by decide) (by decide) (by decide) (by decide) (by decide) (by decide))) (by rw [fu_k (by decide), fu_s]) fu_s (by omega) (by omega) (by omega) (by omega) (Or.inr ⟨⟨yg, yo⟩, Or.inr ⟨n1, Or.inr ⟨fl.2.2.2.2, x, y, r, Or.inr ⟨rfl, f⟩, rfl⟩⟩⟩)
    · subst o0
      refine ok_finds (by omega) hsm (inv_mx h1) (inv_mba h1) (inv_mt h1) yg.1 yg.2 yr n1 (by omega) (fun x y r f => ⟨rfl, 1, rfl, ?_⟩) (fun lt => absurd lt (by omega))
      have fl := fdr_le h1 yg.1 yg.2 yr f
      exact fin _ x y 1 (scr_tr (scr_tr (scr_f (by decide) (by decide) (by decide) (by decide) (by decide) (by decide) (by decide) (by decide) (by decide)) (scr_f (by decide) (by decide) (by decide) (by decide) (by decide) (by decide) (by decide) (by decide) (by decide))) (scr_f (by decide) (by decide) (by decide) (by decide) (by decide) (by decide) (by decide) (by decide) (by decide))) (by rw [fu_k (by decide), fu_s]) (by rw [fu_k (by decide), fu_k (by decide), fu_s]) (by omega) (by omega) (by omega) (by omega) (Or.inr ⟨⟨yg, yo⟩, Or.inr ⟨n1, Or.inr ⟨fl.1, x, y, r, Or.inl ⟨rfl, f⟩, rfl⟩⟩⟩)
