section
/-! THE WORDS OF THE SYSTEM -/
def wL (i : Nat) : List Int := [[97, 100, 100], [112, 105, 99, 107], [98, 101, 103, 105, 110], [99, 111, 109, 109, 105, 116], [99, 97, 110, 99, 101, 108]].getD i []
theorem wl_len9 : ∀ i : Nat, i < 5 → (wL i).length = lenS.getD i 0 ∧ 3 ≤ (wL i).length ∧ (wL i).length ≤ 6 := by decide +kernel
theorem wl_ch : ∀ i : Nat, i < 5 → ∀ j : Nat, j < 6 → j < (wL i).length → chS i j = (wL i).getD j 0 := by decide +kernel
theorem ok_isWord {d : Nat} {S : AS} {F : AF} {G : AG} (hd : 4 ≤ d) (hsh : ShC S) (h : TokOK F G) {i : Nat} (hi : i < 5) {Q : AQ} (ht : mw (G 47) (F 46 4) (F 46 5) (wL i) → Q (some (vI 1)) S F G) (hf : ¬ mw (G 47) (F 46 4) (F 46 5) (wL i) → Q (some (vI 0)) S F G) : Ok d MX5_isWord [vR 46, vR (1000000 + 2 * i)] S F G Q := by
  have hi6 : i < 6 := by omega
  have tk := tok_5 h
  obtain ⟨t1, t2, t3, t4, -, -⟩ := id h
  obtain ⟨wl1, wl2, wl3⟩ := wl_len9 i hi
  have k46 := shc_k hsh 46 (by decide) (by decide)
  have loop : F 46 5 - F 46 4 = ((wL i).length : Int) → Go d MX5_isWord 20 [some (vR 46), some (vR (1000000 + 2 * i)), some (vI 0)] [] S F G Q := by
    intro el
    refine up_ind (α := Unit) ((wL i).length - 1) (fun k _ => 0 ≤ k ∧ k ≤ (wL i).length ∧ ∀ t : Nat, (t : Int) < k → G 47 (F 46 4 + t) = (wL i).getD t 0) (fun k _ => Go d MX5_isWord 20 [some (vR 46), some (vR (1000000 + 2 * i)), some (vI k)] [] S F G Q) ?_ ?_ 0 () ⟨by omega, by omega, fun t z => absurd z (by omega)⟩
    · rintro k - ⟨k0, k1, al⟩ hk ih
      refine go_iload_n (show decode cX5_isWord 20 = .ok (.iload_n 2, 1) by decide +kernel) (by rfl) ?_
      refine go_aload_n (show decode cX5_isWord 21 = .ok (.aload_n 1, 1) by decide +kernel) (by rfl) ?_
      refine go_callVS (d2 := d - 1) (M2 := MJ0_length) (n := 0) (av := []) (st := [vI k]) (show decode cX5_isWord 22 = .ok (.invokevirtual 118, 3) by decide +kernel) mlS_X5_118 mt_J0_length min_J0_length mse_J0_length hi6 rfl (Nat.le_of_ble_eq_true rfl) (by omega) (ok_mono (pu_slen (by omega) hi6) (fun w S1 F1 G1 e => ?_))
      obtain ⟨e1, e2, e3, e4⟩ := e
      subst e1 e2 e3 e4
      refine go_icmpge (x := k) (y := (lenS.getD i 0 : Nat)) (tgt := 55) (show decode cX5_isWord 25 = .ok (.if_icmp .ge 30, 3) by decide +kernel) (by decide) (fun hc => absurd hc (by omega)) (fun _ => ?_)
      refine go_aload_n (show decode cX5_isWord 28 = .ok (.aload_n 0, 1) by decide +kernel) (by rfl) ?_
      refine go_getRc (show decode cX5_isWord 29 = .ok (.getfield 9, 3) by decide +kernel) fl_X5_9 rfl k46 (v := 47) (shc_r hsh 46 0 (by decide) (by decide) (by decide)) ?_
      refine go_aload_n (show decode cX5_isWord 32 = .ok (.aload_n 0, 1) by decide +kernel) (by rfl) ?_
      refine go_getI (show decode cX5_isWord 33 = .ok (.getfield 97, 3) by decide +kernel) fl_X5_97 (Or.inl rfl) k46 ?_
      refine go_iload_n (show decode cX5_isWord 36 = .ok (.iload_n 2, 1) by decide +kernel) (by rfl) ?_
      refine go_iadd (show decode cX5_isWord 37 = .ok (.iadd, 1) by decide +kernel) (by omega) ?_
      refine go_baload (show decode cX5_isWord 38 = .ok (.baload, 1) by decide +kernel) (shc_k hsh 47 (by decide) (by decide)) (by omega) (lt_n (m := 500) (by omega) (shc_n hsh 47 (by decide) (by decide))) ?_
      refine go_aload_n (show decode cX5_isWord 39 = .ok (.aload_n 1, 1) by decide +kernel) (by rfl) ?_
      refine go_iload_n (show decode cX5_isWord 40 = .ok (.iload_n 2, 1) by decide +kernel) (by rfl) ?_
      refine go_callVS (d2 := d - 1) (M2 := MJ0_charAt) (n := 1) (av := [vI k]) (st := [vI (G1 47 (F1 46 4 + k))]) (show decode cX5_isWord 41 = .ok (.invokevirtual 123, 3) by decide +kernel) mlS_X5_123 mt_J0_charAt min_J0_charAt mse_J0_charAt hi6 rfl (Nat.le_of_ble_eq_true rfl) (by omega) (ok_mono (pu_char (by omega) hi6 k0 (by omega)) (fun w S2 F2 G2 e => ?_))
      obtain ⟨e1, e2, e3, e4⟩ := e
      subst e1 e2 e3 e4
      have ech : chS i k = (wL i).getD k.toNat 0 := by
        have := wl_ch i hi k.toNat (by omega) (by omega)
        rw [show ((k.toNat : Nat) : Int) = k by omega] at this
        exact this
      refine go_icmpeq (x := G2 47 (F2 46 4 + k)) (y := chS i k) (tgt := 49) (show decode cX5_isWord 44 = .ok (.if_icmp .eq 5, 3) by decide +kernel) (by decide) (fun hc => ?_) (fun hc => ?_)
      · refine go_iinc (show decode cX5_isWord 49 = .ok (.iinc 2 1, 3) by decide +kernel) (by rfl) (by omega) (by decide) ?_
        refine go_goto (tgt := 20) (show decode cX5_isWord 52 = .ok (.goto (-32), 3) by decide +kernel) (by decide) ?_
        refine ih () ⟨by omega, by omega, fun t tk => ?_⟩
        by_cases z : (t : Int) = k
        · rw [z, hc, ech]
          congr 1
          omega
        · exact al t (by omega)
      · refine go_iconst (show decode cX5_isWord 47 = .ok (.iconst 0, 1) by decide +kernel) (by decide) ?_
        refine go_zret (show decode cX5_isWord 48 = .ok (.ireturn, 1) by decide +kernel) rfl (Or.inl rfl) (hf (fun z => hc ?_))
        rw [ech, ← z.2 k.toNat (by omega), show ((k.toNat : Nat) : Int) = k by omega]
    · rintro k - ⟨k0, k1, al⟩ hk
      refine go_iload_n (show decode cX5_isWord 20 = .ok (.iload_n 2, 1) by decide +kernel) (by rfl) ?_
      refine go_aload_n (show decode cX5_isWord 21 = .ok (.aload_n 1, 1) by decide +kernel) (by rfl) ?_
      refine go_callVS (d2 := d - 1) (M2 := MJ0_length) (n := 0) (av := []) (st := [vI k]) (show decode cX5_isWord 22 = .ok (.invokevirtual 118, 3) by decide +kernel) mlS_X5_118 mt_J0_length min_J0_length mse_J0_length hi6 rfl (Nat.le_of_ble_eq_true rfl) (by omega) (ok_mono (pu_slen (by omega) hi6) (fun w S1 F1 G1 e => ?_))
      obtain ⟨e1, e2, e3, e4⟩ := e
      subst e1 e2 e3 e4
      refine go_icmpge (x := k) (y := (lenS.getD i 0 : Nat)) (tgt := 55) (show decode cX5_isWord 25 = .ok (.if_icmp .ge 30, 3) by decide +kernel) (by decide) (fun _ => ?_) (fun hc => absurd (by omega) hc)
      refine go_iconst (show decode cX5_isWord 55 = .ok (.iconst 1, 1) by decide +kernel) (by decide) ?_
      exact go_zret (show decode cX5_isWord 56 = .ok (.ireturn, 1) by decide +kernel) rfl (Or.inr rfl) (ht ⟨el, fun t tl => al t (by omega)⟩)
  have g : Go d MX5_isWord 0 [some (vR 46), some (vR (1000000 + 2 * i)), none] [] S F G Q := by
    refine go_aload_n (show decode cX5_isWord 0 = .ok (.aload_n 0, 1) by decide +kernel) (by rfl) ?_
    refine go_getI (show decode cX5_isWord 1 = .ok (.getfield 48, 3) by decide +kernel) fl_X5_48 (Or.inl rfl) k46 ?_
    refine go_aload_n (show decode cX5_isWord 4 = .ok (.aload_n 0, 1) by decide +kernel) (by rfl) ?_
    refine go_getI (show decode cX5_isWord 5 = .ok (.getfield 97, 3) by decide +kernel) fl_X5_97 (Or.inl rfl) k46 ?_
    refine go_isub (show decode cX5_isWord 8 = .ok (.isub, 1) by decide +kernel) (by omega) ?_
    refine go_aload_n (show decode cX5_isWord 9 = .ok (.aload_n 1, 1) by decide +kernel) (by rfl) ?_
    refine go_callVS (d2 := d - 1) (M2 := MJ0_length) (n := 0) (av := []) (st := [vI (F 46 5 - F 46 4)]) (show decode cX5_isWord 10 = .ok (.invokevirtual 118, 3) by decide +kernel) mlS_X5_118 mt_J0_length min_J0_length mse_J0_length hi6 rfl (Nat.le_of_ble_eq_true rfl) (by omega) (ok_mono (pu_slen (by omega) hi6) (fun w S1 F1 G1 e => ?_))
    obtain ⟨e1, e2, e3, e4⟩ := e
    subst e1 e2 e3 e4
    refine go_icmpeq (x := F1 46 5 - F1 46 4) (y := (lenS.getD i 0 : Nat)) (tgt := 18) (show decode cX5_isWord 13 = .ok (.if_icmp .eq 5, 3) by decide +kernel) (by decide) (fun hc => ?_) (fun hc => ?_)
    · refine go_iconst (show decode cX5_isWord 18 = .ok (.iconst 0, 1) by decide +kernel) (by decide) ?_
      refine go_istore_n (show decode cX5_isWord 19 = .ok (.istore_n 2, 1) by decide +kernel) (by decide) ?_
      exact loop (by rw [hc, wl1])
    · refine go_iconst (show decode cX5_isWord 16 = .ok (.iconst 0, 1) by decide +kernel) (by decide) ?_
      exact go_zret (show decode cX5_isWord 17 = .ok (.ireturn, 1) by decide +kernel) rfl (Or.inl rfl) (hf (fun z => hc (by rw [z.1, wl1])))
  exact ok_go rfl (by decide) (Nat.le_of_ble_eq_true rfl) g
theorem kws {S : AS} (hsh : ShC S) : KWs S := by
  classical
  intro d F G hd h
  have k46 := shc_k hsh 46 (by decide) (by decide)
  obtain ⟨t1, t2, t3, t4, t5, t6⟩ := id h
  have g : Go d MX5_kindOfWord 0 [some (vR 46)] [] S F G (fun r' S' F' G' => r' = some (vI (wd (G 47) (F 46 2) (F 46 4))) ∧ S' = S ∧ F' = F ∧ G' = G) := by
    refine go_aload_n (show decode cX5_kindOfWord 0 = .ok (.aload_n 0, 1) by decide +kernel) (by rfl) ?_
    refine go_getI (show decode cX5_kindOfWord 1 = .ok (.getfield 57, 3) by decide +kernel) fl_X5_57 (Or.inl rfl) k46 ?_
    refine go_iconst (show decode cX5_kindOfWord 4 = .ok (.iconst 1, 1) by decide +kernel) (by decide) ?_
    refine go_icmpeq (tgt := 10) (show decode cX5_kindOfWord 5 = .ok (.if_icmp .eq 5, 3) by decide +kernel) (by decide) (fun hc => ?_) (fun hc => ?_)
    · have ek : kd (G 47) (F 46 2) (F 46 4) = 1 := by rw [← t5]; exact hc
      have w0 : wd (G 47) (F 46 2) (F 46 4) = if mw (G 47) (F 46 4) (F 46 5) (wL 0) then 0 else if mw (G 47) (F 46 4) (F 46 5) (wL 1) then 1 else if mw (G 47) (F 46 4) (F 46 5) (wL 2) then 2 else if mw (G 47) (F 46 4) (F 46 5) (wL 3) then 3 else if mw (G 47) (F 46 4) (F 46 5) (wL 4) then 4 else -1 := by
        unfold wd
        rw [if_neg (fun z => z ek), t6]
        rfl
      rw [w0]
      refine go_aload_n (show decode cX5_kindOfWord 10 = .ok (.aload_n 0, 1) by decide +kernel) (by rfl) ?_
      refine go_ldcS (i := 0) (show decode cX5_kindOfWord 11 = .ok (.ldc 104, 2) by decide +kernel) (by decide) rfl rfl ?_
      refine go_callV (ci := 5) (d2 := d - 1) (M2 := MX5_isWord) (n := 1) (av := [vR 1000000]) (st := []) (show decode cX5_kindOfWord 13 = .ok (.invokevirtual 106, 3) by decide +kernel) ml_X5_106 mt_X5_isWord min_X5_isWord mse_X5_isWord (by decide) k46 rfl (Nat.le_of_ble_eq_true rfl) (by omega) (ok_isWord (i := 0) (by omega) hsh h (by decide) (fun m0 => ?_) (fun m0 => ?_))
      · rw [if_pos m0]
        refine go_ifeq (x := 1) (tgt := 21) (show decode cX5_kindOfWord 16 = .ok (.ifCond .eq 5, 3) by decide +kernel) (by decide) (fun z => absurd z (by decide)) (fun _ => ?_)
        refine go_iconst (show decode cX5_kindOfWord 19 = .ok (.iconst 0, 1) by decide +kernel) (by decide) ?_
        exact go_iret (show decode cX5_kindOfWord 20 = .ok (.ireturn, 1) by decide +kernel) rfl ⟨rfl, rfl, rfl, rfl⟩
      rw [if_neg m0]
      refine go_ifeq (x := 0) (tgt := 21) (show decode cX5_kindOfWord 16 = .ok (.ifCond .eq 5, 3) by decide +kernel) (by decide) (fun _ => ?_) (fun z => absurd rfl z)
      refine go_aload_n (show decode cX5_kindOfWord 21 = .ok (.aload_n 0, 1) by decide +kernel) (by rfl) ?_
      refine go_ldcS (i := 1) (show decode cX5_kindOfWord 22 = .ok (.ldc 110, 2) by decide +kernel) (by decide) rfl rfl ?_
      refine go_callV (ci := 5) (d2 := d - 1) (M2 := MX5_isWord) (n := 1) (av := [vR 1000002]) (st := []) (show decode cX5_kindOfWord 24 = .ok (.invokevirtual 106, 3) by decide +kernel) ml_X5_106 mt_X5_isWord min_X5_isWord mse_X5_isWord (by decide) k46 rfl (Nat.le_of_ble_eq_true rfl) (by omega) (ok_isWord (i := 1) (by omega) hsh h (by decide) (fun m1 => ?_) (fun m1 => ?_))
      · rw [if_pos m1]
        refine go_ifeq (x := 1) (tgt := 32) (show decode cX5_kindOfWord 27 = .ok (.ifCond .eq 5, 3) by decide +kernel) (by decide) (fun z => absurd z (by decide)) (fun _ => ?_)
        refine go_iconst (show decode cX5_kindOfWord 30 = .ok (.iconst 1, 1) by decide +kernel) (by decide) ?_
        exact go_iret (show decode cX5_kindOfWord 31 = .ok (.ireturn, 1) by decide +kernel) rfl ⟨rfl, rfl, rfl, rfl⟩
      rw [if_neg m1]
      refine go_ifeq (x := 0) (tgt := 32) (show decode cX5_kindOfWord 27 = .ok (.ifCond .eq 5, 3) by decide +kernel) (by decide) (fun _ => ?_) (fun z => absurd rfl z)
      refine go_aload_n (show decode cX5_kindOfWord 32 = .ok (.aload_n 0, 1) by decide +kernel) (by rfl) ?_
      refine go_ldcS (i := 2) (show decode cX5_kindOfWord 33 = .ok (.ldc 112, 2) by decide +kernel) (by decide) rfl rfl ?_
      refine go_callV (ci := 5) (d2 := d - 1) (M2 := MX5_isWord) (n := 1) (av := [vR 1000004]) (st := []) (show decode cX5_kindOfWord 35 = .ok (.invokevirtual 106, 3) by decide +kernel) ml_X5_106 mt_X5_isWord min_X5_isWord mse_X5_isWord (by decide) k46 rfl (Nat.le_of_ble_eq_true rfl) (by omega) (ok_isWord (i := 2) (by omega) hsh h (by decide) (fun m2 => ?_) (fun m2 => ?_))
      · rw [if_pos m2]
        refine go_ifeq (x := 1) (tgt := 43) (show decode cX5_kindOfWord 38 = .ok (.ifCond .eq 5, 3) by decide +kernel) (by decide) (fun z => absurd z (by decide)) (fun _ => ?_)
        refine go_iconst (show decode cX5_kindOfWord 41 = .ok (.iconst 2, 1) by decide +kernel) (by decide) ?_
        exact go_iret (show decode cX5_kindOfWord 42 = .ok (.ireturn, 1) by decide +kernel) rfl ⟨rfl, rfl, rfl, rfl⟩
      rw [if_neg m2]
      refine go_ifeq (x := 0) (tgt := 43) (show decode cX5_kindOfWord 38 = .ok (.ifCond .eq 5, 3) by decide +kernel) (by decide) (fun _ => ?_) (fun z => absurd rfl z)
      refine go_aload_n (show decode cX5_kindOfWord 43 = .ok (.aload_n 0, 1) by decide +kernel) (by rfl) ?_
      refine go_ldcS (i := 3) (show decode cX5_kindOfWord 44 = .ok (.ldc 114, 2) by decide +kernel) (by decide) rfl rfl ?_
      refine go_callV (ci := 5) (d2 := d - 1) (M2 := MX5_isWord) (n := 1) (av := [vR 1000006]) (st := []) (show decode cX5_kindOfWord 46 = .ok (.invokevirtual 106, 3) by decide +kernel) ml_X5_106 mt_X5_isWord min_X5_isWord mse_X5_isWord (by decide) k46 rfl (Nat.le_of_ble_eq_true rfl) (by omega) (ok_isWord (i := 3) (by omega) hsh h (by decide) (fun m3 => ?_) (fun m3 => ?_))
      · rw [if_pos m3]
        refine go_ifeq (x := 1) (tgt := 54) (show decode cX5_kindOfWord 49 = .ok (.ifCond .eq 5, 3) by decide +kernel) (by decide) (fun z => absurd z (by decide)) (fun _ => ?_)
        refine go_iconst (show decode cX5_kindOfWord 52 = .ok (.iconst 3, 1) by decide +kernel) (by decide) ?_
        exact go_iret (show decode cX5_kindOfWord 53 = .ok (.ireturn, 1) by decide +kernel) rfl ⟨rfl, rfl, rfl, rfl⟩
      rw [if_neg m3]
      refine go_ifeq (x := 0) (tgt := 54) (show decode cX5_kindOfWord 49 = .ok (.ifCond .eq 5, 3) by decide +kernel) (by decide) (fun _ => ?_) (fun z => absurd rfl z)
      refine go_aload_n (show decode cX5_kindOfWord 54 = .ok (.aload_n 0, 1) by decide +kernel) (by rfl) ?_
      refine go_ldcS (i := 4) (show decode cX5_kindOfWord 55 = .ok (.ldc 116, 2) by decide +kernel) (by decide) rfl rfl ?_
      refine go_callV (ci := 5) (d2 := d - 1) (M2 := MX5_isWord) (n := 1) (av := [vR 1000008]) (st := []) (show decode cX5_kindOfWord 57 = .ok (.invokevirtual 106, 3) by decide +kernel) ml_X5_106 mt_X5_isWord min_X5_isWord mse_X5_isWord (by decide) k46 rfl (Nat.le_of_ble_eq_true rfl) (by omega) (ok_isWord (i := 4) (by omega) hsh h (by decide) (fun m4 => ?_) (fun m4 => ?_))
      · rw [if_pos m4]
        refine go_ifeq (x := 1) (tgt := 67) (show decode cX5_kindOfWord 60 = .ok (.ifCond .eq 7, 3) by decide +kernel) (by decide) (fun z => absurd z (by decide)) (fun _ => ?_)
        refine go_iconst (show decode cX5_kindOfWord 63 = .ok (.iconst 4, 1) by decide +kernel) (by decide) ?_
        refine go_goto (tgt := 68) (show decode cX5_kindOfWord 64 = .ok (.goto 4, 3) by decide +kernel) (by decide) ?_
        exact go_iret (show decode cX5_kindOfWord 68 = .ok (.ireturn, 1) by decide +kernel) rfl ⟨rfl, rfl, rfl, rfl⟩
      rw [if_neg m4]
      refine go_ifeq (x := 0) (tgt := 67) (show decode cX5_kindOfWord 60 = .ok (.ifCond .eq 7, 3) by decide +kernel) (by decide) (fun _ => ?_) (fun z => absurd rfl z)
      refine go_iconst (show decode cX5_kindOfWord 67 = .ok (.iconst (-1), 1) by decide +kernel) (by decide) ?_
      exact go_iret (show decode cX5_kindOfWord 68 = .ok (.ireturn, 1) by decide +kernel) rfl ⟨rfl, rfl, rfl, rfl⟩
    · have nk : ¬ kd (G 47) (F 46 2) (F 46 4) = 1 := fun z => hc (by rw [t5]; exact z)
      have w0 : wd (G 47) (F 46 2) (F 46 4) = -1 := by
        unfold wd
        rw [if_pos nk]
      rw [w0]
      refine go_iconst (show decode cX5_kindOfWord 8 = .ok (.iconst (-1), 1) by decide +kernel) (by decide) ?_
      exact go_iret (show decode cX5_kindOfWord 9 = .ok (.ireturn, 1) by decide +kernel) rfl ⟨rfl, rfl, rfl, rfl⟩
  exact ok_go rfl (by decide) (Nat.le_of_ble_eq_true rfl) g
end
