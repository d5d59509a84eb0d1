section
/-! LENGTH AND CHARS OF A STRING -/
theorem zStr_ad2 {ad ad1 : Nat → Nat} {A : Nat → Prop} {H : Heap} {s : State} (h : zStr ad A H s) (he : ∀ k, 1000000 ≤ k → ad1 k = ad k) : zStr ad1 A H s := by
  unfold zStr
  have e1 : (fun i => ad1 (1000000 + 2 * i)) = (fun i => ad (1000000 + 2 * i)) := funext (fun i => he _ (by omega))
  have e2 : (fun i => ad1 (1000001 + 2 * i)) = (fun i => ad (1000001 + 2 * i)) := funext (fun i => he _ (by omega))
  rw [e1, e2]
  exact ⟨fun i hi => by rw [he _ (by omega)]; exact h.1 i hi, h.2⟩
theorem ce_ad {ad ad1 : Nat → Nat} {ca : Nat → ClassId} {S : AS} {F : AF} {G : AG} {c : Nat} (hR : ∀ k, sR S c k ≤ sn S) (he : ∀ k, k ≤ sn S → ad1 k = ad k) : ce ad1 ca S F G c = ce ad ca S F G c := by
  have er : ∀ k, rf ad1 (sR S c k) = rf ad (sR S c k) := fun k => by simp only [rf, he _ (hR k)]
  have ef : ∀ (t : Nat) (z : Int) (k : Nat), fv ad1 t z (sR S c k) = fv ad t z (sR S c k) := by
    intro t z k
    match t with
    | 0 => rfl
    | 1 => rfl
    | 2 => simp only [fv, er k]
    | t + 3 => rfl
  simp only [ce, er, ef]
theorem wl_ad {ad ad1 : Nat → Nat} {ca : Nat → ClassId} {S : AS} {F : AF} {G : AG} (h : RG S F G) (he : ∀ k, k ≤ sn S → ad1 k = ad k) : wl ad1 ca S F G = wl ad ca S F G := by
  refine List.map_congr_left (fun i hi => ?_)
  have := List.mem_range.mp hi
  rw [he (i + 1) (by omega), ce_ad (fun k => h.2.2.1 _ k) he]
theorem sm_ad {D : va_G} {ad ad1 : Nat → Nat} {ca : Nat → ClassId} {tys : List (ClassId × FieldType)} {S : AS} {F : AF} {G : AG} {A : Nat → Prop} {H : Heap} {s : State} (h : RG S F G) (he : ∀ k, k ≤ sn S → ad1 k = ad k) (hm : Sm D ad ca tys S F G A H s) : Sm D ad1 ca tys S F G A H s := by
  unfold Sm
  rw [wl_ad h he]
  exact hm
theorem pu_J3 {d : Nat} {S : AS} {F : AF} {G : AG} {i n : Int} (i0 : 0 ≤ i) (i1 : i < n) (fo : Nat) : Pu d MJ3_checkIndex [vI i, vI n, vR fo] S F G (some (vI i)) := by
  have g : Go d MJ3_checkIndex 0 [some (vI i), some (vI n), some (vR fo)] [] S F G (fun r' S' F' G' => r' = some (vI i) ∧ S' = S ∧ F' = F ∧ G' = G) := by
    refine go_iload_n (show decode cJ3_checkIndex_8e157 0 = .ok (.iload_n 0, 1) by decide +kernel) (by rfl) ?_
    refine go_iflt (tgt := 9) (show decode cJ3_checkIndex_8e157 1 = .ok (.ifCond .lt 8, 3) by decide +kernel) (by decide) (fun hc => absurd hc (by omega)) (fun _ => ?_)
    refine go_iload_n (show decode cJ3_checkIndex_8e157 4 = .ok (.iload_n 0, 1) by decide +kernel) (by rfl) ?_
    refine go_iload_n (show decode cJ3_checkIndex_8e157 5 = .ok (.iload_n 1, 1) by decide +kernel) (by rfl) ?_
    refine go_icmplt (tgt := 16) (show decode cJ3_checkIndex_8e157 6 = .ok (.if_icmp .lt 10, 3) by decide +kernel) (by decide) (fun _ => ?_) (fun hc => absurd i1 hc)
    refine go_iload_n (show decode cJ3_checkIndex_8e157 16 = .ok (.iload_n 0, 1) by decide +kernel) (by rfl) ?_
    exact go_iret (show decode cJ3_checkIndex_8e157 17 = .ok (.ireturn, 1) by decide +kernel) rfl ⟨rfl, rfl, rfl, rfl⟩
  exact ok_go rfl (by decide) (Nat.le_of_ble_eq_true rfl) g
/-- the formatter, which may be null, and the check: one step -/
theorem go_fmt {d : Nat} {L : AL} {S : AS} {F : AF} {G : AG} {Q : AQ} {i n : Int} (hd2 : 1 ≤ d) (i0 : 0 ≤ i) (i1 : i < n) (kk : Go d MJ0_checkIndex 8 L [vI i] S F G Q) : Go d MJ0_checkIndex 2 L [vI n, vI i] S F G Q := by
  refine go_rg (fun h0 h1 h2 => ?_)
  have hi9 : okV (sn S) (vI i) := h1 _ (List.mem_cons_of_mem _ List.mem_cons_self)
  have hn9 : okV (sn S) (vI n) := h1 _ List.mem_cons_self
  refine go_hp (S1 := S) (F1 := F) (G1 := G) kk (fun _ _ _ => ⟨⟨Nat.le_refl _, Nat.le_refl _, rfl, rfl, h0, fun v hv => by cases hv⟩, fun v hv => by rw [List.mem_singleton.mp hv]; exact hi9, ?_⟩)
  intro p l e R s m args below meth c H locs cells slots Qs D ad ca tys A H0 ls hE hsc hfr hlo hce hsl hm hv hA hl k9
  have call : ∀ (fo : Nat) (ad1 : Nat → Nat), (∀ k, k ≤ sn S → ad1 k = ad k) → (∀ k, 1000000 ≤ k → ad1 k = ad k) → okV (sn S) (vR fo) → W p l e R s m args below meth c H locs cells slots Qs (F0 m 5 ls ([vR fo, vI n, vI i].map (vt ad1))) := by
    intro fo ad1 he1 he2 hfo
    have hav : okS (sn S) [vI i, vI n, vR fo] := fun v hv => by
      rcases List.mem_cons.mp hv with q | q
      · rw [q]; exact hi9
      · rcases List.mem_cons.mp q with q | q
        · rw [q]; exact hn9
        · rw [List.mem_singleton.mp q]; exact hfo
    obtain ⟨r, S1, F1, G1, ⟨e1, e2, e3, e4⟩, hok, hmet⟩ := pu_J3 (d := d - 1) (S := S) (F := F) (G := G) i0 i1 fo h0 hav
    subst e1 e2 e3 e4
    have hm1 : Sm D ad1 ca tys S1 F1 G1 A H s := sm_ad h0 he1 hm
    have hMt := hmet l D ad1 ca tys H.size (d - 1) (Nat.le_refl _)
    have hc9 := lv_room (m := m) (pc := 5) (ls := ls) (rest := [vR fo, vI n, vI i].map (vt ad1)) (st := ([] : List AV).map (vt ad1)) (by rw [cs_vt]; exact Nat.le_of_ble_eq_true rfl)
    have hrun := va_runS (p := p) (l := l) (e := e) (R := R) (s := s) (m := m) (args := args) (below := below) (meth := meth) (c := c) (H := H) (locs := locs) (cells := cells) (slots := slots) (As := [vI i, vI n, vR fo].map (vt ad1)) (rest := ([] : List AV).map (vt ad1)) (g := F0 m 5 ls ([vR fo, vI n, vI i].map (vt ad1))) (nL := MJ0_checkIndex.2.2.1) (cc := MJ0_checkIndex.2.1) (Ts := lw_good) ⟨hE.1, hE.2.1, hE.2.2.1, hE.2.2.2.1, hE.2.2.2.2.1⟩ hMt ⟨zCallB (d := d) (d2 := d - 1) hE mt_J3_checkIndex (by omega) hfr hlo mlS_J0_1059, hE.2.2.2.2.1 _ mst_J3_checkIndex⟩ ⟨zPc_blind, zPc_pre hE.2.2.2.2.2.2.2.2 (zStr_ad2 hsc.2 he2) hv hA hm1⟩ rfl rfl hl.1 rfl hc9 (show decode cJ0_checkIndex_df160 5 = .ok (.invokestatic 1059, 3) by decide +kernel) ⟨hce, hsl⟩
    refine zBack (S1 := S1) (F1 := F1) (G1 := G1) (r := some (vI i)) (st := []) rfl rfl h0.2.2.2.2.2 (fun v hv => by cases hv) hm1 hv hA (fun _ _ _ q => q) hrun (fun H1 locs1 ad2 ca1 tys1 y1 y2 y3 => ?_)
    exact k9 H1 locs1 ad ca1 tys1 (sm_ad h0 (fun k hk => by rw [y2 k (Or.inl hk), he1 k hk]) y1) ex_refl y3
  rcases hsc.2.2.2.2.kept hv.2.1 with hz | ⟨t, hz⟩
  · obtain ⟨cf, kf, fi, f, a, cell, h1, h2, h3, h4, h5, h6, h7, h8⟩ := hz
    refine W.gets hE.1 hE.2.1 hE.2.2.2.1 (hE.2.2.2.2.1 _ flS_1053) h1 h2 h3 h4 h5 (fun e => by rw [e] at h6; cases h6) h7 rfl (show decode cJ0_checkIndex_df160 2 = .ok (.getstatic 1053, 3) by decide +kernel) ?_
    exact call 0 ad (fun _ _ => rfl) (fun _ _ => rfl) (Or.inl (Nat.zero_le _))
  · obtain ⟨cf, kf, fi, f, a, cell, h1, h2, h3, h4, h5, h6, h7, h8⟩ := hz
    refine W.gets hE.1 hE.2.1 hE.2.2.2.1 (hE.2.2.2.2.1 _ flS_1053) h1 h2 h3 h4 h5 (fun e => by rw [e] at h6; cases h6) h7 rfl (show decode cJ0_checkIndex_df160 2 = .ok (.getstatic 1053, 3) by decide +kernel) ?_
    have := call 999999 (fun k => if k = 999999 then t else ad k) (fun k hk => if_neg (by have := h0.2.2.2.2.2; omega)) (fun k hk => if_neg (by omega)) (Or.inr (Nat.le_refl _))
    simp only [List.map_cons, vt_ref (show 1 ≤ 999999 by omega), if_true] at this
    exact this
theorem pu_J0_check {d : Nat} {S : AS} {F : AF} {G : AG} (hd : 1 ≤ d) {i n : Int} (i0 : 0 ≤ i) (i1 : i < n) : Pu d MJ0_checkIndex [vI i, vI n] S F G none := by
  have g : Go d MJ0_checkIndex 0 [some (vI i), some (vI n)] [] S F G (fun r' S' F' G' => r' = none ∧ S' = S ∧ F' = F ∧ G' = G) := by
    refine go_iload_n (show decode cJ0_checkIndex_df160 0 = .ok (.iload_n 0, 1) by decide +kernel) (by rfl) ?_
    refine go_iload_n (show decode cJ0_checkIndex_df160 1 = .ok (.iload_n 1, 1) by decide +kernel) (by rfl) ?_
    refine go_fmt hd i0 i1 ?_
    refine go_pop (show decode cJ0_checkIndex_df160 8 = .ok (.pop, 1) by decide +kernel) ?_
    exact go_vret (show decode cJ0_checkIndex_df160 9 = .ok (.return_, 1) by decide +kernel) rfl ⟨rfl, rfl, rfl, rfl⟩
  exact ok_go rfl (by decide) (Nat.le_of_ble_eq_true rfl) g
theorem pu_coder {d : Nat} {S : AS} {F : AF} {G : AG} {i : Nat} (hi : i < 6) : Pu d MJ0_coder [vR (1000000 + 2 * i)] S F G (some (vI 0)) := by
  have g : Go d MJ0_coder 0 [some (vR (1000000 + 2 * i))] [] S F G (fun r' S' F' G' => r' = some (vI 0) ∧ S' = S ∧ F' = F ∧ G' = G) := by
    refine go_getSZ (show decode cJ0_coder_7d493 0 = .ok (.getstatic 38, 3) by decide +kernel) flS_38 ?_
    refine go_ifeq (tgt := 13) (show decode cJ0_coder_7d493 3 = .ok (.ifCond .eq 10, 3) by decide +kernel) (by decide) (fun hc => absurd hc (by decide)) (fun _ => ?_)
    refine go_aload_n (show decode cJ0_coder_7d493 6 = .ok (.aload_n 0, 1) by decide +kernel) (by rfl) ?_
    refine go_getSC (show decode cJ0_coder_7d493 7 = .ok (.getfield 15, 3) by decide +kernel) flS_15 hi ?_
    refine go_goto (tgt := 14) (show decode cJ0_coder_7d493 10 = .ok (.goto 4, 3) by decide +kernel) (by decide) ?_
    exact go_nret (ty := .byte) (show decode cJ0_coder_7d493 14 = .ok (.ireturn, 1) by decide +kernel) rfl (by decide +kernel) ⟨rfl, rfl, rfl, rfl⟩
  exact ok_go rfl (by decide) (Nat.le_of_ble_eq_true rfl) g
theorem pu_isLatin1 {d : Nat} {S : AS} {F : AF} {G : AG} {i : Nat} (hi : i < 6) : Pu d MJ0_isLatin1 [vR (1000000 + 2 * i)] S F G (some (vI 1)) := by
  have g : Go d MJ0_isLatin1 0 [some (vR (1000000 + 2 * i))] [] S F G (fun r' S' F' G' => r' = some (vI 1) ∧ S' = S ∧ F' = F ∧ G' = G) := by
    refine go_getSZ (show decode cJ0_isLatin1_aae02 0 = .ok (.getstatic 38, 3) by decide +kernel) flS_38 ?_
    refine go_ifeq (tgt := 17) (show decode cJ0_isLatin1_aae02 3 = .ok (.ifCond .eq 14, 3) by decide +kernel) (by decide) (fun hc => absurd hc (by decide)) (fun _ => ?_)
    refine go_aload_n (show decode cJ0_isLatin1_aae02 6 = .ok (.aload_n 0, 1) by decide +kernel) (by rfl) ?_
    refine go_getSC (show decode cJ0_isLatin1_aae02 7 = .ok (.getfield 15, 3) by decide +kernel) flS_15 hi ?_
    refine go_ifne (tgt := 17) (show decode cJ0_isLatin1_aae02 10 = .ok (.ifCond .ne 7, 3) by decide +kernel) (by decide) (fun hc => absurd rfl hc) (fun _ => ?_)
    refine go_iconst (show decode cJ0_isLatin1_aae02 13 = .ok (.iconst 1, 1) by decide +kernel) (by decide) ?_
    refine go_goto (tgt := 18) (show decode cJ0_isLatin1_aae02 14 = .ok (.goto 4, 3) by decide +kernel) (by decide) ?_
    exact go_zret (show decode cJ0_isLatin1_aae02 18 = .ok (.ireturn, 1) by decide +kernel) rfl (Or.inr rfl) ⟨rfl, rfl, rfl, rfl⟩
  exact ok_go rfl (by decide) (Nat.le_of_ble_eq_true rfl) g
theorem len_0 : ∀ i : Nat, i < 6 → bShr ((lenS.getD i 0 : Nat) : Int) 0 = (lenS.getD i 0 : Nat) := by decide +kernel
theorem pu_slen {d : Nat} {S : AS} {F : AF} {G : AG} (hd : 1 ≤ d) {i : Nat} (hi : i < 6) : Pu d MJ0_length [vR (1000000 + 2 * i)] S F G (some (vI (lenS.getD i 0 : Nat))) := by
  have g : Go d MJ0_length 0 [some (vR (1000000 + 2 * i))] [] S F G (fun r' S' F' G' => r' = some (vI (lenS.getD i 0 : Nat)) ∧ S' = S ∧ F' = F ∧ G' = G) := by
    refine go_aload_n (show decode cJ0_length_8abf5 0 = .ok (.aload_n 0, 1) by decide +kernel) (by rfl) ?_
    refine go_getSV (show decode cJ0_length_8abf5 1 = .ok (.getfield 9, 3) by decide +kernel) flS_9 hi ?_
    refine go_alenS (show decode cJ0_length_8abf5 4 = .ok (.arraylength, 1) by decide +kernel) hi ?_
    refine go_aload_n (show decode cJ0_length_8abf5 5 = .ok (.aload_n 0, 1) by decide +kernel) (by rfl) ?_
    refine go_callVS (d2 := d - 1) (M2 := MJ0_coder) (n := 0) (av := []) (st := [vI (lenS.getD i 0 : Nat)]) (show decode cJ0_length_8abf5 6 = .ok (.invokevirtual 335, 3) by decide +kernel) mlS_J0_335 mt_J0_coder min_J0_coder mse_J0_coder hi rfl (Nat.le_of_ble_eq_true rfl) (by omega) (ok_mono (pu_coder hi) (fun w S1 F1 G1 e => ?_))
    obtain ⟨e1, e2, e3, e4⟩ := e
    subst e1 e2 e3 e4
    refine go_ishr (show decode cJ0_length_8abf5 9 = .ok (.ishr, 1) by decide +kernel) ?_
    rw [len_0 i hi]
    exact go_iret (show decode cJ0_length_8abf5 10 = .ok (.ireturn, 1) by decide +kernel) rfl ⟨rfl, rfl, rfl, rfl⟩
  exact ok_go rfl (by decide) (Nat.le_of_ble_eq_true rfl) g
theorem ch_all : ∀ i : Nat, i < 6 → ∀ j : Nat, j < 29 → bAnd (chS i j) 255 = chS i j ∧ iC (chS i j) = chS i j ∧ narrow .char (.int (Int32.ofInt (chS i j))) = .int (Int32.ofInt (chS i j)) := by decide +kernel
theorem len_29 : ∀ i : Nat, i < 6 → lenS.getD i 0 ≤ 29 := by decide
theorem pu_J1 {d : Nat} {S : AS} {F : AF} {G : AG} (hd : 2 ≤ d) {i : Nat} (hi : i < 6) {j : Int} (j0 : 0 ≤ j) (j1 : j < (lenS.getD i 0 : Nat)) : Pu d MJ1_charAt [vR (1000001 + 2 * i), vI j] S F G (some (vI (chS i j))) := by
  have l29 := len_29 i hi
  obtain ⟨c1, c2, c3⟩ := ch_all i hi j.toNat (by omega)
  have ej : ((j.toNat : Nat) : Int) = j := by omega
  rw [ej] at c1 c2 c3
  have g : Go d MJ1_charAt 0 [some (vR (1000001 + 2 * i)), some (vI j)] [] S F G (fun r' S' F' G' => r' = some (vI (chS i j)) ∧ S' = S ∧ F' = F ∧ G' = G) := by
    refine go_iload_n (show decode cJ1_charAt_3b067 0 = .ok (.iload_n 1, 1) by decide +kernel) (by rfl) ?_
    refine go_aload_n (show decode cJ1_charAt_3b067 1 = .ok (.aload_n 0, 1) by decide +kernel) (by rfl) ?_
    refine go_alenS (show decode cJ1_charAt_3b067 2 = .ok (.arraylength, 1) by decide +kernel) hi ?_
    refine go_callS (d2 := d - 1) (M2 := MJ0_checkIndex) (n := 2) (av := [vI j, vI (lenS.getD i 0 : Nat)]) (st := []) (show decode cJ1_charAt_3b067 3 = .ok (.invokestatic 9, 3) by decide +kernel) mlS_J1_9 mt_J0_checkIndex mst_J0_checkIndex rfl (Nat.le_of_ble_eq_true rfl) (by omega) (ok_mono (pu_J0_check (by omega) j0 j1) (fun w S1 F1 G1 e => ?_))
    obtain ⟨e1, e2, e3, e4⟩ := e
    subst e1 e2 e3 e4
    refine go_aload_n (show decode cJ1_charAt_3b067 6 = .ok (.aload_n 0, 1) by decide +kernel) (by rfl) ?_
    refine go_iload_n (show decode cJ1_charAt_3b067 7 = .ok (.iload_n 1, 1) by decide +kernel) (by rfl) ?_
    refine go_baldS (show decode cJ1_charAt_3b067 8 = .ok (.baload, 1) by decide +kernel) hi j0 j1 ?_
    refine go_sipush (show decode cJ1_charAt_3b067 9 = .ok (.sipush 255, 3) by decide +kernel) (by decide) ?_
    refine go_iand (show decode cJ1_charAt_3b067 12 = .ok (.iand, 1) by decide +kernel) ?_
    rw [c1]
    refine go_i2c (show decode cJ1_charAt_3b067 13 = .ok (.i2c, 1) by decide +kernel) ?_
    rw [c2]
    exact go_nret (ty := .char) (show decode cJ1_charAt_3b067 14 = .ok (.ireturn, 1) by decide +kernel) rfl c3 ⟨rfl, rfl, rfl, rfl⟩
  exact ok_go rfl (by decide) (Nat.le_of_ble_eq_true rfl) g
theorem pu_char {d : Nat} {S : AS} {F : AF} {G : AG} (hd : 3 ≤ d) {i : Nat} (hi : i < 6) {j : Int} (j0 : 0 ≤ j) (j1 : j < (lenS.getD i 0 : Nat)) : Pu d MJ0_charAt [vR (1000000 + 2 * i), vI j] S F G (some (vI (chS i j))) := by
  have l29 := len_29 i hi
  obtain ⟨c1, c2, c3⟩ := ch_all i hi j.toNat (by omega)
  have ej : ((j.toNat : Nat) : Int) = j := by omega
  rw [ej] at c1 c2 c3
  have g : Go d MJ0_charAt 0 [some (vR (1000000 + 2 * i)), some (vI j)] [] S F G (fun r' S' F' G' => r' = some (vI (chS i j)) ∧ S' = S ∧ F' = F ∧ G' = G) := by
    refine go_aload_n (show decode cJ0_charAt_5068e 0 = .ok (.aload_n 0, 1) by decide +kernel) (by rfl) ?_
    refine go_callVS (d2 := d - 1) (M2 := MJ0_isLatin1) (n := 0) (av := []) (st := []) (show decode cJ0_charAt_5068e 1 = .ok (.invokevirtual 492, 3) by decide +kernel) mlS_J0_492 mt_J0_isLatin1 min_J0_isLatin1 mse_J0_isLatin1 hi rfl (Nat.le_of_ble_eq_true rfl) (by omega) (ok_mono (pu_isLatin1 hi) (fun w S1 F1 G1 e => ?_))
    obtain ⟨e1, e2, e3, e4⟩ := e
    subst e1 e2 e3 e4
    refine go_ifeq (x := 1) (tgt := 16) (show decode cJ0_charAt_5068e 4 = .ok (.ifCond .eq 12, 3) by decide +kernel) (by decide) (fun hc => absurd hc (by decide)) (fun _ => ?_)
    refine go_aload_n (show decode cJ0_charAt_5068e 7 = .ok (.aload_n 0, 1) by decide +kernel) (by rfl) ?_
    refine go_getSV (show decode cJ0_charAt_5068e 8 = .ok (.getfield 9, 3) by decide +kernel) flS_9 hi ?_
    refine go_iload_n (show decode cJ0_charAt_5068e 11 = .ok (.iload_n 1, 1) by decide +kernel) (by rfl) ?_
    refine go_callS (d2 := d - 1) (M2 := MJ1_charAt) (n := 2) (av := [vR (1000001 + 2 * i), vI j]) (st := []) (show decode cJ0_charAt_5068e 12 = .ok (.invokestatic 495, 3) by decide +kernel) mlS_J0_495 mt_J1_charAt mst_J1_charAt rfl (Nat.le_of_ble_eq_true rfl) (by omega) (ok_mono (pu_J1 (by omega) hi j0 j1) (fun w S1 F1 G1 e => ?_))
    obtain ⟨e1, e2, e3, e4⟩ := e
    subst e1 e2 e3 e4
    exact go_nret (ty := .char) (show decode cJ0_charAt_5068e 15 = .ok (.ireturn, 1) by decide +kernel) rfl c3 ⟨rfl, rfl, rfl, rfl⟩
  exact ok_go rfl (by decide) (Nat.le_of_ble_eq_true rfl) g
end
