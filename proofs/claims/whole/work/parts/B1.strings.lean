section
/-! STEPS OVER STRINGS -/
theorem okV_s {n r : Nat} (h : 999999 ≤ r) : okV n (vR r) := Or.inr h
theorem go_ldcS {d : Nat} {M : AM} {pc : Nat} {L : AL} {st : List AV} {S : AS} {F : AF} {G : AG} {Q : AQ} {idx i : Nat} (hd : decode M.2.1 pc = .ok (.ldc idx, 2)) (hi : i < 6) (ho : ownS i = M.1.cls) (hx : idxS i = idx) (kk : Go d M (pc + 2) L (vR (1000000 + 2 * i) :: st) S F G Q) : Go d M pc L st S F G Q := by
  refine go_step kk (fun h0 h1 h2 => ⟨okS_c (okV_s (by omega)) h1, ?_⟩)
  intro p l e R s m args below meth c H locs cells slots Qs D ad ca tys A H0 ls hE hsc _ _ _ _ hm hv hl k9
  have hz := hsc.2.1 i hi
  rw [ho, hx] at hz
  refine va_ldcS hE.1 hE.2.1 hE.2.2.2.1 hz hd ?_
  simp only [List.map_cons, vt_ref (show 1 ≤ 1000000 + 2 * i by omega)] at k9
  exact k9
theorem va_ldcwS {p : Program} {l : Launch} {e : Env} {R : Room} {s : State} {m : MethodId} {args : Array Value} {below : List Frame} {meth : Method} {c : Code} {H : Heap} {locs : List Jvm.Loc} {cells slots : Nat} {Q : State → Prop} {cc : ByteArray} {pc : Nat} {ls : Array Slot} {rest : List Value} (hexec : p.tables.exec = Jvm.exec) (hb : c.code = cc) {own tx : String} {index q : Nat} (hown : s.vm.findClass own = some m.cls) (hZ : vk_R own index tx q s) (hdg : decode cc pc = .ok (.ldc_w index, 3)) (k : W p l e R s m args below meth c H locs cells slots Q (F0 m (pc + 3) ls (.ref q :: rest))) : W p l e R s m args below meth c H locs cells slots Q (F0 m pc ls rest) := by
  intro T hT X
  obtain ⟨t, a1, b1⟩ := k T hT X
  obtain ⟨k0, cf, i, a', hk, hcf, hcp, -, hr, hev'⟩ := Cond.stringRef_spec hown hZ.1
  cases hZ.2.symm.trans hev'
  obtain ⟨k', hk', he⟩ := X.warmed.alike.2.2 _ _ hk
  have hr' : k'.resolved[index]? = some (some (.string q)) := by
    rcases X.warmed.entry hk hk' index with h | ⟨h, -⟩
    · rw [h]; exact hr
    · rw [hr] at h; cases h
  have hdg' : decode c.code (F0 m pc ls rest).pc = .ok (.ldc_w index, 3) := by rw [hb]; exact hdg
  refine ⟨t, ?_, b1⟩
  jvm_step X.here [hexec, hdg', ldc_w.wp_string (e := e) (s := T) (f := F0 m pc ls rest) X.here.top hk' (by rw [he]; exact hcf) hcp hr']
  exact a1
theorem go_ldcwS {d : Nat} {M : AM} {pc : Nat} {L : AL} {st : List AV} {S : AS} {F : AF} {G : AG} {Q : AQ} {idx i : Nat} (hd : decode M.2.1 pc = .ok (.ldc_w idx, 3)) (hi : i < 6) (ho : ownS i = M.1.cls) (hx : idxS i = idx) (kk : Go d M (pc + 3) L (vR (1000000 + 2 * i) :: st) S F G Q) : Go d M pc L st S F G Q := by
  refine go_step kk (fun h0 h1 h2 => ⟨okS_c (okV_s (by omega)) h1, ?_⟩)
  intro p l e R s m args below meth c H locs cells slots Qs D ad ca tys A H0 ls hE hsc _ _ _ _ hm hv hl k9
  have hz := hsc.2.1 i hi
  rw [ho, hx] at hz
  refine va_ldcwS hE.1 hE.2.1 hE.2.2.2.1 hz hd ?_
  simp only [List.map_cons, vt_ref (show 1 ≤ 1000000 + 2 * i by omega)] at k9
  exact k9
theorem go_getSV {d : Nat} {M : AM} {pc : Nat} {L : AL} {st : List AV} {S : AS} {F : AF} {G : AG} {Q : AQ} {idx i : Nat} (hd : decode M.2.1 pc = .ok (.getfield idx, 3)) (hw : Cond.fieldLink M.1.cls idx "java/lang/String" "value" "[B" ∈ lw_good) (hi : i < 6) (kk : Go d M (pc + 3) L (vR (1000001 + 2 * i) :: st) S F G Q) : Go d M pc L (vR (1000000 + 2 * i) :: st) S F G Q := by
  refine go_step kk (fun h0 h1 h2 => ⟨okS_c (okV_s (by omega)) (okS_t h1), ?_⟩)
  intro p l e R s m args below meth c H locs cells slots Qs D ad ca tys A H0 ls hE hsc _ _ _ _ hm hv hl k9
  simp only [List.map_cons, vt_ref (show 1 ≤ 1000000 + 2 * i by omega)]
  simp only [List.map_cons, vt_ref (show 1 ≤ 1000001 + 2 * i by omega)] at k9
  obtain ⟨cf, k, fi, f, cell, h3, h4, h5, h6, h7, h8⟩ := ((hsc.2.2.1.1 i hi).2.2.1).kept hv.2.1
  exact W.getf hE.1 hE.2.1 hE.2.2.2.1 (hE.2.2.2.2.1 _ hw) h3 h4 h5 h6 (v := .ref (ad (1000001 + 2 * i))) h7 rfl rfl hd k9
theorem go_getSC {d : Nat} {M : AM} {pc : Nat} {L : AL} {st : List AV} {S : AS} {F : AF} {G : AG} {Q : AQ} {idx i : Nat} (hd : decode M.2.1 pc = .ok (.getfield idx, 3)) (hw : Cond.fieldLink M.1.cls idx "java/lang/String" "coder" "B" ∈ lw_good) (hi : i < 6) (kk : Go d M (pc + 3) L (vI 0 :: st) S F G Q) : Go d M pc L (vR (1000000 + 2 * i) :: st) S F G Q := by
  refine go_step kk (fun h0 h1 h2 => ⟨okS_c zr0 (okS_t h1), ?_⟩)
  intro p l e R s m args below meth c H locs cells slots Qs D ad ca tys A H0 ls hE hsc _ _ _ _ hm hv hl k9
  simp only [List.map_cons, vt_ref (show 1 ≤ 1000000 + 2 * i by omega)]
  obtain ⟨cf, k, fi, f, cell, h3, h4, h5, h6, h7, h8⟩ := ((hsc.2.2.1.1 i hi).2.1).kept hv.2.1
  exact W.getf hE.1 hE.2.1 hE.2.2.2.1 (hE.2.2.2.2.1 _ hw) h3 h4 h5 h6 (v := .int 0) h7 rfl rfl hd k9
theorem go_getSZ {d : Nat} {M : AM} {pc : Nat} {L : AL} {st : List AV} {S : AS} {F : AF} {G : AG} {Q : AQ} {idx : Nat} (hd : decode M.2.1 pc = .ok (.getstatic idx, 3)) (hw : Cond.fieldLink M.1.cls idx "java/lang/String" "COMPACT_STRINGS" "Z" ∈ lw_good) (kk : Go d M (pc + 3) L (vI 1 :: st) S F G Q) : Go d M pc L st S F G Q := by
  refine go_step kk (fun h0 h1 h2 => ⟨okS_c (show r32 1 by omega) h1, ?_⟩)
  intro p l e R s m args below meth c H locs cells slots Qs D ad ca tys A H0 ls hE hsc _ _ _ _ hm hv hl k9
  obtain ⟨cf, kf, fi, f, a, cell, h1, h2, h3, h4, h5, h6, h7, h8⟩ := (hsc.2.2.2.1).kept hv.2.1
  exact W.gets hE.1 hE.2.1 hE.2.2.2.1 (hE.2.2.2.2.1 _ hw) h1 h2 h3 h4 h5 (fun e => by rw [e] at h6; cases h6) h7 rfl hd k9
theorem go_alenS {d : Nat} {M : AM} {pc : Nat} {L : AL} {st : List AV} {S : AS} {F : AF} {G : AG} {Q : AQ} {i : Nat} (hd : decode M.2.1 pc = .ok (.arraylength, 1)) (hi : i < 6) (kk : Go d M (pc + 1) L (vI (lenS.getD i 0 : Nat) :: st) S F G Q) : Go d M pc L (vR (1000001 + 2 * i) :: st) S F G Q := by
  have hr : ∀ i : Nat, i < 6 → lenS.getD i 0 < 100 := by decide
  have hri := hr i hi
  refine go_step kk (fun h0 h1 h2 => ⟨okS_c (show r32 _ by omega) (okS_t h1), ?_⟩)
  intro p l e R s m args below meth c H locs cells slots Qs D ad ca tys A H0 ls hE hsc _ _ _ _ hm hv hl k9
  simp only [List.map_cons, vt_ref (show 1 ≤ 1000001 + 2 * i by omega)]
  obtain ⟨cell, h3, h4, h5, h6, h7, h8, h9⟩ := ((hsc.2.2.1.1 i hi).2.2.2).kept hv.2.1
  refine W.alen (n := Int32.ofNat (lenS.getD i 0)) hE.1 hE.2.1 h3 h4 h7 rfl rfl hd ?_
  rw [← Int32.ofInt_eq_ofNat]
  exact k9
def chS (i : Nat) (j : Int) : Int := ((bytS.getD i []).getD j.toNat 0).toInt
theorem go_baldS {d : Nat} {M : AM} {pc : Nat} {L : AL} {st : List AV} {S : AS} {F : AF} {G : AG} {Q : AQ} {i : Nat} {j : Int} (hd : decode M.2.1 pc = .ok (.baload, 1)) (hi : i < 6) (j0 : 0 ≤ j) (j1 : j < (lenS.getD i 0 : Nat)) (kk : Go d M (pc + 1) L (vI (chS i j) :: st) S F G Q) : Go d M pc L (vI j :: vR (1000001 + 2 * i) :: st) S F G Q := by
  refine go_step kk (fun h0 h1 h2 => ⟨okS_c (zi_r _) (okS_t (okS_t h1)), ?_⟩)
  intro p l e R s m args below meth c H locs cells slots Qs D ad ca tys A H0 ls hE hsc _ _ _ _ hm hv hl k9
  simp only [List.map_cons, vt_ref (show 1 ≤ 1000001 + 2 * i by omega)]
  obtain ⟨cell, h3, h4, h5, h6, h7, h8, h9⟩ := ((hsc.2.2.1.1 i hi).2.2.2).kept hv.2.1
  have hin : vp_in (Int32.ofInt j) (lenS.getD i 0) := zi_in (okS_h h1) j0 j1
  have hlt : (Int32.ofInt j).toNatClampNeg < lenS.getD i 0 := Nat.not_le.mp fun q => hin (Or.inr q)
  have hin' : ¬ (Int32.ofInt j < 0 ∨ cell.slots.size ≤ (Int32.ofInt j).toNatClampNeg) := by
    intro q
    rcases q with q | q
    · exact hin (Or.inl q)
    · omega
  have e := zi_n (okS_h h1) j0
  have e2 : (Int32.ofInt j).toNatClampNeg = j.toNat := by omega
  refine W.bald (v := .int (Int32.ofInt (chS i j))) hE.1 hE.2.1 h3 h4 h5 hin' (by rw [h8 _ hlt]; unfold chS; rw [Int32.ofInt_toInt, e2]) rfl rfl hd ?_
  exact k9
def iC (x : Int) : Int := ((Int32.ofInt x).toUInt32 % 65536).toInt32.toInt
theorem go_i2c {d : Nat} {M : AM} {pc : Nat} {L : AL} {st : List AV} {S : AS} {F : AF} {G : AG} {Q : AQ} {x : Int} (hd : decode M.2.1 pc = .ok (.i2c, 1)) (k : Go d M (pc + 1) L (vI (iC x) :: st) S F G Q) : Go d M pc L (vI x :: st) S F G Q := by
  refine go_step k (fun h0 h1 h2 => ⟨okS_c (zi_r _) (okS_t h1), ?_⟩)
  intro p l e R s m args below meth c H locs cells slots Qs D ad ca tys A H0 ls hE _ _ _ _ _ hm hv hl kk
  exact lv_i2c hE.1 hE.2.1 hd (Int32.ofInt_toInt _).symm kk
theorem go_callVS {d d2 : Nat} {M M2 : AM} {pc : Nat} {L : AL} {st av : List AV} {S : AS} {F : AF} {G : AG} {Q : AQ} {idx n i : Nat} (hd : decode M.2.1 pc = .ok (.invokevirtual idx, 3)) (hw : Cond.methodLink M.1.cls idx M2.1 ∈ lw_good) (hm2 : zMt M2 n) (hw2 : Cond.instanceMethod M2.1 ∈ lw_good) (hw3 : Cond.selects "java/lang/String" M2.1 M2.1 ∈ lw_good) (hi : i < 6) (hn : (av).length = n) (hs : cs st ≤ 8) (hd2 : d2 + 1 ≤ d) (h : Ok d2 M2 (vR (1000000 + 2 * i) :: av) S F G (fun r S1 F1 G1 => Go d M (pc + 3) L (r.toList ++ st) S1 F1 G1 Q)) : Go d M pc L (av.reverse ++ vR (1000000 + 2 * i) :: st) S F G Q := by
  refine go_rg (fun h0 h1 h2 => ?_)
  have hav : okS (sn S) (vR (1000000 + 2 * i) :: av) := fun v hv => h1 v (by simp only [List.mem_append, List.mem_reverse, List.mem_cons] at *; rcases hv with q | q; exact Or.inr (Or.inl q); exact Or.inl q)
  have hst : okS (sn S) st := fun v hv => h1 v (by simp only [List.mem_append, List.mem_reverse, List.mem_cons]; exact Or.inr (Or.inr hv))
  obtain ⟨r, S1, F1, G1, hk, hok, hmet⟩ := h h0 hav
  refine go_hp hk (fun _ _ _ => ⟨⟨hok.1, hok.2.1, hok.2.2.1, hok.2.2.2.1, hok.2.2.2.2.1, fun v hv => by cases hv⟩, ?_, ?_⟩)
  · intro v hv
    rcases List.mem_append.mp hv with q | q
    · exact hok.2.2.2.2.2 v (by cases r with | none => cases q | some w => rw [List.mem_singleton.mp q]; exact rfl)
    · exact okV_up hok.1 (hst v q)
  intro p l e R s m args below meth c H locs cells slots Qs D ad ca tys A H0 ls hE hsc hfr hlo hce hsl hm hv hA hl k9
  have hMt := hmet l D ad ca tys H.size d2 (Nat.le_refl _)
  have hc9 := lv_room (m := m) (pc := pc) (ls := ls) (rest := (av.reverse ++ vR (1000000 + 2 * i) :: st).map (vt ad)) (st := st.map (vt ad)) (by rw [cs_vt]; exact hs)
  have i1 : 1 ≤ 1000000 + 2 * i := by omega
  have hrec : ∃ cell : Cell, H[ad (1000000 + 2 * i)]? = some cell ∧ cell.vm.isStatics = false ∧ s.vm.findClass "java/lang/String" = some cell.cls := by
    obtain ⟨cell, q1, q2, q3, -⟩ := (hsc.2.2.1.1 i hi).1.kept hv.2.1
    exact ⟨cell, q1, q2, q3⟩
  have estk : ((av.reverse ++ vR (1000000 + 2 * i) :: st).map (vt ad)) = (av.map (vt ad)).reverse ++ .ref (ad (1000000 + 2 * i)) :: st.map (vt ad) := by
    rw [List.map_append, List.map_cons, List.map_reverse, vt_ref i1]
  have hpre := zPc_pre (av := (vR (1000000 + 2 * i) :: av).map (vt ad)) hE.2.2.2.2.2.2.2.2 hsc.2 hv hA hm
  rw [List.map_cons, vt_ref i1] at hpre hMt
  have hrun := va_runV (p := p) (l := l) (e := e) (R := R) (s := s) (m := m) (args := args) (below := below) (meth := meth) (c := c) (H := H) (locs := locs) (cells := cells) (slots := slots) (As := av.map (vt ad)) (rest := st.map (vt ad)) (b := ad (1000000 + 2 * i)) (C := "java/lang/String") (g := F0 m pc ls ((av.reverse ++ vR (1000000 + 2 * i) :: st).map (vt ad))) (nL := M.2.2.1) (cc := M.2.1) (Ts := lw_good) ⟨hE.1, hE.2.1, hE.2.2.1, hE.2.2.2.1, hE.2.2.2.2.1⟩ hMt ⟨zCallB hE hm2 hd2 hfr hlo hw, hE.2.2.2.2.1 _ hw2, hE.2.2.2.2.1 _ hw3⟩ ⟨zPc_blind, hrec, hpre⟩ rfl (by rw [List.length_map]; exact hn) hl.1 estk hc9 hd ⟨hce, hsl⟩
  exact zBack (S1 := S1) (F1 := F1) (G1 := G1) (r := r) rfl rfl hok.2.2.2.2.1.2.2.2.2.2 hst hm hv hA (fun _ _ _ q => q) hrun k9
end
