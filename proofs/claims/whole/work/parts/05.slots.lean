/-! SLOTS -/
def zPr (ad : Nat → Nat) (L : AL) : List (Nat × Value) := (List.range L.length).filterMap (fun i => match L[i]? with
  | some (some v) => some (i, vt ad v)
  | _ => none)
theorem zPr_mem {ad : Nat → Nat} {L : AL} {i : Nat} {v : AV} (h : L[i]? = some (some v)) : (i, vt ad v) ∈ zPr ad L := by
  have hi : i < L.length := (List.getElem?_eq_some_iff.mp h).1
  exact List.mem_filterMap.mpr ⟨i, List.mem_range.mpr hi, by rw [h]⟩
theorem zPr_of {ad : Nat → Nat} {L : AL} {q : Nat × Value} (h : q ∈ zPr ad L) : ∃ v, L[q.1]? = some (some v) ∧ q.2 = vt ad v := by
  obtain ⟨i, -, hi⟩ := List.mem_filterMap.mp h
  split at hi
  · rename_i v hv
    cases hi
    exact ⟨v, hv, rfl⟩
  · cases hi
theorem zLS_has {ad : Nat → Nat} {ls : Array Slot} {nL : Nat} {L : AL} (h : zLS ad ls nL L) : lv_has ls nL (zPr ad L) :=
  ⟨h.1, h.2.1, fun q hq => by
    obtain ⟨v, h1, h2⟩ := zPr_of hq
    rw [h2]
    exact h.2.2 _ _ h1⟩
theorem vt_cat {ad : Nat → Nat} {v : AV} (h : isJ (some v) = false) : (vt ad v).category ≠ 2 := by
  match v, h with
  | .inl z, _ => simp [vt, Value.category]
  | .inr (.inr r), _ =>
    simp only [vt, rf]
    split <;> simp [va_rf, Value.category]
theorem stL_at {L : AL} {i : Nat} {v : AV} {j : Nat} {u : AV} (h : (stL L i v)[j]? = some (some u)) : (j = i ∧ u = v) ∨ (j ≠ i ∧ L[j]? = some (some u) ∧ (j + 1 = i → isJ (some u) = false)) := by
  simp only [stL] at h
  by_cases hj : j = i
  · left
    subst hj
    rw [List.getElem?_set] at h
    simp only [if_true] at h
    split at h
    · cases h
      exact ⟨rfl, rfl⟩
    · cases h
  · right
    refine ⟨hj, ?_⟩
    rw [List.getElem?_set_ne (fun e => hj e.symm)] at h
    cases hb : (Nat.blt 0 i && isJ (L.getD (i - 1) none)) with
    | true =>
      rw [hb, cond_true] at h
      by_cases hj2 : j = i - 1
      · subst hj2
        rw [List.getElem?_set] at h
        simp only [if_true] at h
        split at h <;> cases h
      · rw [List.getElem?_set_ne (fun e => hj2 e.symm)] at h
        exact ⟨h, fun e => absurd (by omega) hj2⟩
    | false =>
      rw [hb, cond_false] at h
      refine ⟨h, fun e => ?_⟩
      have h0 : Nat.blt 0 i = true := by
        have : 0 < i := by omega
        exact Nat.ble_eq_true_of_le this
      rw [h0, Bool.true_and] at hb
      have e2 : i - 1 = j := by omega
      rw [e2, List.getD_eq_getElem?_getD, h] at hb
      exact hb
theorem stJ_at {L : AL} {i : Nat} {v : AV} {j : Nat} {u : AV} (h : (stJ L i v)[j]? = some (some u)) : (j = i ∧ u = v) ∨ (j ≠ i ∧ j ≠ i + 1 ∧ L[j]? = some (some u) ∧ (j + 1 = i → isJ (some u) = false)) := by
  simp only [stJ] at h
  by_cases hj : j = i + 1
  · subst hj
    rw [List.getElem?_set] at h
    simp only [if_true] at h
    split at h <;> cases h
  · rw [List.getElem?_set_ne (fun e => hj e.symm)] at h
    rcases stL_at h with q | ⟨q1, q2, q3⟩
    · exact Or.inl q
    · exact Or.inr ⟨q1, hj, q2, q3⟩
theorem okL_st {n : Nat} {L : AL} {i : Nat} {v : AV} (h : okL n L) (hv : okV n v) : okL n (stL L i v) := by
  intro j u hu
  rcases stL_at hu with ⟨-, rfl⟩ | ⟨-, q, -⟩
  · exact hv
  · exact h j u q
theorem okL_stJ {n : Nat} {L : AL} {i : Nat} {v : AV} (h : okL n L) (hv : okV n v) : okL n (stJ L i v) := by
  intro j u hu
  rcases stJ_at hu with ⟨-, rfl⟩ | ⟨-, -, q, -⟩
  · exact hv
  · exact h j u q
theorem zLS_st {ad : Nat → Nat} {ls' : Array Slot} {nL : Nat} {L : AL} {i : Nat} {v : AV} {x : Value} (hx : x = vt ad v) (h : lv_has ls' nL ((i, x) :: (zPr ad L).filter (fun q => !(q.1 == i) && !(q.1 + 1 == i && q.2.category == 2)))) : zLS ad ls' nL (stL L i v) := by
  refine ⟨h.1, h.2.1, fun j u hu => ?_⟩
  rcases stL_at hu with ⟨rfl, rfl⟩ | ⟨q1, q2, q3⟩
  · have := h.2.2 _ List.mem_cons_self
    rw [hx] at this
    exact this
  · refine h.2.2 (j, vt ad u) (List.mem_cons_of_mem _ (List.mem_filter.mpr ⟨zPr_mem q2, ?_⟩))
    simp only [Bool.and_eq_true, Bool.not_eq_true', beq_eq_false_iff_ne, ne_eq]
    refine ⟨q1, ?_⟩
    by_cases e : j + 1 = i
    · have := vt_cat (ad := ad) (q3 e)
      simp [this]
    · simp [e]
theorem zLS_stJ {ad : Nat → Nat} {ls' : Array Slot} {nL : Nat} {L : AL} {i : Nat} {v : AV} {x : Value} (hx : x = vt ad v) (h : lv_has ls' nL ((i, x) :: (zPr ad L).filter (fun q => !(q.1 == i) && (!(q.1 == i + 1) && !(q.1 + 1 == i && q.2.category == 2))))) : zLS ad ls' nL (stJ L i v) := by
  refine ⟨h.1, h.2.1, fun j u hu => ?_⟩
  rcases stJ_at hu with ⟨rfl, rfl⟩ | ⟨q1, q0, q2, q3⟩
  · have := h.2.2 _ List.mem_cons_self
    rw [hx] at this
    exact this
  · refine h.2.2 (j, vt ad u) (List.mem_cons_of_mem _ (List.mem_filter.mpr ⟨zPr_mem q2, ?_⟩))
    simp only [Bool.and_eq_true, Bool.not_eq_true', beq_eq_false_iff_ne, ne_eq]
    refine ⟨q1, q0, ?_⟩
    by_cases e : j + 1 = i
    · have := vt_cat (ad := ad) (q3 e)
      simp [this]
    · simp [e]

theorem go_istore {d : Nat} {M : AM} {pc : Nat} {L : AL} {st : List AV} {S : AS} {F : AF} {G : AG} {Q : AQ} {i : Nat} {x : Int} (hd : decode M.2.1 pc = .ok (.istore i, 2)) (hi : i < M.2.2.1) (k : Go d M (pc + 2) (stL L i (vI x)) st S F G Q) : Go d M pc L (vI x :: st) S F G Q := by
  refine go_stepL k (fun h0 h1 h2 => ⟨okS_t h1, okL_st h2 (okS_h h1), ?_⟩)
  intro p l e R s m args below meth c H locs cells slots Qs ad ls hE hl kk
  exact lv_istore hE.1 hE.2.1 hd (zLS_has hl) hi rfl (fun ls' h9 => kk ls' (zLS_st rfl h9))
theorem go_istore_n {d : Nat} {M : AM} {pc : Nat} {L : AL} {st : List AV} {S : AS} {F : AF} {G : AG} {Q : AQ} {i : Fin 4} {x : Int} (hd : decode M.2.1 pc = .ok (.istore_n i, 1)) (hi : (i : Nat) < M.2.2.1) (k : Go d M (pc + 1) (stL L i (vI x)) st S F G Q) : Go d M pc L (vI x :: st) S F G Q := by
  refine go_stepL k (fun h0 h1 h2 => ⟨okS_t h1, okL_st h2 (okS_h h1), ?_⟩)
  intro p l e R s m args below meth c H locs cells slots Qs ad ls hE hl kk
  exact lv_istore_n hE.1 hE.2.1 hd rfl (zLS_has hl) hi rfl (fun ls' h9 => kk ls' (zLS_st rfl h9))
theorem go_lstore {d : Nat} {M : AM} {pc : Nat} {L : AL} {st : List AV} {S : AS} {F : AF} {G : AG} {Q : AQ} {i : Nat} {x : Int} (hd : decode M.2.1 pc = .ok (.lstore i, 2)) (hi : i + 1 < M.2.2.1) (k : Go d M (pc + 2) (stJ L i (vJ x)) st S F G Q) : Go d M pc L (vJ x :: st) S F G Q := by
  refine go_stepL k (fun h0 h1 h2 => ⟨okS_t h1, okL_stJ h2 (okS_h h1), ?_⟩)
  intro p l e R s m args below meth c H locs cells slots Qs ad ls hE hl kk
  exact lv_lstore hE.1 hE.2.1 hd (zLS_has hl) hi rfl (fun ls' h9 => kk ls' (zLS_stJ rfl h9))
theorem go_lstore_n {d : Nat} {M : AM} {pc : Nat} {L : AL} {st : List AV} {S : AS} {F : AF} {G : AG} {Q : AQ} {i : Fin 4} {x : Int} (hd : decode M.2.1 pc = .ok (.lstore_n i, 1)) (hi : (i : Nat) + 1 < M.2.2.1) (k : Go d M (pc + 1) (stJ L i (vJ x)) st S F G Q) : Go d M pc L (vJ x :: st) S F G Q := by
  refine go_stepL k (fun h0 h1 h2 => ⟨okS_t h1, okL_stJ h2 (okS_h h1), ?_⟩)
  intro p l e R s m args below meth c H locs cells slots Qs ad ls hE hl kk
  exact lv_lstore_n hE.1 hE.2.1 hd rfl (zLS_has hl) hi rfl (fun ls' h9 => kk ls' (zLS_stJ rfl h9))
theorem go_astore {d : Nat} {M : AM} {pc : Nat} {L : AL} {st : List AV} {S : AS} {F : AF} {G : AG} {Q : AQ} {i : Nat} {x : Nat} (hd : decode M.2.1 pc = .ok (.astore i, 2)) (hi : i < M.2.2.1) (k : Go d M (pc + 2) (stL L i (vR x)) st S F G Q) : Go d M pc L (vR x :: st) S F G Q := by
  refine go_stepL k (fun h0 h1 h2 => ⟨okS_t h1, okL_st h2 (okS_h h1), ?_⟩)
  intro p l e R s m args below meth c H locs cells slots Qs ad ls hE hl kk
  by_cases hc : x = 0
  · simp only [List.map_cons, vt, rf, if_pos hc]
    exact lv_astoreN hE.1 hE.2.1 hd (zLS_has hl) hi rfl (fun ls' h9 => kk ls' (zLS_st (by simp only [vt, rf, if_pos hc, va_rf]) h9))
  · simp only [List.map_cons, vt, rf, if_neg hc]
    exact lv_astore hE.1 hE.2.1 hd (zLS_has hl) hi rfl (fun ls' h9 => kk ls' (zLS_st (by simp only [vt, rf, if_neg hc, va_rf]) h9))
theorem go_astore_n {d : Nat} {M : AM} {pc : Nat} {L : AL} {st : List AV} {S : AS} {F : AF} {G : AG} {Q : AQ} {i : Fin 4} {x : Nat} (hd : decode M.2.1 pc = .ok (.astore_n i, 1)) (hi : (i : Nat) < M.2.2.1) (k : Go d M (pc + 1) (stL L i (vR x)) st S F G Q) : Go d M pc L (vR x :: st) S F G Q := by
  refine go_stepL k (fun h0 h1 h2 => ⟨okS_t h1, okL_st h2 (okS_h h1), ?_⟩)
  intro p l e R s m args below meth c H locs cells slots Qs ad ls hE hl kk
  by_cases hc : x = 0
  · simp only [List.map_cons, vt, rf, if_pos hc]
    exact lv_astore_nN hE.1 hE.2.1 hd rfl (zLS_has hl) hi rfl (fun ls' h9 => kk ls' (zLS_st (by simp only [vt, rf, if_pos hc, va_rf]) h9))
  · simp only [List.map_cons, vt, rf, if_neg hc]
    exact lv_astore_n hE.1 hE.2.1 hd rfl (zLS_has hl) hi rfl (fun ls' h9 => kk ls' (zLS_st (by simp only [vt, rf, if_neg hc, va_rf]) h9))
theorem go_iinc {d : Nat} {M : AM} {pc : Nat} {L : AL} {st : List AV} {S : AS} {F : AF} {G : AG} {Q : AQ} {i : Nat} {n x : Int} (hd : decode M.2.1 pc = .ok (.iinc i n, 3)) (hi : L[i]? = some (some (vI x))) (hr : r32 (x + n)) (hn : i < M.2.2.1) (k : Go d M (pc + 3) (stL L i (vI (x + n))) st S F G Q) : Go d M pc L st S F G Q := by
  refine go_stepL k (fun h0 h1 h2 => ⟨h1, okL_st h2 hr, ?_⟩)
  intro p l e R s m args below meth c H locs cells slots Qs ad ls hE hl kk
  obtain ⟨q, hq⟩ := List.getElem?_of_mem (zPr_mem (ad := ad) hi)
  exact lv_iinc hE.1 hE.2.1 hd (zLS_has hl) hq (Int32.ofInt_add _ _).symm hn rfl (fun ls' h9 => kk ls' (zLS_st rfl h9))
