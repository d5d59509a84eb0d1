/-! NEW CELLS, REFERENCES, COPIES -/
def na (S : AS) (K N sz : Nat) : AS := ((sn S + 1, ss S + sz, sL S), ((fun c => if c = sn S + 1 then K else sK S c), (fun c => if c = sn S + 1 then N else sN S c)), ((fun c k => if c = sn S + 1 then 0 else sR S c k), sx S))
def nF (S : AS) (F : AF) : AF := fun c k => if c = sn S + 1 then 0 else F c k
def nG (S : AS) (G : AG) : AG := fun c j => if c = sn S + 1 then 0 else G c j
theorem okF_0 (t : Nat) : okF t 0 := by
  match t with
  | 0 => exact ⟨by decide, by decide⟩
  | 1 => exact ⟨by decide, by decide⟩
  | 2 => trivial
  | 3 => exact Or.inl rfl
  | t + 4 => exact ⟨by decide, by decide⟩
theorem okA_0 (K : Nat) : okA K 0 := by
  simp only [okA]
  split
  · exact ⟨by decide, by decide⟩
  · split
    · exact ⟨by decide, by decide⟩
    · split
      · first | exact Or.inl rfl | exact Or.inl trivial
      · exact ⟨by decide, by decide⟩
theorem rg_na {S : AS} {F : AF} {G : AG} (h : RG S F G) {K N sz : Nat} (hK : K < 11 ∨ (20 ≤ K ∧ K ≤ 25)) (hN : N < 2147483648) (hn : sn S < 999998) : RG (na S K N sz) (nF S F) (nG S G) := by
  obtain ⟨g1, g2, g3, g4, g5, g6⟩ := h
  refine ⟨fun c hc => ?_, fun c h1 h2 => ?_, fun c k => ?_, g4, g5, ?_⟩
  · show (if c = sn S + 1 then K else sK S c) = 99
    have hc' : c = 0 ∨ sn S + 1 < c := hc
    rw [if_neg (by omega)]
    exact g1 c (by omega)
  · have h2' : c ≤ sn S + 1 := h2
    show ((if c = sn S + 1 then K else sK S c) < 11 ∨ (20 ≤ (if c = sn S + 1 then K else sK S c) ∧ (if c = sn S + 1 then K else sK S c) ≤ 25)) ∧ ((if c = sn S + 1 then K else sK S c) < 11 → ∀ k, okF (fk (if c = sn S + 1 then K else sK S c) k) (if c = sn S + 1 then 0 else F c k)) ∧ (20 ≤ (if c = sn S + 1 then K else sK S c) → ∀ j, okA (if c = sn S + 1 then K else sK S c) (if c = sn S + 1 then 0 else G c j)) ∧ (if c = sn S + 1 then N else sN S c) < 2147483648
    by_cases e : c = sn S + 1
    · simp only [if_pos e]
      exact ⟨hK, fun _ k => okF_0 _, fun _ j => okA_0 _, hN⟩
    · simp only [if_neg e]
      exact g2 c h1 (by omega)
  · show (if c = sn S + 1 then 0 else sR S c k) ≤ sn S + 1
    split
    · omega
    · have := g3 c k
      omega
  · show sn S + 1 < 999999
    omega
theorem zOk_na {S : AS} {F : AF} {G : AG} (h : RG S F G) {K N sz : Nat} (hK : K < 11 ∨ (20 ≤ K ∧ K ≤ 25)) (hN : N < 2147483648) (hn : sn S < 999998) : zOk S none (na S K N sz) (nF S F) (nG S G) :=
  ⟨Nat.le_succ _, Nat.le_add_right _ _, rfl, rfl, rg_na h hK hN hn, fun v hv => by cases hv⟩
theorem wl_na {ad : Nat → Nat} {ca : Nat → ClassId} {S : AS} {F : AF} {G : AG} (h : RG S F G) {K N sz q : Nat} {cA : ClassId} : wl (fun k => if k = sn S + 1 then q else ad k) (fun k => if k = sn S + 1 then cA else ca k) (na S K N sz) (nF S F) (nG S G) = wl ad ca S F G ++ [(q, ce (fun k => if k = sn S + 1 then q else ad k) (fun k => if k = sn S + 1 then cA else ca k) (na S K N sz) (nF S F) (nG S G) (sn S + 1))] := by
  show (List.range (sn S + 1)).map _ = _
  rw [List.range_succ, List.map_append]
  congr 1
  · apply List.map_congr_left
    intro i hi
    have hi' : i < sn S := List.mem_range.mp hi
    have e : ¬ i + 1 = sn S + 1 := by omega
    have eK : sK (na S K N sz) (i + 1) = sK S (i + 1) := if_neg e
    have eN : sN (na S K N sz) (i + 1) = sN S (i + 1) := if_neg e
    have eR : ∀ k, sR (na S K N sz) (i + 1) k = sR S (i + 1) k := fun k => if_neg e
    have eF : ∀ k, nF S F (i + 1) k = F (i + 1) k := fun k => if_neg e
    have eG : ∀ j, nG S G (i + 1) j = G (i + 1) j := fun j => if_neg e
    have er : ∀ k, rf (fun k => if k = sn S + 1 then q else ad k) (sR S (i + 1) k) = rf ad (sR S (i + 1) k) := fun k => by
      have := h.2.2.1 (i + 1) k
      have e9 : ¬ sR S (i + 1) k = sn S + 1 := by omega
      simp only [rf, if_neg e9]
    have ef : ∀ k t z, fv (fun k => if k = sn S + 1 then q else ad k) t z (sR S (i + 1) k) = fv ad t z (sR S (i + 1) k) := fun k t z => by
      match t with
      | 0 => rfl
      | 1 => rfl
      | 2 => simp only [fv, er]
      | t + 3 => rfl
    simp only [ce, eK, eN, eR, eF, eG, er, ef, if_neg e]
  · simp
theorem fv_00 (a b : Nat → Nat) (t : Nat) : fv a t 0 0 = fv b t 0 0 := by
  match t with
  | 0 => rfl
  | 1 => rfl
  | 2 => rfl
  | t + 3 => rfl
def okT (t : FieldType) : Bool := match t with
  | .float => false
  | .double => false
  | _ => true
theorem okT_def {t : FieldType} (h : okT t = true) (a : Nat → Nat) : defaultValue t = fv a (fkOf t) 0 0 := by
  cases t <;> first | rfl | cases h
theorem cls_okT {c : Nat} (h : c < 11) : ∀ k, k < cN c → okT (cty c k) = true := by
  match c, h with
  | 0, _ => exact (by decide +kernel)
  | 1, _ => exact (by decide +kernel)
  | 2, _ => exact (by decide +kernel)
  | 3, _ => exact (by decide +kernel)
  | 4, _ => exact (by decide +kernel)
  | 5, _ => exact (by decide +kernel)
  | 6, _ => exact (by decide +kernel)
  | 7, _ => exact (by decide +kernel)
  | 8, _ => exact (by decide +kernel)
  | 9, _ => exact (by decide +kernel)
  | 10, _ => exact (by decide +kernel)
  | c + 11, h => exact absurd h (by omega)
theorem go_new {d : Nat} {M : AM} {pc : Nat} {L : AL} {st : List AV} {S : AS} {F : AF} {G : AG} {Q : AQ} {idx ci : Nat} (hd : decode M.2.1 pc = .ok (.new idx, 3)) (hc : ci < 11) (hw : Cond.classLink M.1.cls idx (cnm ci) ∈ lw_good) (hw2 : Cond.instantiable (cnm ci) (cN ci) ∈ lw_good) (hw3 : Cond.initialized (cnm ci) ∈ lw_good) (hn : sn S < 999998) (kk : Go d M (pc + 3) L (vR (sn S + 1) :: st) (na S ci 0 (cN ci)) (nF S F) (nG S G) Q) : Go d M pc L st S F G Q := by
  refine go_hp kk (fun h0 h1 h2 => ⟨zOk_na h0 (Or.inl hc) (by omega) hn, okS_c (Or.inl (Nat.le_refl _)) (okS_up (Nat.le_succ _) h1), ?_⟩)
  intro p l e R s m args below meth c H locs cells slots Qs D ad ca tys A H0 ls hE hsc hfr hlo hce hsl hm hv hA hl k9
  have e1 : sn (na S ci 0 (cN ci)) - sn S = 1 := by show sn S + 1 - sn S = 1; omega
  have e2 : ss (na S ci 0 (cN ci)) - ss S = cN ci := by show ss S + cN ci - ss S = cN ci; omega
  rw [e1] at hce
  rw [e2] at hsl
  refine va_new (ci := ci) (fs := (List.range (cN ci)).map (fun k => fv ad (fk ci k) 0 0)) (C := cnm ci) (T := cT ci) (N := cN ci) hE.1 hE.2.1 hE.2.2.2.2.1 (cls_w hc) (cty ci) (cls_ty hc) hE.2.2.2.1 (hE.2.2.2.2.1 _ hw) (hE.2.2.2.2.1 _ hw2) (hE.2.2.2.2.1 _ hw3) hm.1 hm.2.1 hm.2.2.1 hv hA (cls_at hc) (fun j hj => ?_) hce hsl hd (fun q H1 p1 p2 p3 => ?_)
  · rw [okT_def (cls_okT hc j hj) ad]
    simp [vp_V, hj, fk]
  · have hce9 : ce (fun k => if k = sn S + 1 then q else ad k) (fun k => if k = sn S + 1 then ca (sn S + 1) else ca k) (na S ci 0 (cN ci)) (nF S F) (nG S G) (sn S + 1) = .inr (ci, (List.range (cN ci)).map (fun k => fv ad (fk ci k) 0 0)) := by
      have hk : sK (na S ci 0 (cN ci)) (sn S + 1) = ci := if_pos rfl
      rw [ce_obj hk hc]
      congr 2
      apply List.map_congr_left
      intro k _
      have eF : nF S F (sn S + 1) k = 0 := if_pos rfl
      have eR : sR (na S ci 0 (cN ci)) (sn S + 1) k = 0 := if_pos rfl
      rw [eF, eR]
      exact fv_00 _ _ _
    have hw9 := wl_na (ad := ad) (ca := ca) (K := ci) (N := 0) (sz := cN ci) (q := q) (cA := ca (sn S + 1)) h0
    rw [hce9] at hw9
    rw [← hw9] at p1 p2
    have := k9 H1 locs (fun k => if k = sn S + 1 then q else ad k) (fun k => if k = sn S + 1 then ca (sn S + 1) else ca k) tys ⟨hm.1, p1, p2, fun c h1c h2c h3c => ?_⟩ (fun k hk => if_neg (by have hk' : k ≤ sn S ∨ sn S + 1 < k := hk; omega)) p3
    · rw [e1, e2] at this
      have ev : ((vR (sn S + 1) :: st).map (vt (fun k => if k = sn S + 1 then q else ad k))) = .ref q :: st.map (vt ad) := by
        simp only [List.map_cons]
        rw [vt_ref (by omega), if_pos rfl]
        congr 1
        exact ex_st (n := sn S) (n1 := sn S + 1) (fun k hk => if_neg (by omega)) (by omega) h1
      rw [ev] at this
      exact this
    · have h2c' : c ≤ sn S + 1 := h2c
      have h3c' : 20 ≤ (if c = sn S + 1 then ci else sK S c) := h3c
      show ∃ t0 : Nat, tys[t0]? = some ((if c = sn S + 1 then ca (sn S + 1) else ca c), aty (if c = sn S + 1 then ci else sK S c))
      by_cases e : c = sn S + 1
      · rw [if_pos e] at h3c'
        omega
      · rw [if_neg e] at h3c'
        rw [if_neg e, if_neg e]
        exact hm.2.2.2 c h1c (by omega) h3c'
/-- a new row: the world behind it -/
theorem sm_newa {D : va_G} {ad : Nat → Nat} {ca : Nat → ClassId} {tys : List (ClassId × FieldType)} {S : AS} {F : AF} {G : AG} {A : Nat → Prop} {H H1 : Heap} {s : State} {K N q : Nat} {cA : ClassId} {x : va_E} (h0 : RG S F G) (hK : 20 ≤ K ∧ K ≤ 25) (hm : Sm D ad ca tys S F G A H s) (hk : va_K D cls (tys ++ [(cA, aty K)]) s) (hx : ce (fun k => if k = sn S + 1 then q else ad k) (fun k => if k = sn S + 1 then cA else ca k) (na S K N N) (nF S F) (nG S G) (sn S + 1) = x) (p1 : va_P D cls (wl ad ca S F G ++ [(q, x)]) H1) (p2 : va_D A (wl ad ca S F G ++ [(q, x)])) : Sm D (fun k => if k = sn S + 1 then q else ad k) (fun k => if k = sn S + 1 then cA else ca k) (tys ++ [(cA, aty K)]) (na S K N N) (nF S F) (nG S G) A H1 s := by
  have hw9 := wl_na (ad := ad) (ca := ca) (K := K) (N := N) (sz := N) (q := q) (cA := cA) h0
  rw [hx] at hw9
  rw [← hw9] at p1 p2
  refine ⟨hk, p1, p2, fun c h1c h2c h3c => ?_⟩
  have h2c' : c ≤ sn S + 1 := h2c
  have h3c' : 20 ≤ (if c = sn S + 1 then K else sK S c) := h3c
  show ∃ t0 : Nat, (tys ++ [(cA, aty K)])[t0]? = some ((if c = sn S + 1 then cA else ca c), aty (if c = sn S + 1 then K else sK S c))
  by_cases e : c = sn S + 1
  · rw [if_pos e, if_pos e]
    exact ⟨tys.length, by simp⟩
  · rw [if_neg e] at h3c'
    rw [if_neg e, if_neg e]
    obtain ⟨t0, ht0⟩ := hm.2.2.2 c h1c (by omega) h3c'
    exact ⟨t0, by rw [List.getElem?_append_left (List.getElem?_eq_some_iff.mp ht0).1]; exact ht0⟩
theorem ev_new {ad : Nat → Nat} {S : AS} {st : List AV} {q : Nat} (hn : sn S < 999998) (h1 : okS (sn S) st) : ((vR (sn S + 1) :: st).map (vt (fun k => if k = sn S + 1 then q else ad k))) = .ref q :: st.map (vt ad) := by
  simp only [List.map_cons]
  rw [vt_ref (by omega), if_pos rfl]
  congr 1
  exact ex_st (n := sn S) (n1 := sn S + 1) (fun k hk => if_neg (by omega)) (by omega) h1
theorem go_newa {d : Nat} {M : AM} {pc : Nat} {L : AL} {st : List AV} {S : AS} {F : AF} {G : AG} {Q : AQ} {at9 : ArrayType} {K : Nat} {n : Int} (hd : decode M.2.1 pc = .ok (.newarray at9, 2)) (hat : newarray.typeOf at9 = aty K) (hK : 20 ≤ K ∧ K ≤ 23) (hw : Cond.arrayClass (aty K) ∈ lw_good) (hn0 : 0 ≤ n) (hn1 : n ≤ 60000) (hn : sn S < 999998) (kk : Go d M (pc + 2) L (vR (sn S + 1) :: st) (na S K n.toNat n.toNat) (nF S F) (nG S G) Q) : Go d M pc L (vI n :: st) S F G Q := by
  refine go_hp kk (fun h0 h1 h2 => ⟨zOk_na h0 (Or.inr (by omega)) (by omega) hn, okS_c (Or.inl (Nat.le_refl _)) (okS_up (Nat.le_succ _) (okS_t h1)), ?_⟩)
  intro p l e R s m args below meth c H locs cells slots Qs D ad ca tys A H0 ls hE hsc hfr hlo hce hsl hm hv hA hl k9
  have e1 : sn (na S K n.toNat n.toNat) - sn S = 1 := by show sn S + 1 - sn S = 1; omega
  have e2 : ss (na S K n.toNat n.toNat) - ss S = n.toNat := by show ss S + n.toNat - ss S = n.toNat; omega
  rw [e1] at hce
  rw [e2] at hsl
  have hb : n.toNat * componentBytes (aty K) ≤ 536870912 := by
    have : componentBytes (aty K) ≤ 8 := by
      have : K = 20 ∨ K = 21 ∨ K = 22 ∨ K = 23 := by omega
      rcases this with rfl | rfl | rfl | rfl <;> decide
    have h9 : n.toNat ≤ 60000 := by omega
    exact Nat.le_trans (Nat.mul_le_mul h9 this) (by decide)
  have hx : ∃ a0 : vp_A, (∀ cA : ClassId, vp_cell cA a0 = arrV cA n.toNat (fun _ => defaultValue (aty K))) ∧ ∀ (q : Nat) (cA : ClassId), ce (fun k => if k = sn S + 1 then q else ad k) (fun k => if k = sn S + 1 then cA else ca k) (na S K n.toNat n.toNat) (nF S F) (nG S G) (sn S + 1) = .inl (cA, a0) := by
    have hk : sK (na S K n.toNat n.toNat) (sn S + 1) = K := if_pos rfl
    have hN : sN (na S K n.toNat n.toNat) (sn S + 1) = n.toNat := if_pos rfl
    have hG : ∀ j, nG S G (sn S + 1) j = 0 := fun j => if_pos rfl
    by_cases h21 : K = 21
    · refine ⟨(n.toNat, .inr (.inl (fun _ => Int64.ofInt 0))), fun cA => ?_, fun q cA => ?_⟩
      · subst h21
        rfl
      · rw [ce_long (by rw [hk]; exact h21), hN]
        simp only [hG, if_true]
    · refine ⟨(n.toNat, .inl (fun _ => Int32.ofInt 0)), fun cA => ?_, fun q cA => ?_⟩
      · have : K = 20 ∨ K = 22 ∨ K = 23 := by omega
        rcases this with rfl | rfl | rfl <;> rfl
      · rw [ce_int (by rw [hk]; omega), hN]
        simp only [hG, if_true]
  obtain ⟨a0, hx1, hx2⟩ := hx
  refine va_newa (atype := at9) (ty := aty K) hE.1 hE.2.1 (by rw [hat]; exact hE.2.2.2.2.1 _ hw) hat hm.1 hm.2.1 hm.2.2.1 hv hA (N' := n.toNat) (a0 := a0) hx1 (zi_neg (okS_h h1) hn0) (by rw [← Int32.toNat_toInt, zi_t (okS_h h1)]) hb hce hsl hd (fun q cA H1 hk p1 p2 p3 => ?_)
  have := k9 H1 locs _ _ _ (sm_newa h0 (by omega) hm hk (hx2 q cA) p1 p2) (fun k hk => if_neg (by have hk' : k ≤ sn S ∨ sn S + 1 < k := hk; omega)) p3
  rw [e1, e2, ev_new hn (okS_t h1)] at this
  exact this
theorem go_newq {d : Nat} {M : AM} {pc : Nat} {L : AL} {st : List AV} {S : AS} {F : AF} {G : AG} {Q : AQ} {idx K : Nat} {C : String} {n : Int} (hd : decode M.2.1 pc = .ok (.anewarray idx, 3)) (hat : aty K = .object C) (hK : K = 24 ∨ K = 25) (hw : Cond.classLink M.1.cls idx C ∈ lw_good) (hC : C = "StockGrid$Zone" ∨ C = "StockGrid$Saved") (hn0 : 0 ≤ n) (hn1 : n ≤ 60000) (hn : sn S < 999998) (kk : Go d M (pc + 3) L (vR (sn S + 1) :: st) (na S K n.toNat n.toNat) (nF S F) (nG S G) Q) : Go d M pc L (vI n :: st) S F G Q := by
  refine go_hp kk (fun h0 h1 h2 => ⟨zOk_na h0 (Or.inr (by omega)) (by omega) hn, okS_c (Or.inl (Nat.le_refl _)) (okS_up (Nat.le_succ _) (okS_t h1)), ?_⟩)
  intro p l e R s m args below meth c H locs cells slots Qs D ad ca tys A H0 ls hE hsc hfr hlo hce hsl hm hv hA hl k9
  have e1 : sn (na S K n.toNat n.toNat) - sn S = 1 := by show sn S + 1 - sn S = 1; omega
  have e2 : ss (na S K n.toNat n.toNat) - ss S = n.toNat := by show ss S + n.toNat - ss S = n.toNat; omega
  rw [e1] at hce
  rw [e2] at hsl
  have hx2 : ∀ (q : Nat) (cA : ClassId), ce (fun k => if k = sn S + 1 then q else ad k) (fun k => if k = sn S + 1 then cA else ca k) (na S K n.toNat n.toNat) (nF S F) (nG S G) (sn S + 1) = .inl (cA, n.toNat, .inr (.inr (.inr (.inr (fun _ => none))))) := by
    intro q cA
    have hk : sK (na S K n.toNat n.toNat) (sn S + 1) = K := if_pos rfl
    have hN : sN (na S K n.toNat n.toNat) (sn S + 1) = n.toNat := if_pos rfl
    have hR : ∀ j, sR (na S K n.toNat n.toNat) (sn S + 1) j = 0 := fun j => if_pos rfl
    rw [ce_row (by rw [hk]; exact hK), hN]
    simp only [hR, if_true, rf]
  have hov : va_AO C s := by
    rcases hC with rfl | rfl
    · exact hE.2.2.2.2.2.2.2.2.2.1
    · exact hE.2.2.2.2.2.2.2.2.2.2
  refine va_newq (C := C) hE.1 hE.2.1 hE.2.2.2.1 (hE.2.2.2.2.1 _ hw) hov hm.1 hm.2.1 hm.2.2.1 hv hA (N' := n.toNat) (zi_neg (okS_h h1) hn0) (by rw [← Int32.toNat_toInt, zi_t (okS_h h1)]) (by omega) hce hsl hd (fun q cA H1 hk p1 p2 p3 => ?_)
  rw [← hat] at hk
  have := k9 H1 locs _ _ _ (sm_newa h0 (by omega) hm hk (hx2 q cA) p1 p2) (fun k hk => if_neg (by have hk' : k ≤ sn S ∨ sn S + 1 < k := hk; omega)) p3
  rw [e1, e2, ev_new hn (okS_t h1)] at this
  exact this

