section
/-! THE START -/
theorem tb1 {w : Cond} (h : w ∈ tables_1_1) : w ∈ lw_tbl := List.mem_append_right _ (List.mem_append_left _ h)
theorem tb2 {w : Cond} (h : w ∈ tables_1_2) : w ∈ lw_tbl := List.mem_append_right _ (List.mem_append_right _ (List.mem_append_left _ h))
theorem tb3 {w : Cond} (h : w ∈ tables_1_3) : w ∈ lw_tbl := List.mem_append_right _ (List.mem_append_right _ (List.mem_append_right _ (List.mem_append_left _ h)))
theorem tb4 {w : Cond} (h : w ∈ tables_1_4) : w ∈ lw_tbl := List.mem_append_right _ (List.mem_append_right _ (List.mem_append_right _ (List.mem_append_right _ (List.mem_append_left _ h))))
theorem tb5 {w : Cond} (h : w ∈ tables_1_5) : w ∈ lw_tbl := List.mem_append_right _ (List.mem_append_right _ (List.mem_append_right _ (List.mem_append_right _ (List.mem_append_right _ (List.mem_append_left _ h)))))
theorem tb6 {w : Cond} (h : w ∈ tables_1_6) : w ∈ lw_tbl := List.mem_append_right _ (List.mem_append_right _ (List.mem_append_right _ (List.mem_append_right _ (List.mem_append_right _ (List.mem_append_right _ (List.mem_append_left _ h))))))
theorem tb7 {w : Cond} (h : w ∈ tables_1_7) : w ∈ lw_tbl := List.mem_append_right _ (List.mem_append_right _ (List.mem_append_right _ (List.mem_append_right _ (List.mem_append_right _ (List.mem_append_right _ (List.mem_append_right _ h))))))
def tmS (i : Nat) : Term := .string (ownS i) (idxS i)
theorem st_word {A : Array Value} {s : State} (hts : ∀ w ∈ lw_tbl, w.before A s = true) : ∀ i, i < 6 → (Cond.stringRef (ownS i) (idxS i) (txtS i)).before A s = true := by
  intro i hi
  match i, hi with
  | 0, _ => exact hts (.stringRef (ownS 0) (idxS 0) (txtS 0)) (tb3 (List.mem_of_getElem? (i := 232) (by decide +kernel)))
  | 1, _ => exact hts (.stringRef (ownS 1) (idxS 1) (txtS 1)) (tb4 (List.mem_of_getElem? (i := 45) (by decide +kernel)))
  | 2, _ => exact hts (.stringRef (ownS 2) (idxS 2) (txtS 2)) (tb4 (List.mem_of_getElem? (i := 46) (by decide +kernel)))
  | 3, _ => exact hts (.stringRef (ownS 3) (idxS 3) (txtS 3)) (tb4 (List.mem_of_getElem? (i := 47) (by decide +kernel)))
  | 4, _ => exact hts (.stringRef (ownS 4) (idxS 4) (txtS 4)) (tb4 (List.mem_of_getElem? (i := 48) (by decide +kernel)))
  | 5, _ => exact hts (.stringRef (ownS 5) (idxS 5) (txtS 5)) (tb6 (List.mem_of_getElem? (i := 204) (by decide +kernel)))
  | n + 6, hi => exact absurd hi (by omega)
theorem nw_word {A : Array Value} {s : State} (hts : ∀ w ∈ lw_tbl, w.before A s = true) : zNw s := by
  refine ⟨fun q hq => ?_, va_AO.of (hts (.arrayOver (.object "StockGrid$Zone")) (tb1 (List.mem_of_getElem? (i := 124) (by decide +kernel)))), va_AO.of (hts (.arrayOver (.object "StockGrid$Saved")) (tb1 (List.mem_of_getElem? (i := 126) (by decide +kernel))))⟩
  simp only [nestL, List.mem_cons, List.not_mem_nil, or_false] at hq
  rcases hq with rfl | rfl | rfl | rfl | rfl | rfl | rfl | rfl | rfl | rfl | rfl
  · exact va_Nw.of rfl (hts _ (tb1 (List.mem_of_getElem? (i := 29) (by decide +kernel))))
  · exact va_Nw.of rfl (hts _ (tb1 (List.mem_of_getElem? (i := 41) (by decide +kernel))))
  · exact va_Nw.of rfl (hts _ (tb1 (List.mem_of_getElem? (i := 47) (by decide +kernel))))
  · exact va_Nw.of rfl (hts _ (tb1 (List.mem_of_getElem? (i := 96) (by decide +kernel))))
  · exact va_Nw.of rfl (hts _ (tb1 (List.mem_of_getElem? (i := 128) (by decide +kernel))))
  · exact va_Nw.of rfl (hts _ (tb1 (List.mem_of_getElem? (i := 133) (by decide +kernel))))
  · exact va_Nw.of rfl (hts _ (tb1 (List.mem_of_getElem? (i := 185) (by decide +kernel))))
  · exact va_Nw.of rfl (hts _ (tb2 (List.mem_of_getElem? (i := 7) (by decide +kernel))))
  · exact va_Nw.of rfl (hts _ (tb2 (List.mem_of_getElem? (i := 24) (by decide +kernel))))
  · exact va_Nw.of rfl (hts _ (tb2 (List.mem_of_getElem? (i := 71) (by decide +kernel))))
  · exact va_Nw.of rfl (hts _ (tb3 (List.mem_of_getElem? (i := 161) (by decide +kernel))))
abbrev flN : List Cond := flatC (Jvm.Cond.and given_1 narrow_1)
theorem fl_ex : ∀ i : Nat, i < 6 → Cond.exactly (tmS i) "java/lang/String" ∈ flN := by decide +kernel
theorem fl_co : ∀ i : Nat, i < 6 → Cond.eq (.field (tmS i) "java/lang/String" "coder" "B") (.int 0) ∈ flN := by decide +kernel
theorem fl_ar : ∀ i : Nat, i < 6 → Cond.arrayOf (.field (tmS i) "java/lang/String" "value" "[B") .byte ∈ flN := by decide +kernel
theorem fl_le : ∀ i : Nat, i < 6 → Cond.eq (.length (.field (tmS i) "java/lang/String" "value" "[B")) (.int (Int32.ofNat (lenS.getD i 0))) ∈ flN := by decide +kernel
theorem fl_el : ∀ i : Nat, i < 6 → ∀ j : Nat, j < 29 → j < lenS.getD i 0 → Cond.eq (.elem (.field (tmS i) "java/lang/String" "value" "[B") (.int (Int32.ofNat j))) (.int ((bytS.getD i []).getD j 0)) ∈ flN := by decide +kernel
theorem fl_ne : ∀ i : Nat, i < 6 → ∀ j : Nat, j < 6 → i ≠ j → Cond.not (Cond.eq (tmS i) (tmS j)) ∈ flN ∨ Cond.not (Cond.eq (tmS j) (tmS i)) ∈ flN := by decide +kernel
theorem st_strs {b : Nat} {s : State} (hts : ∀ w ∈ lw_tbl, w.before #[Value.ref b] s = true) (hgv : (Jvm.Cond.and given_1 narrow_1).before #[Value.ref b] s = true) {A : Nat → Prop} (hA : ∀ a : Nat, a < s.heap.size → ¬ A a) : ∃ adK adV : Nat → Nat, vk_S 6 lenS bytS adK adV A s s.heap ∧ (∀ i, i < 6 → vk_R (ownS i) (idxS i) (txtS i) (adK i) s) ∧ va_Z "java/lang/String" "COMPACT_STRINGS" "Z" (.int 1) A s s.heap ∧ va_Zq "jdk/internal/util/Preconditions" "SIOOBE_FORMATTER" "Ljava/util/function/BiFunction;" A s s.heap := by
  have hs := flat_of_before _ hgv
  have z1 : va_Z "java/lang/String" "COMPACT_STRINGS" "Z" (.int 1) A s s.heap := va_Zof (hts (.laysStatic "java/lang/String" "COMPACT_STRINGS" "Z") (tb4 (List.mem_of_getElem? (i := 6) (by decide +kernel)))) (hts (.initialized "java/lang/String") (tb1 (List.mem_of_getElem? (i := 15) (by decide +kernel)))) (va_eqt (hs (.eq (.static "java/lang/String" "COMPACT_STRINGS" "Z") (.int 1)) (by decide +kernel))) hA
  have z2 : va_Zq "jdk/internal/util/Preconditions" "SIOOBE_FORMATTER" "Ljava/util/function/BiFunction;" A s s.heap := va_Zqof (hts (.laysStatic "jdk/internal/util/Preconditions" "SIOOBE_FORMATTER" "Ljava/util/function/BiFunction;") (tb4 (List.mem_of_getElem? (i := 22) (by decide +kernel)))) (hts (.initialized "jdk/internal/util/Preconditions") (tb1 (List.mem_of_getElem? (i := 17) (by decide +kernel)))) (hs (.isRef (.static "jdk/internal/util/Preconditions" "SIOOBE_FORMATTER" "Ljava/util/function/BiFunction;")) (by decide +kernel)) hA
  have hN : ∀ i : Nat, i < 6 → lenS.getD i 0 < 2 ^ 31 := by decide
  obtain ⟨adK, adV, k1, k2⟩ := vk_Sof (args := #[Value.ref b]) (s := s) (N := 6) (tm := tmS) (len := lenS) (byt := bytS) (A := A) hN (fun i hi => hs _ (fl_ex i hi)) (fun i hi => hs _ (fl_co i hi)) (fun i hi => hs _ (fl_ar i hi)) (fun i hi => hs _ (fl_le i hi)) (fun i hi j hj => hs _ (fl_el i hi j (by have := len_29 i hi; omega) hj)) (fun i j hi hj n => (fl_ne i hi j hj n).elim (fun q => Or.inl (hs _ q)) (fun q => Or.inr (hs _ q))) hA
  exact ⟨adK, adV, k1, fun i hi => vk_R.of (st_word hts i hi) (k2 i hi), z1, z2⟩
theorem st_known {A : Array Value} {s : State} (hts : ∀ w ∈ lw_tbl, w.before A s = true) : ∃ (dC : Nat → ClassId) (dI : Nat → Nat → Nat), ∀ (k : Nat) (q : vw_C), cls[k]? = some q → u_Kn s q.1 q.2.1 q.2.2 (dC k) (dI k) := by
  have hg : ∀ w ∈ lw_good, w.before A s = true := fun w hw => hts w (List.mem_filter.mp hw).1
  have one : ∀ k : Nat, ∃ q : ClassId × (Nat → Nat), k < 11 → u_Kn s (cnm k) (cT k) (cN k) q.1 q.2 := by
    intro k
    by_cases hk : k < 11
    · have hi : (Cond.instantiable (cnm k) (cN k)).before A s = true := by
        match k, hk with
        | 0, _ => exact hg _ ci_0
        | 1, _ => exact hg _ ci_1
        | 2, _ => exact hg _ ci_2
        | 3, _ => exact hg _ ci_3
        | 4, _ => exact hg _ ci_4
        | 5, _ => exact hg _ ci_5
        | 6, _ => exact hg _ ci_6
        | 7, _ => exact hg _ ci_7
        | 8, _ => exact hg _ ci_8
        | 9, _ => exact hg _ ci_9
        | 10, _ => exact hg _ ci_10
        | n + 11, h => exact absurd h (by omega)
      obtain ⟨c, f, h⟩ := u_known (C := cnm k) (T := cT k) (N := cN k) hg (cls_w hk) hi
      exact ⟨(c, f), fun _ => h⟩
    · obtain ⟨c, f, h⟩ := u_known (C := cnm 0) (T := cT 0) (N := cN 0) hg (cls_w (by decide)) (hg _ ci_0)
      exact ⟨(c, f), fun z => absurd z hk⟩
  obtain ⟨g, hgk⟩ := Classical.axiomOfChoice one
  refine ⟨fun k => (g k).1, fun k => (g k).2, fun k q hq => ?_⟩
  have hk : k < 11 := by
    rcases Nat.lt_or_ge k 11 with z | z
    · exact z
    · rw [List.getElem?_eq_none (by show cls.length ≤ k; exact z)] at hq
      cases hq
  have e := cls_at hk
  rw [e] at hq
  cases hq
  exact hgk k hk
theorem whole_start {p : Program} {e : Env} {s : State} {m : MethodId} {below : List Frame} {meth : Method} {c : Code} (l : Launch) (hflags : l.flags = flags0) {b L : Nat} {xs : Nat → Int32} (hL : L ≤ 4096) (C0 : lw_At p s m meth c b L xs) : W p l e room_1 s m #[Value.ref b] below meth c s.heap [] 0 0 (lw_Z below #[Value.ref b] s) (entryFrame m ([Value.ref b] : List Value).toArray 4) := by
  obtain ⟨hx, hb, hr, hml, hown, hts, hX, hbl, hlocks, hgv⟩ := id C0
  have hg : ∀ w ∈ lw_good, w.before #[Value.ref b] s = true := fun w hw => hts w (List.mem_filter.mp hw).1
  have hA : ∀ a : Nat, a < s.heap.size → ¬ (fun q : Nat => s.heap.size ≤ q) a := fun a h => Nat.not_le.mpr h
  obtain ⟨adK, adV, k1, k2, z1, z2⟩ := st_strs hts hgv hA
  obtain ⟨dC, dI, hKc⟩ := st_known hts
  let ad : Nat → Nat := fun k => if k = 999999 then b else if k % 2 = 0 then adK ((k - 1000000) / 2) else adV ((k - 1000001) / 2)
  have a0 : ad 999999 = b := if_pos rfl
  have aK : (fun i => ad (1000000 + 2 * i)) = adK := by
    funext i
    show (if 1000000 + 2 * i = 999999 then b else if (1000000 + 2 * i) % 2 = 0 then adK ((1000000 + 2 * i - 1000000) / 2) else adV ((1000000 + 2 * i - 1000001) / 2)) = adK i
    rw [if_neg (by omega), if_pos (by omega), show (1000000 + 2 * i - 1000000) / 2 = i by omega]
  have aV : (fun i => ad (1000001 + 2 * i)) = adV := by
    funext i
    show (if 1000001 + 2 * i = 999999 then b else if (1000001 + 2 * i) % 2 = 0 then adK ((1000001 + 2 * i - 1000000) / 2) else adV ((1000001 + 2 * i - 1000001) / 2)) = adV i
    rw [if_neg (by omega), if_neg (by omega), show (1000001 + 2 * i - 1000001) / 2 = i by omega]
  let S : AS := ((0, 0, L), ((fun _ => 99, fun _ => 0), ((fun _ _ => 0), fun j => (xs j.toNat).toInt)))
  have hstr : zStr ad (fun q : Nat => s.heap.size ≤ q) s.heap s := by
    unfold zStr
    rw [aK, aV]
    exact ⟨fun i hi => by rw [congrFun aK i]; exact k2 i hi, k1, z1, z2⟩
  have hS0 : RG S (fun _ _ => 0) (fun _ _ => 0) := ⟨fun _ _ => rfl, fun c c1 c2 => absurd c2 (by show ¬ c ≤ 0; omega), fun _ _ => Nat.le_refl _, fun j => zi_r _, by show L < 2147483648; omega, by show 0 < 999999; decide⟩
  obtain ⟨r, S', F', G', hQ, hok, hgo⟩ := go_law0 (d := 1000) (S := S) (F := fun _ _ => 0) (G := fun _ _ => 0) (Q := fun r S' _ _ => r = some (vI 1) ∧ sn S' ≤ 1000 ∧ ss S' ≤ 1000000) (by decide) rfl rfl (fun _ _ => rfl) hL (fun _ _ => rfl) (fun _ _ => rfl) (fun S' F' G' bb h => by
    obtain ⟨n, q, -⟩ := h.1.2.2
    exact ⟨rfl, by have := q.1; have := q.2.1; omega, by have := q.1; have := q.2.1; omega⟩) hS0 (fun v hv => by cases hv) (fun i v hi => by
    match i, hi with
    | 0, hi => cases hi; exact Or.inr (Nat.le_refl _)
    | 1, hi => cases hi
    | 2, hi => cases hi
    | 3, hi => cases hi
    | n + 4, hi => simp at hi)
  obtain ⟨er, bn, bs⟩ := hQ
  subst er
  have hl : zLS ad ((lg_sl ([Value.ref b]) ++ List.replicate (4 - (lg_sl ([Value.ref b])).length) Slot.unset).toArray) 4 [some (vR 999999), none, none, none] := by
    have q := lv_entry ([Value.ref b]) (n := 4) (Nat.le_of_ble_eq_true rfl)
    refine ⟨q.1, q.2.1, fun i v hi => ?_⟩
    match i, hi with
    | 0, hi =>
      cases hi
      have := q.2.2 (0, .ref b) (by simp [lv_args])
      rw [vt_ref (by decide), a0]
      exact this
    | 1, hi => cases hi
    | 2, hi => cases hi
    | 3, hi => cases hi
    | n + 4, hi => simp at hi
  rw [lg_entry_eq]
  have hxx : (fun j : Nat => Int32.ofInt (sx S j)) = xs := by
    funext j
    show Int32.ofInt (xs (j : Int).toNat).toInt = xs j
    rw [Int32.ofInt_toInt, Int.toNat_natCast]
  refine hgo p l e room_1 s m #[Value.ref b] below meth c s.heap [] 0 0 (lw_Z below #[Value.ref b] s) (dC, dI) ad (fun _ => 0) [] (fun q : Nat => s.heap.size ≤ q) s.heap _ ⟨hx, hb, hml, hown, hg, hr, hlocks, fun z => absurd z (by decide), nw_word hts⟩ ⟨fun _ => ⟨by rw [a0, hxx]; exact hX, by rw [a0]; exact hbl, by rw [a0]; exact hA b hbl⟩, hstr⟩ (by decide) (by decide) (by show 0 + (sn S' - 0) ≤ 228224; omega) (by show 0 + (ss S' - 0) ≤ 8417578; omega) ⟨⟨hKc, fun k q h => by simp at h⟩, fun k q h => by simp [wl, S, sn] at h, ⟨fun i j p q h => by simp [wl, S, sn] at h, fun k q h => by simp [wl, S, sn] at h⟩, fun c c1 c2 => absurd c2 (by show ¬ c ≤ 0; omega)⟩ va_S.rf (fun _ h => h) hl (fun H1 locs1 ad1 ca1 tys1 pc1 ls1 y1 y2 y3 y4 => ?_)
  refine va_forget (fun q hq => y3.2.2 q hq) ?_
  refine W.widen (k := 228224) (n := 8417578) (by show 0 + (sn S' - 0) ≤ 228224; omega) (by show 0 + (ss S' - 0) ≤ 8417578; omega) ?_
  exact lw_ret hx hb hr hlocks y4.1
end
