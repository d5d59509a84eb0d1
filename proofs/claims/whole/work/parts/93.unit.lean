/-! A UNIT IS LOCATED, told by the reference's rows -/
theorem rwS_cg {ei ei' : Int → Int} {ni : Int} {u u' : Int → Int → Int} {j : Int} (h1 : ∀ i : Int, 0 ≤ i → i ≤ ni → ei i = ei' i) (h2 : ∀ i : Int, 0 ≤ i → i < ni → u j i = u' j i) (il ih : Int) : rwS ei ni u il ih j = rwS ei' ni u' il ih j := by
  refine sI_congr (fun i i0 i1 => ?_)
  rw [h1 i i0 (by omega), h1 (i + 1) (by omega) (by omega), h2 i i0 i1]
theorem loc_cg {r r' p p' : Int → Int} {n k j l : Int} (h1 : ∀ i : Int, 0 ≤ i → i < n → r i = r' i) (h2 : ∀ i : Int, 0 ≤ i → i < n → p i = p' i) (h : Loc r p n k j l) : Loc r' p' n k j l := by
  obtain ⟨a, b, c, d, e⟩ := h
  refine ⟨a, b, ?_, d, ?_⟩
  · rw [c]
    congr 1
    exact sI_congr (fun i i0 i1 => by rw [h1 i i0 (by omega), h2 i i0 (by omega)])
  · rw [← h1 j a b, ← h2 j a b]; exact e
theorem fdw_cg {eo eo' ei ei' : Int → Int} {no ni : Int} {u u' : Int → Int → Int} {lo hi il ih k j l i m : Int} (h1 : ∀ i : Int, 0 ≤ i → i ≤ no → eo i = eo' i) (h2 : ∀ i : Int, 0 ≤ i → i ≤ ni → ei i = ei' i) (h3 : ∀ j i : Int, 0 ≤ j → j < no → 0 ≤ i → i < ni → u j i = u' j i) (h : FdW eo ei no ni u lo hi il ih k j l i m) : FdW eo' ei' no ni u' lo hi il ih k j l i m := by
  obtain ⟨a, b⟩ := h
  have rw' : ∀ j : Int, 0 ≤ j → j < no → rwS ei ni u il ih j = rwS ei' ni u' il ih j := fun j j0 j1 => rwS_cg h2 (fun i i0 i1 => h3 j i j0 j1 i0 i1) il ih
  refine ⟨loc_cg rw' (fun i i0 i1 => by show ov (eo i) (eo (i + 1)) lo hi = ov (eo' i) (eo' (i + 1)) lo hi; rw [h1 i i0 (by omega), h1 (i + 1) (by omega) (by omega)]) a, ?_⟩
  rw [← rw' j a.1 a.2.1]
  exact loc_cg (fun i i0 i1 => h3 j i a.1 a.2.1 i0 i1) (fun i i0 i1 => by show ov (ei i) (ei (i + 1)) il ih = ov (ei' i) (ei' (i + 1)) il ih; rw [h2 i i0 (by omega), h2 (i + 1) (by omega) (by omega)]) b
theorem tot_cg {eo eo' ei ei' : Int → Int} {no ni : Int} {u u' : Int → Int → Int} {lo hi il ih : Int} (h1 : ∀ i : Int, 0 ≤ i → i ≤ no → eo i = eo' i) (h2 : ∀ i : Int, 0 ≤ i → i ≤ ni → ei i = ei' i) (h3 : ∀ j i : Int, 0 ≤ j → j < no → 0 ≤ i → i < ni → u j i = u' j i) : tot eo ei no ni u lo hi il ih = tot eo' ei' no ni u' lo hi il ih := by
  refine sI_congr (fun j j0 j1 => ?_)
  rw [rwS_cg h2 (fun i i0 i1 => h3 j i j0 j1 i0 i1), h1 j j0 (by omega), h1 (j + 1) (by omega) (by omega)]
/-- what the witnesses say of the cell -/
theorem fdw_at {eo ei : Int → Int} {no ni h w : Int} (s : Sq eo no h) (si : Sq ei ni w) {u : Int → Int → Int} (hu : Upos no ni u) {lo hi il ih k j l i m : Int} (a0 : 0 ≤ lo) (a1 : hi < h) (b0 : 0 ≤ il) (b1 : ih < w) (f : FdW eo ei no ni u lo hi il ih k j l i m) : u j i * ((m - 1) / u j i + 1) - m = u j i - ((m - 1) % u j i + 1) ∧ blk eo no (max (eo j) lo + (l - 1) / rwS ei ni u il ih j) = j ∧ blk ei ni (max (ei i) il + (m - 1) / u j i) = i ∧ sI (fun j => rwS ei ni (idn u) il ih j * ov (eo j) (eo (j + 1)) lo hi) j + rwS ei ni (idn u) il ih j * ((l - 1) / rwS ei ni u il ih j) + sI (fun i => idn u j i * ov (ei i) (ei (i + 1)) il ih) i + ((m - 1) / u j i + 1) = dS (fun y => dS (fun x => idn u (blk eo no y) (blk ei ni x)) il ih) lo (max (eo j) lo + (l - 1) / rwS ei ni u il ih j - 1) + dS (fun x => idn u j (blk ei ni x)) il (max (ei i) il + (m - 1) / u j i) := by
  obtain ⟨⟨f1, f2, f3, f4, f5⟩, ⟨g1, g2, g3, g4, g5⟩⟩ := f
  have R0 := rwS_pos hu ei il ih f1 f2
  have d1 := dv R0 f4 f5
  have d2 := dv (hu j i f1 f2 g1 g2) g4 g5
  obtain ⟨c1, c2, c3, c4⟩ := dS_to s (fun j => rwS ei ni (idn u) il ih j) a0 a1 f1 f2 d1.2.1 d1.2.2.1
  obtain ⟨t1, t2, t3, t4⟩ := dS_to si (idn u j) b0 b1 g1 g2 d2.2.1 d2.2.2.1
  have e1 : dS (fun y => dS (fun x => idn u (blk eo no y) (blk ei ni x)) il ih) lo (max (eo j) lo + (l - 1) / rwS ei ni u il ih j - 1) = dS (fun y => rwS ei ni (idn u) il ih (blk eo no y)) lo (max (eo j) lo + (l - 1) / rwS ei ni u il ih j - 1) := dS_congr (fun y _ _ => (rwS_dS si (idn u) b0 b1 _).symm)
  have one : idn u j i = 1 := by
    unfold idn
    rw [if_pos d2.1]
  have last := dS_1 (fun x => idn u j (blk ei ni x)) (a := il) (b := max (ei i) il + (m - 1) / u j i - 1) (by omega)
  rw [Int.sub_add_cancel, t3, one, t4, one, Int.one_mul] at last
  refine ⟨?_, c3, t3, ?_⟩
  · have cm := Int.mul_comm (u j i) ((m - 1) / u j i)
    rw [Int.mul_add, Int.mul_one, cm]
    have := d2.2.2.2.2.2.1
    omega
  · rw [e1, c4, last]
    omega
theorem inv_rows {F : AF} {G : AG} (h : InvB F G) : F 4 1 = G 55 0 ∧ F 11 1 = G 55 1 ∧ (∀ i : Int, 0 ≤ i → i ≤ F 4 1 → G 5 i = me F G 0 i) ∧ ∀ i : Int, 0 ≤ i → i ≤ F 11 1 → G 12 i = me F G 1 i := ⟨h.2.2.2.2.1, h.2.2.2.2.2.1, h.2.2.2.2.2.2.1, h.2.2.2.2.2.2.2⟩
theorem inv_cu {S : AS} {F : AF} {G : AG} {b : Int} (h : Inv S F G b) {g i j : Int} (g0 : -1 ≤ g) (g1 : g ≤ 2) (i0 : 0 ≤ i) (i1 : i < F 4 1) (j0 : 0 ≤ j) (j1 : j < F 11 1) : cu G 18 g i j = mu G g i j := by
  have P4 := h.2.2.2.1.2.2.2.1
  obtain ⟨a1, a2, a3⟩ := ple_at P4 i0 i1 j0 j1
  unfold cu mu
  by_cases w : g = -1
  · rw [if_pos w, if_pos w, a1, a2, a3, Int.zero_add, Int.zero_add, Int.zero_add]
  · rw [if_neg w, if_neg w]
    have := P4 g i j (by omega) g1 i0 i1 j0 j1
    rw [Int.zero_add] at this
    exact this
/-- row by row -/
theorem loc_inv0 {d : Nat} {S : AS} {F : AF} {G : AG} {b : Int} (hd : 2 ≤ d) (h : Inv S F G b) {re : Nat} (hk : AtRect S re) {g k x1 y1 x2 y2 : Int} (g0 : 0 ≤ g) (g1 : g ≤ 2) (k1 : 1 ≤ k) (k2 : r64 k) (e0 : F re 0 = x1) (e1 : F re 1 = y1) (e2 : F re 2 = x2) (e3 : F re 3 = y2) (r : recOK F x1 y1 x2 y2) {Q : AQ} (hq1 : ∀ (F' : AF) (x y r : Int), Same34 F F' → FdC (me F G 1) (me F G 0) (G 55 1) (G 55 0) (mq G g) y1 y2 x1 x2 k y x r → F' 34 4 = x → F' 34 5 = y → F' 34 6 = mv F G g x y - r → F' 34 7 = nFrom F G g 1 x1 y1 x2 (y - 1) + nFrom F G g 1 x1 y x y → Q (some (vI 1)) S F' G) (hq0 : ∀ F' : AF, Same34 F F' → aS (mv F G g) x1 y1 x2 y2 < k → Q (some (vI 0)) S F' G) : Ok d MX7_locate [vR 34, vI g, vI 0, vR re, vJ k] S F G Q := by
  have hsh := inv_shc h
  have sz := inv_sz h
  have hx := inv_mx h
  obtain ⟨n0, n1, rx, ry⟩ := inv_rows h.2.1
  obtain ⟨r1, r2, r3, r4, r5, r6⟩ := id r
  have hu : ∀ j i : Int, 0 ≤ j → j < F 11 1 → 0 ≤ i → i < F 4 1 → uo G 0 g j i = mq G g j i := fun j i j0 j1 i0 i1 => by
    show cu G 18 g i j = mu G g i j
    exact inv_cu h (by omega) g1 i0 i1 j0 j1
  have hU := mq_pos (inv_mba h) (g := g) (by omega) g1
  have eT : tot (G (out 0 + 1)) (G (inn 0 + 1)) (F (out 0) 1) (F (inn 0) 1) (uo G 0 g) y1 y2 x1 x2 = aS (mv F G g) x1 y1 x2 y2 := by
    have := tot_cg (eo := G 12) (ei := G 5) (no := F 11 1) (ni := F 4 1) (u := uo G 0 g) (lo := y1) (hi := y2) (il := x1) (ih := x2) ry rx hu
    refine Eq.trans this ?_
    rw [n0, n1]
    exact mtot hx r1 r3 r4 r6
  have bT := mv_le hx (inv_mba h) (inv_mt h) g0 g1 r1 r3 r4 r6
  refine ok_locate hd hsh (inv_cc h) (inv_pba h) hk ⟨by omega, by omega, by omega, by omega, by omega, by omega⟩ (by omega) (by omega) (by omega) g1 k1 k2 (lo := y1) (hi := y2) (il := x1) (ih := x2) (by rw [if_pos rfl, e1]) (by rw [if_pos rfl, e3]) (by rw [if_pos rfl, e0]) (by rw [if_pos rfl, e2]) (by rw [eT]; omega) (fun F' j l i m lc => ?_) (fun F' s lt => hq0 F' s (by rw [eT] at lt; exact lt))
  obtain ⟨s34, fw, f5, f4, f6, f7⟩ := lc
  have fw' : FdW (me F G 1) (me F G 0) (G 55 1) (G 55 0) (mq G g) y1 y2 x1 x2 k j l i m := by
    have := fdw_cg (eo := G 12) (ei := G 5) (no := F 11 1) (ni := F 4 1) (u := uo G 0 g) ry rx hu fw
    rw [n0, n1] at this
    exact this
  have j0 := fw'.1.1
  have j1 := fw'.1.2.1
  have i0 := fw'.2.1
  have i1 := fw'.2.2.1
  have ur : ∀ il ih : Int, rwS (G 5) (F 4 1) (uo G 0 g) il ih j = rwS (me F G 0) (G 55 0) (mq G g) il ih j := fun il ih => by
    rw [rwS_cg (ei' := me F G 0) (u' := mq G g) rx (fun i i0 i1 => hu j i j0 (by omega) i0 i1), n0]
  have eu : uo G 0 g j i = mq G g j i := hu j i j0 (by omega) i0 (by omega)
  have eo' : G 12 j = me F G 1 j := ry j j0 (by omega)
  have ei' : G 5 i = me F G 0 i := rx i i0 (by omega)
  obtain ⟨p1, p2, p3, p4⟩ := fdw_at (sq_y hx) (sq_x hx) hU r4 r6 r1 r3 fw'
  have f5' : F' 34 5 = max (me F G 1 j) y1 + (l - 1) / rwS (me F G 0) (G 55 0) (mq G g) x1 x2 j := by
    rw [← ur, ← eo']
    exact f5
  have f4' : F' 34 4 = max (me F G 0 i) x1 + (m - 1) / mq G g j i := by
    rw [← eu, ← ei']
    exact f4
  rw [← f5'] at p2 p4
  rw [← f4'] at p3 p4
  have fc := fd_cells (sq_y hx) (sq_x hx) hU r4 r6 r1 r3 ⟨j, l, i, m, fw', f5', f4', rfl⟩
  have vm : mv F G g (F' 34 4) (F' 34 5) = mq G g j i := by
    unfold mv cv
    rw [p2, p3]
  refine hq1 F' (F' 34 4) (F' 34 5) ((m - 1) % mq G g j i + 1) s34 ⟨j, l, i, m, fw', f5', f4', rfl⟩ rfl rfl ?_ ?_
  · rw [vm, ← p1]
    have : F' 34 6 = uo G 0 g j i * ((m - 1) / uo G 0 g j i + 1) - m := f6
    rw [this, eu]
  · have id' : ∀ x y : Int, idn (mq G g) (blk (me F G 1) (G 55 1) y) (blk (me F G 0) (G 55 0) x) = if mv F G g x y < 1 then 0 else 1 := by
      intro x y
      unfold idn mv cv
      show (if 0 < mu G g _ _ then _ else _) = _
      by_cases c : 0 < mu G g (blk (me F G 0) (G 55 0) x) (blk (me F G 1) (G 55 1) y)
      · rw [if_pos c, if_neg (by omega)]
      · rw [if_neg c, if_pos (by omega)]
    have q1 : nFrom F G g 1 x1 y1 x2 (F' 34 5 - 1) = dS (fun y => dS (fun x => idn (mq G g) (blk (me F G 1) (G 55 1) y) (blk (me F G 0) (G 55 0) x)) x1 x2) y1 (F' 34 5 - 1) := aS_congr (f := fun x y => if mv F G g x y < 1 then 0 else 1) (g := fun x y => idn (mq G g) (blk (me F G 1) (G 55 1) y) (blk (me F G 0) (G 55 0) x)) (fun x y _ _ _ _ => (id' x y).symm)
    have q2 : nFrom F G g 1 x1 (F' 34 5) (F' 34 4) (F' 34 5) = dS (fun x => idn (mq G g) j (blk (me F G 0) (G 55 0) x)) x1 (F' 34 4) := by
      unfold nFrom aS
      rw [dS_one]
      refine dS_congr (fun x _ _ => ?_)
      show (if mv F G g x (F' 34 5) < 1 then 0 else 1) = _
      rw [← id' x (F' 34 5), p2]
    rw [q1, q2, ← p4]
    have ui : ∀ j : Int, 0 ≤ j → j < F 11 1 → ∀ i : Int, 0 ≤ i → i < F 4 1 → idn (uo G 0 g) j i = idn (mq G g) j i := fun j j0 j1 i i0 i1 => by
      unfold idn
      rw [hu j i j0 j1 i0 i1]
    have un : ∀ j : Int, 0 ≤ j → j < F 11 1 → rwS (G 5) (F 4 1) (idn (uo G 0 g)) x1 x2 j = rwS (me F G 0) (G 55 0) (idn (mq G g)) x1 x2 j := fun j j0 j1 => by
      rw [rwS_cg (ei' := me F G 0) (u' := idn (mq G g)) rx (fun i i0 i1 => ui j j0 j1 i i0 i1), n0]
    have f7' : F' 34 7 = sI (fun j => rwS (G 5) (F 4 1) (idn (uo G 0 g)) x1 x2 j * ov (G 12 j) (G 12 (j + 1)) y1 y2) j + rwS (G 5) (F 4 1) (idn (uo G 0 g)) x1 x2 j * ((l - 1) / rwS (G 5) (F 4 1) (uo G 0 g) x1 x2 j) + sI (fun i => idn (uo G 0 g) j i * ov (G 5 i) (G 5 (i + 1)) x1 x2) i + ((m - 1) / uo G 0 g j i + 1) := f7
    rw [f7', ur, un j j0 (by omega), eu]
    congr 2
    · congr 1
      refine sI_congr (fun a a0 a1 => ?_)
      rw [un a a0 (by omega), ry a a0 (by omega), ry (a + 1) (by omega) (by omega)]
    · refine sI_congr (fun a a0 a1 => ?_)
      rw [ui j j0 (by omega) a a0 (by omega), rx a a0 (by omega), rx (a + 1) (by omega) (by omega)]
/-- column by column, of the whole floor -/
theorem loc_inv1 {d : Nat} {S : AS} {F : AF} {G : AG} {b : Int} (hd : 2 ≤ d) (h : Inv S F G b) {g k : Int} (g0 : 0 ≤ g) (g1 : g ≤ 2) (k1 : 1 ≤ k) (k2 : r64 k) {Q : AQ} (hq1 : ∀ (F' : AF) (x y r : Int), Same34 F F' → FdC (me F G 0) (me F G 1) (G 55 0) (G 55 1) (mu G g) 0 (F 53 1 - 1) 0 (F 53 2 - 1) k x y r → F' 34 4 = x → F' 34 5 = y → Q (some (vI 1)) S F' G) (hq0 : ∀ F' : AF, Same34 F F' → aS (mv F G g) 0 0 (F 53 1 - 1) (F 53 2 - 1) < k → Q (some (vI 0)) S F' G) : Ok d MX7_locate [vR 34, vI g, vI 1, vR 17, vJ k] S F G Q := by
  have hsh := inv_shc h
  have sz := inv_sz h
  have hx := inv_mx h
  obtain ⟨n0, n1, rx, ry⟩ := inv_rows h.2.1
  obtain ⟨-, -, w0, w1, w2, w3⟩ := inv_cc h
  have hu : ∀ j i : Int, 0 ≤ j → j < F 4 1 → 0 ≤ i → i < F 11 1 → uo G 1 g j i = mu G g j i := fun j i j0 j1 i0 i1 => by
    show cu G 18 g j i = mu G g j i
    exact inv_cu h (by omega) g1 j0 j1 i0 i1
  have eT : tot (G (out 1 + 1)) (G (inn 1 + 1)) (F (out 1) 1) (F (inn 1) 1) (uo G 1 g) 0 (F 53 1 - 1) 0 (F 53 2 - 1) = aS (mv F G g) 0 0 (F 53 1 - 1) (F 53 2 - 1) := by
    have := tot_cg (eo := G 5) (ei := G 12) (no := F 4 1) (ni := F 11 1) (u := uo G 1 g) (lo := 0) (hi := F 53 1 - 1) (il := 0) (ih := F 53 2 - 1) rx ry hu
    refine Eq.trans this ?_
    rw [n0, n1, tot_dS (sq_x hx) (sq_y hx) (mu G g) (by omega) (by omega) (by omega) (by omega)]
    exact dS_swap (fun x y => mu G g (blk (me F G 0) (G 55 0) x) (blk (me F G 1) (G 55 1) y)) _ _ _ _
  have bT := mv_le hx (inv_mba h) (inv_mt h) (g := g) (x1 := 0) (y1 := 0) (x2 := F 53 1 - 1) (y2 := F 53 2 - 1) g0 g1 (by omega) (by omega) (by omega) (by omega)
  refine ok_locate hd hsh (inv_cc h) (inv_pba h) (at_17 hsh) ⟨by omega, by omega, by omega, by omega, by omega, by omega⟩ (by omega) (by omega) (by omega) g1 k1 k2 (lo := 0) (hi := F 53 1 - 1) (il := 0) (ih := F 53 2 - 1) (by rw [if_neg (by decide), w0]) (by rw [if_neg (by decide), w2]; omega) (by rw [if_neg (by decide), w1]) (by rw [if_neg (by decide), w3]; omega) (by rw [eT]; omega) (fun F' j l i m lc => ?_) (fun F' s lt => hq0 F' s (by rw [eT] at lt; exact lt))
  obtain ⟨s34, fw, f5, f4, f6, f7⟩ := lc
  have fw' : FdW (me F G 0) (me F G 1) (G 55 0) (G 55 1) (mu G g) 0 (F 53 1 - 1) 0 (F 53 2 - 1) k j l i m := by
    have := fdw_cg (eo := G 5) (ei := G 12) (no := F 4 1) (ni := F 11 1) (u := uo G 1 g) rx ry hu fw
    rw [n0, n1] at this
    exact this
  have j0 := fw'.1.1
  have j1 := fw'.1.2.1
  have i0 := fw'.2.1
  have i1 := fw'.2.2.1
  have ur : rwS (G 12) (F 11 1) (uo G 1 g) 0 (F 53 2 - 1) j = rwS (me F G 1) (G 55 1) (mu G g) 0 (F 53 2 - 1) j := by
    rw [rwS_cg (ei' := me F G 1) (u' := mu G g) ry (fun i i0 i1 => hu j i j0 (by omega) i0 i1), n1]
  have eu : uo G 1 g j i = mu G g j i := hu j i j0 (by omega) i0 (by omega)
  have f4' : F' 34 4 = max (me F G 0 j) 0 + (l - 1) / rwS (me F G 1) (G 55 1) (mu G g) 0 (F 53 2 - 1) j := by
    rw [← ur, ← rx j j0 (by omega)]
    exact f5
  have f5' : F' 34 5 = max (me F G 1 i) 0 + (m - 1) / mu G g j i := by
    rw [← eu, ← ry i i0 (by omega)]
    exact f4
  exact hq1 F' (F' 34 4) (F' 34 5) ((m - 1) % mu G g j i + 1) s34 ⟨j, l, i, m, fw', f4', f5', rfl⟩ rfl rfl
