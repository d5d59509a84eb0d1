section
/-! THE k-TH UNIT BY CELLS -/
def FC (f : Int → Int → Int) (x1 y1 x2 y2 k x y r : Int) : Prop := x1 ≤ x ∧ x ≤ x2 ∧ y1 ≤ y ∧ y ≤ y2 ∧ 1 ≤ r ∧ r ≤ f x y ∧ aS f x1 y1 x2 (y - 1) + dS (fun x => f x y) x1 (x - 1) = k - r
theorem fc_row {f : Int → Int → Int} {x1 y1 x2 y2 k x y r : Int} (hf : ∀ x y : Int, x1 ≤ x → x ≤ x2 → y1 ≤ y → y ≤ y2 → 0 ≤ f x y) (h : FC f x1 y1 x2 y2 k x y r) {t : Int} (t0 : y ≤ t) (t1 : t ≤ y2) : k ≤ aS f x1 y1 x2 t := by
  obtain ⟨h1, h2, h3, h4, h5, h6, h7⟩ := h
  have s : aS f x1 y1 x2 t = aS f x1 y1 x2 (y - 1) + aS f x1 y x2 t := by
    have := dS_split (fun y => dS (fun x => f x y) x1 x2) (a := y1) (m := y - 1) (b := t) (by omega) (by omega)
    rw [Int.sub_add_cancel] at this
    exact this
  have s2 : aS f x1 y x2 t = aS f x1 y x2 y + aS f x1 (y + 1) x2 t := dS_split (fun y => dS (fun x => f x y) x1 x2) (a := y) (m := y) (b := t) (by omega) (by omega)
  have s3 : aS f x1 y x2 y = dS (fun x => f x y) x1 x2 := dS_one (fun y => dS (fun x => f x y) x1 x2) y
  have s4 := dS_split (fun x => f x y) (a := x1) (m := x) (b := x2) (by omega) (by omega)
  have s5 : dS (fun x => f x y) x1 x = dS (fun x => f x y) x1 (x - 1) + f x y := by
    have := dS_1 (fun x => f x y) (a := x1) (b := x - 1) (by omega)
    rw [Int.sub_add_cancel] at this
    exact this
  have p1 : 0 ≤ aS f x1 (y + 1) x2 t := aS_pos (fun a b a0 a1 b0 b1 => hf a b a0 a1 (by omega) (by omega))
  have p2 : 0 ≤ dS (fun x => f x y) (x + 1) x2 := dS_pos (fun a a0 a1 => hf a y (by omega) a1 h3 h4)
  omega
theorem fc_le {f : Int → Int → Int} {x1 y1 x2 y2 k x y r : Int} (hf : ∀ x y : Int, x1 ≤ x → x ≤ x2 → y1 ≤ y → y ≤ y2 → 0 ≤ f x y) (h : FC f x1 y1 x2 y2 k x y r) : k ≤ aS f x1 y1 x2 y2 := fc_row hf h h.2.2.2.1 (Int.le_refl _)
theorem fc_lt {f : Int → Int → Int} {x1 y1 x2 y2 k x y r x' y' r' : Int} (hf : ∀ x y : Int, x1 ≤ x → x ≤ x2 → y1 ≤ y → y ≤ y2 → 0 ≤ f x y) (h : FC f x1 y1 x2 y2 k x y r) (h' : FC f x1 y1 x2 y2 k x' y' r') : ¬ y < y' := by
  intro lt
  obtain ⟨q1, q2, q3, q4, q5, q6, q7⟩ := h'
  have := fc_row hf h (t := y' - 1) (by omega) (by omega)
  have p : 0 ≤ dS (fun x => f x y') x1 (x' - 1) := dS_pos (fun a a0 a1 => hf a y' a0 (by omega) q3 q4)
  omega
theorem fc_lx {f : Int → Int → Int} {x1 y1 x2 y2 k x y r x' r' : Int} (hf : ∀ x y : Int, x1 ≤ x → x ≤ x2 → y1 ≤ y → y ≤ y2 → 0 ≤ f x y) (h : FC f x1 y1 x2 y2 k x y r) (h' : FC f x1 y1 x2 y2 k x' y r') : ¬ x < x' := by
  intro lt
  obtain ⟨h1, h2, h3, h4, h5, h6, h7⟩ := h
  obtain ⟨q1, q2, q3, q4, q5, q6, q7⟩ := h'
  have s4 := dS_split (fun x => f x y) (a := x1) (m := x) (b := x' - 1) (by omega) (by omega)
  have s5 : dS (fun x => f x y) x1 x = dS (fun x => f x y) x1 (x - 1) + f x y := by
    have := dS_1 (fun x => f x y) (a := x1) (b := x - 1) (by omega)
    rw [Int.sub_add_cancel] at this
    exact this
  have p2 : 0 ≤ dS (fun x => f x y) (x + 1) (x' - 1) := dS_pos (fun a a0 a1 => hf a y (by omega) (by omega) h3 h4)
  omega
theorem fc_uniq {f : Int → Int → Int} {x1 y1 x2 y2 k x y r x' y' r' : Int} (hf : ∀ x y : Int, x1 ≤ x → x ≤ x2 → y1 ≤ y → y ≤ y2 → 0 ≤ f x y) (h : FC f x1 y1 x2 y2 k x y r) (h' : FC f x1 y1 x2 y2 k x' y' r') : x = x' ∧ y = y' ∧ r = r' := by
  have a := fc_lt hf h h'
  have b := fc_lt hf h' h
  have e : y = y' := by omega
  subst e
  have c := fc_lx hf h h'
  have d := fc_lx hf h' h
  have e : x = x' := by omega
  subst e
  have p := h.2.2.2.2.2.2
  have q := h'.2.2.2.2.2.2
  exact ⟨rfl, rfl, by omega⟩
theorem fc_cg {f f' : Int → Int → Int} {x1 y1 x2 y2 k x y r : Int} (e : ∀ x y : Int, x1 ≤ x → x ≤ x2 → y1 ≤ y → y ≤ y2 → f x y = f' x y) (h : FC f x1 y1 x2 y2 k x y r) : FC f' x1 y1 x2 y2 k x y r := by
  obtain ⟨h1, h2, h3, h4, h5, h6, h7⟩ := h
  refine ⟨h1, h2, h3, h4, h5, by rw [← e x y h1 h2 h3 h4]; exact h6, ?_⟩
  rw [← h7]
  congr 1
  · exact aS_congr (fun a b a0 a1 b0 b1 => (e a b a0 a1 b0 (by omega)).symm)
  · exact dS_congr (fun a a0 a1 => (e a y a0 (by omega) h3 h4).symm)
theorem fdc_fc {eo ei : Int → Int} {no ni h w : Int} (s : Sq eo no h) (si : Sq ei ni w) {u f : Int → Int → Int} (hu : Upos no ni u) (huf : ∀ x y : Int, u (blk eo no y) (blk ei ni x) = f x y) {lo hi il ih k o x r : Int} (a0 : 0 ≤ lo) (a1 : hi < h) (b0 : 0 ≤ il) (b1 : ih < w) (fd : FdC eo ei no ni u lo hi il ih k o x r) : FC f il lo ih hi k x o r := by
  obtain ⟨c1, c2, c3, c4, c5, c6, c7⟩ := fd_cells s si hu a0 a1 b0 b1 fd
  refine ⟨c3, c4, c1, c2, c5, by rw [← huf]; exact c6, ?_⟩
  simp only [huf] at c7
  exact c7
theorem uo_vC {F : AF} {G : AG} {g : Int} (g0 : 0 ≤ g) (x y : Int) : uo G 0 g (blk (G 12) (F 11 1) y) (blk (G 5) (F 4 1) x) = vC F G 18 g x y := by
  unfold uo vC cv cu
  rw [if_pos rfl, if_neg (by omega)]
theorem mq_mv {F : AF} {G : AG} {g : Int} (x y : Int) : mq G g (blk (me F G 1) (G 55 1) y) (blk (me F G 0) (G 55 0) x) = mv F G g x y := rfl
theorem ok_locC {d : Nat} {S : AS} {F : AF} {G : AG} {b : Int} (hd : 2 ≤ d) (h : CI S F G b) {re : Nat} (hk : AtRect S re) {g k x1 y1 x2 y2 : Int} (g0 : 0 ≤ g) (g1 : g ≤ 2) (k1 : 1 ≤ k) (k2 : r64 k) (e0 : F re 0 = x1) (e1 : F re 1 = y1) (e2 : F re 2 = x2) (e3 : F re 3 = y2) (r : recS F x1 y1 x2 y2) {Q : AQ} (hq1 : ∀ (F' : AF) (x y r : Int), Same34 F F' → FC (vC F G 18 g) x1 y1 x2 y2 k x y r → F' 34 4 = x → F' 34 5 = y → F' 34 6 = vC F G 18 g x y - r → Q (some (vI 1)) S F' G) (hq0 : ∀ F' : AF, Same34 F F' → aS (vC F G 18 g) x1 y1 x2 y2 < k → Q (some (vI 0)) S F' G) : Ok d MX7_locate [vR 34, vI g, vI 0, vR re, vJ k] S F G Q := by
  have hsh := h.1.1
  have hc := h.2.1
  have s4 : Sq (G 5) (F 4 1) (F 4 2) := sq_co hc.1
  have s11 : Sq (G 12) (F 11 1) (F 11 2) := sq_co hc.2.1
  obtain ⟨r1, r2, r3, r4, r5, r6⟩ := id r
  have hU : Upos (F 11 1) (F 4 1) (uo G 0 g) := uo_pos (q := 0) (ci_pba h) (by omega) g1
  have eT : tot (G 12) (G 5) (F 11 1) (F 4 1) (uo G 0 g) y1 y2 x1 x2 = aS (vC F G 18 g) x1 y1 x2 y2 := by
    rw [tot_dS s11 s4 (uo G 0 g) r4 r6 r1 r3]
    simp only [uo_vC g0]
    rfl
  have bT : aS (vC F G 18 g) x1 y1 x2 y2 ≤ 3000000000000000000 := by
    have := aS_mono (f := vC F G 18 g) (x1 := x1) (y1 := y1) (x2 := x2) (y2 := y2) (a1 := 0) (b1 := 0) (a2 := F 4 2 - 1) (b2 := F 11 2 - 1) (fun x y x0 xw y0 yw => (ci_vC h g0 g1 x0 (by omega) y0 (by omega)).1) r1 r4 (by omega) (by omega)
    have := h.2.2.2.2.1.2 g g0 g1
    omega
  refine ok_locate hd hsh hc (ci_pba h) hk ⟨by omega, by omega, by omega, by omega, by omega, by omega⟩ (by omega) (by omega) (by omega) g1 k1 k2 (lo := y1) (hi := y2) (il := x1) (ih := x2) (by rw [if_pos rfl, e1]) (by rw [if_pos rfl, e3]) (by rw [if_pos rfl, e0]) (by rw [if_pos rfl, e2]) (by show tot (G 12) (G 5) (F 11 1) (F 4 1) (uo G 0 g) y1 y2 x1 x2 ≤ _; rw [eT]; exact bT) (fun F' j l i m lc => ?_) (fun F' s lt => hq0 F' s (by rw [← eT]; exact lt))
  obtain ⟨s34, fw, f5, f4, f6, -⟩ := lc
  have fw' : FdW (G 12) (G 5) (F 11 1) (F 4 1) (uo G 0 g) y1 y2 x1 x2 k j l i m := fw
  have f5' : F' 34 5 = max (G 12 j) y1 + (l - 1) / rwS (G 5) (F 4 1) (uo G 0 g) x1 x2 j := f5
  have f4' : F' 34 4 = max (G 5 i) x1 + (m - 1) / uo G 0 g j i := f4
  have f6' : F' 34 6 = uo G 0 g j i * ((m - 1) / uo G 0 g j i + 1) - m := f6
  obtain ⟨p1, p2, p3, -⟩ := fdw_at s11 s4 hU r4 r6 r1 r3 fw'
  rw [← f5'] at p2
  rw [← f4'] at p3
  have vm := uo_vC (F := F) (G := G) g0 (F' 34 4) (F' 34 5)
  rw [p2, p3] at vm
  refine hq1 F' (F' 34 4) (F' 34 5) ((m - 1) % uo G 0 g j i + 1) s34 (fdc_fc s11 s4 hU (uo_vC g0) r4 r6 r1 r3 ⟨j, l, i, m, fw', f5', f4', rfl⟩) rfl rfl ?_
  rw [f6', p1, ← vm]
/-- what a PICK leaves -/
noncomputable def tPick (f : Int → Int → Int) (x1 y1 x2 x y r a b : Int) : Int := if inR x y x y a b then f x y - r else if inR x1 y (x - 1) y a b then 0 else if inR x1 y1 x2 (y - 1) a b then 0 else f a b
theorem tPick_in {f : Int → Int → Int} {x1 y1 x2 y2 k x y r : Int} (h : FC f x1 y1 x2 y2 k x y r) {a b : Int} (p : 0 ≤ f a b) : 0 ≤ tPick f x1 y1 x2 x y r a b ∧ tPick f x1 y1 x2 x y r a b ≤ f a b := by
  obtain ⟨h1, h2, h3, h4, h5, h6, h7⟩ := h
  unfold tPick
  by_cases c : inR x y x y a b
  · rw [if_pos c]
    have e1 : a = x := by omega
    have e2 : b = y := by omega
    subst e1 e2
    omega
  · rw [if_neg c]
    by_cases c2 : inR x1 y (x - 1) y a b
    · rw [if_pos c2]; omega
    · rw [if_neg c2]
      by_cases c3 : inR x1 y1 x2 (y - 1) a b
      · rw [if_pos c3]; omega
      · rw [if_neg c3]; omega
theorem aS_tPick {f : Int → Int → Int} {x1 y1 x2 y2 k x y r w h : Int} (q : FC f x1 y1 x2 y2 k x y r) (r1 : 0 ≤ x1) (r3 : x2 ≤ w) (r4 : 0 ≤ y1) (r6 : y2 ≤ h) : aS (tPick f x1 y1 x2 x y r) 0 0 w h = aS f 0 0 w h - k := by
  obtain ⟨h1, h2, h3, h4, h5, h6, h7⟩ := q
  have e : aS f 0 0 w h = aS (fun a b => tPick f x1 y1 x2 x y r a b + ((if x ≤ a ∧ a ≤ x ∧ y ≤ b ∧ b ≤ y then (fun _ _ => r) a b else 0) + ((if x1 ≤ a ∧ a ≤ x - 1 ∧ y ≤ b ∧ b ≤ y then f a b else 0) + (if x1 ≤ a ∧ a ≤ x2 ∧ y1 ≤ b ∧ b ≤ y - 1 then f a b else 0)))) 0 0 w h := by
    refine aS_congr (fun a b _ _ _ _ => ?_)
    unfold tPick
    by_cases c : inR x y x y a b
    · have e1 : a = x := by omega
      have e2 : b = y := by omega
      subst e1 e2
      rw [if_pos c, if_pos c, if_neg (by omega), if_neg (by omega)]
      show f a b = f a b - r + (r + (0 + 0))
      omega
    · rw [if_neg c, if_neg c]
      by_cases c2 : inR x1 y (x - 1) y a b
      · rw [if_pos c2, if_pos c2, if_neg (by omega)]
        omega
      · rw [if_neg c2, if_neg c2]
        by_cases c3 : inR x1 y1 x2 (y - 1) a b
        · rw [if_pos c3, if_pos c3]; omega
        · rw [if_neg c3, if_neg c3]; omega
  rw [e, aS_add, aS_add, aS_add, aS_in, aS_in, aS_in]
  have m1 : max x 0 = x := by omega
  have m2 : max y 0 = y := by omega
  have m3 : min x w = x := by omega
  have m4 : min y h = y := by omega
  have m5 : max x1 0 = x1 := by omega
  have m6 : max y1 0 = y1 := by omega
  have m7 : min (x - 1) w = x - 1 := by omega
  have m8 : min x2 w = x2 := by omega
  have m9 : min (y - 1) h = y - 1 := by omega
  rw [m1, m2, m3, m4, m5, m6, m7, m8, m9, aS_one]
  have s3 : aS f x1 y (x - 1) y = dS (fun x => f x y) x1 (x - 1) := dS_one (fun y => dS (fun x => f x y) x1 (x - 1)) y
  rw [s3]
  omega
end
