/-! THE SYSTEM LOCATES A UNIT -/
def idn (u : Int → Int → Int) : Int → Int → Int := fun j i => if 0 < u j i then 1 else 0
theorem idn_in (u : Int → Int → Int) (j i : Int) : 0 ≤ idn u j i ∧ idn u j i ≤ 1 := by
  unfold idn
  split <;> omega
theorem fu_id {F : AF} {c k : Nat} {z : Int} (h : z = F c k) : fu F c k z = F := by
  funext a b
  simp only [fu]
  by_cases w : a = c ∧ b = k
  · rw [if_pos w, h, w.1, w.2]
  · rw [if_neg w]
theorem fu_fu {F : AF} {c k : Nat} {z z' : Int} : fu (fu F c k z) c k z' = fu F c k z' := by
  funext a b
  simp only [fu]
  by_cases w : a = c ∧ b = k
  · rw [if_pos w, if_pos w]
  · rw [if_neg w, if_neg w, if_neg w]
theorem lineS_rw {F : AF} {G : AG} {q g b lo hi : Int} : lineS F G q g b lo hi = rwS (G (inn q + 1)) (F (inn q) 1) (uo G q g) lo hi b := rfl
theorem lineN_rw {F : AF} {G : AG} {q g b lo hi : Int} : lineN F G q g b lo hi = rwS (G (inn q + 1)) (F (inn q) 1) (idn (uo G q g)) lo hi b := by
  refine sI_congr (fun i _ _ => ?_)
  simp only [fN, idn]
  by_cases w : 0 < uo G q g b i
  · rw [if_pos w, if_pos w, Int.one_mul]
  · rw [if_neg w, if_neg w, Int.zero_mul]
theorem rwI_bd {ei : Int → Int} {ni w : Int} (s : Sq ei ni w) (u : Int → Int → Int) {il ih : Int} (i0 : 0 ≤ il) (i1 : il ≤ ih) (i2 : ih < w) (j : Int) : 0 ≤ rwS ei ni (idn u) il ih j ∧ rwS ei ni (idn u) il ih j ≤ ih - il + 1 := by
  have n1 := s.1
  constructor
  · exact sI_pos (fun i _ _ => Int.mul_nonneg (idn_in u j i).1 (ov_pos _ _ _ _))
  · rw [← sI_ovn s.2.2.2 (by omega) (by rw [s.2.1]; exact i0) i1 (by rw [s.2.2.1]; exact i2)]
    refine sI_le (fun i _ _ => ?_)
    have a := idn_in u j i
    have b := ov_pos (ei i) (ei (i + 1)) il ih
    have := mul_bd (a := idn u j i) (b := ov (ei i) (ei (i + 1)) il ih) (A := 1) (B := ov (ei i) (ei (i + 1)) il ih) a.1 a.2 b (Int.le_refl _)
    omega
theorem ok_setOuter {d : Nat} {S : AS} {F : AF} {G : AG} (hsh : ShC S) (q p : Int) {Q : AQ} (hq : Q none S (fu F 34 (if q = 0 then 5 else 4) p) G) : Ok d MX7_setOuter [vR 34, vI q, vI p] S F G Q := by
  refine ok_go rfl (by decide) (Nat.le_of_ble_eq_true rfl) (R_X7_setOuter_0 hsh ?_)
  unfold V_X7_setOuter_0
  refine ⟨fun w F1 e1 => ?_, fun w F1 e1 => ?_⟩
  · rw [if_neg w] at hq
    rw [e1]; exact hq
  · rw [if_pos w] at hq
    rw [e1]; exact hq
theorem ok_locateInLine {d : Nat} {S : AS} {F : AF} {G : AG} (hd : 1 ≤ d) (hsh : ShC S) (hc : CC F G) (hb : PBA F G 18) {q g b il ih k : Int} (q0 : 0 ≤ q) (q1 : q ≤ 1) (hg : -1 ≤ g) (hg2 : g ≤ 2) (h0 : 0 ≤ b) (h1 : b < F (out q) 1) (hl : 0 ≤ il) (hlh : il ≤ ih) (hh : ih < F (inn q) 2) (k1 : 1 ≤ k) (k2 : k ≤ rwS (G (inn q + 1)) (F (inn q) 1) (uo G q g) il ih b) (k3 : k ≤ 3000000000000000000) (rc0 : 0 ≤ F 34 7) (rc1 : F 34 7 ≤ 1000000000000) {Q : AQ} (hq : ∀ i m : Int, Loc (uo G q g b) (fun i => ov (G (inn q + 1) i) (G (inn q + 1) (i + 1)) il ih) (F (inn q) 1) k i m → Q (some (vI 1)) S (fu (fu (fu F 34 7 (F 34 7 + sI (fun i => idn (uo G q g) b i * ov (G (inn q + 1) i) (G (inn q + 1) (i + 1)) il ih) i + ((m - 1) / uo G q g b i + 1))) 34 6 (uo G q g b i * ((m - 1) / uo G q g b i + 1) - m)) 34 (if q = 0 then 4 else 5) (max (G (inn q + 1) i) il + (m - 1) / uo G q g b i)) G) : Ok d MX7_locateInLine [vR 34, vI g, vI q, vI b, vJ k, vI il] S F G Q := by
  have hin := co_inn hc q
  have hou := co_out hc q
  have hin4 : CO F G (inn q) 104 := co_up hin (by omega)
  have o48 := hou.2.1
  have hk := at_inn hsh q
  have hne := inn_ne q
  obtain ⟨c1, c2, c3, c4, c5, c6, c7⟩ := id hin
  have sq := sq_co hin
  have p1 := cb_spec hin4 (p := il) hl
  have p2 := cb_spec hin4 (p := ih) (by omega)
  have p1' := p1.2.2.2 (by omega)
  have p2' := p2.2.2.2 hh
  have m1 := cb_mono hin4 hl hlh hh
  have z1 : ∀ i : Int, 0 ≤ i → i < cb F G (inn q) il → ov (G (inn q + 1) i) (G (inn q + 1) (i + 1)) il ih = 0 := fun i i0 i1 => ov_lo c7 i0 i1 (by omega) p1.2.2.1
  have z2 : ∀ i : Int, cb F G (inn q) ih + 1 ≤ i → i < F (inn q) 1 → ov (G (inn q + 1) i) (G (inn q + 1) (i + 1)) il ih = 0 := fun i i0 i1 => ov_hi c7 (b := cb F G (inn q) ih) p2.1 (by omega) (by omega) p2'
  have lastS : sI (fun i => uo G q g b i * ov (G (inn q + 1) i) (G (inn q + 1) (i + 1)) il ih) (cb F G (inn q) ih + 1) = rwS (G (inn q + 1)) (F (inn q) 1) (uo G q g) il ih b := (sI_end (by omega) (by omega) (fun i i0 i1 => by rw [z2 i i0 i1, Int.mul_zero])).symm
  rw [sI_1 _ p2.1] at lastS
  refine ok_go rfl (by decide) (Nat.le_of_ble_eq_true rfl) (R_X7_locateInLine_0 hsh ?_)
  unfold V_X7_locateInLine_0
  refine ⟨hd, _, pu_inner hsh q, hk, _, pu_bandOf hk hin4 hl, ?_⟩
  have st : Go d MX7_locateInLine 20 [some (vR 34), some (vI g), some (vI q), some (vI b), some (vJ k), none, some (vI il), some (vR (inn q)), some (vJ k), none, some (vI (cb F G (inn q) il)), none, none, none, none, none, none, none] [] S (fu F 34 7 (F 34 7 + sI (fun i => idn (uo G q g) b i * ov (G (inn q + 1) i) (G (inn q + 1) (i + 1)) il ih) (cb F G (inn q) il))) G Q := by
    refine up_ind (α := Int) (cb F G (inn q) ih) (fun i m => cb F G (inn q) il ≤ i ∧ i ≤ cb F G (inn q) ih ∧ m = k - sI (fun i => uo G q g b i * ov (G (inn q + 1) i) (G (inn q + 1) (i + 1)) il ih) i ∧ 1 ≤ m) (fun i m => Go d MX7_locateInLine 20 [some (vR 34), some (vI g), some (vI q), some (vI b), some (vJ k), none, some (vI il), some (vR (inn q)), some (vJ m), none, some (vI i), none, none, none, none, none, none, none] [] S (fu F 34 7 (F 34 7 + sI (fun i => idn (uo G q g) b i * ov (G (inn q + 1) i) (G (inn q + 1) (i + 1)) il ih) i)) G Q) ?_ (fun i m hI hi => absurd hI.2.1 hi) _ _ ⟨Int.le_refl _, m1, ?_, k1⟩
    · rintro i m ⟨i0, i1, em, m1'⟩ - ih2
      have i00 : 0 ≤ i := by omega
      have iN : i < F (inn q) 1 := by omega
      have ub := uo_in hb (q := q) (b := b) (i := i) hg hg2 h0 h1 i00 iN
      have f1 := co_in hin (i := i) i00 (by omega)
      have f2 := co_in hin (i := i + 1) (by omega) (by omega)
      have f3 := c7 i i00 iN
      have r1 := rise_le c7 (i := cb F G (inn q) il + 1) (j := i + 1) (by omega) (by omega) (by omega)
      have im := ov_mid c7 (i := i) (b := cb F G (inn q) il) (b2 := cb F G (inn q) ih) p1.1 i0 i1 p2.2.1 p1' p2.2.2.1 hlh
      have ssu := sI_1 (fun i => uo G q g b i * ov (G (inn q + 1) i) (G (inn q + 1) (i + 1)) il ih) i00
      have ssn := sI_1 (fun i => idn (uo G q g) b i * ov (G (inn q + 1) i) (G (inn q + 1) (i + 1)) il ih) i00
      have spu := sI_pos (f := fun i => uo G q g b i * ov (G (inn q + 1) i) (G (inn q + 1) (i + 1)) il ih) (n := i) (fun a a0 a1 => Int.mul_nonneg (uo_in hb (q := q) (b := b) (i := a) hg hg2 h0 h1 a0 (by omega)).1 (ov_pos _ _ _ _))
      have spn := sI_pos (f := fun i => idn (uo G q g) b i * ov (G (inn q + 1) i) (G (inn q + 1) (i + 1)) il ih) (n := i) (fun a a0 a1 => Int.mul_nonneg (idn_in _ _ _).1 (ov_pos _ _ _ _))
      have rb := rwI_bd sq (uo G q g) hl hlh hh b
      have sb := sI_part (f := fun i => idn (uo G q g) b i * ov (G (inn q + 1) i) (G (inn q + 1) (i + 1)) il ih) (n := F (inn q) 1) (m := i) i00 (by omega) (fun a a0 a1 => Int.mul_nonneg (idn_in _ _ _).1 (ov_pos _ _ _ _))
      have sb' : sI (fun i => idn (uo G q g) b i * ov (G (inn q + 1) i) (G (inn q + 1) (i + 1)) il ih) i ≤ rwS (G (inn q + 1)) (F (inn q) 1) (idn (uo G q g)) il ih b := sb
      -- the band of the last cell has enough
      have last : i = cb F G (inn q) ih → m ≤ uo G q g b i * ov (G (inn q + 1) i) (G (inn q + 1) (i + 1)) il ih := by
        intro e
        rw [← e] at lastS
        omega
      -- before it all its cells count
      have full : i < cb F G (inn q) ih → G (inn q + 1) (i + 1) - max il (G (inn q + 1) i) = ov (G (inn q + 1) i) (G (inn q + 1) (i + 1)) il ih := by
        intro e
        have r2 := rise_le c7 (i := i + 1) (j := cb F G (inn q) ih) (by omega) (by omega) (by omega)
        rw [← im.1]
        omega
      have ovle : ov (G (inn q + 1) i) (G (inn q + 1) (i + 1)) il ih ≤ G (inn q + 1) (i + 1) - max il (G (inn q + 1) i) := by
        rw [← im.1]
        omega
      have mbd := mul_bd (a := uo G q g b i) (b := G (inn q + 1) (i + 1) - max il (G (inn q + 1) i)) (A := 1000000000000) (B := 10000) ub.1 ub.2 (by omega) (by omega)
      have upos : 0 ≤ uo G q g b i * ov (G (inn q + 1) i) (G (inn q + 1) (i + 1)) il ih := Int.mul_nonneg ub.1 (ov_pos _ _ _ _)
      have mle : uo G q g b i * ov (G (inn q + 1) i) (G (inn q + 1) (i + 1)) il ih ≤ uo G q g b i * (G (inn q + 1) (i + 1) - max il (G (inn q + 1) i)) := Int.mul_le_mul_of_nonneg_left ovle ub.1
      have hF7 : fu F 34 7 (F 34 7 + sI (fun i => idn (uo G q g) b i * ov (G (inn q + 1) i) (G (inn q + 1) (i + 1)) il ih) i) 34 7 = F 34 7 + sI (fun i => idn (uo G q g) b i * ov (G (inn q + 1) i) (G (inn q + 1) (i + 1)) il ih) i := fu_s
      have hFi : fu F 34 7 (F 34 7 + sI (fun i => idn (uo G q g) b i * ov (G (inn q + 1) i) (G (inn q + 1) (i + 1)) il ih) i) (inn q) = F (inn q) := fu_row hne
      -- no hit
      have skip' : i < cb F G (inn q) ih → uo G q g b i * ov (G (inn q + 1) i) (G (inn q + 1) (i + 1)) il ih < m → ∀ x y : Int, x = max il (G (inn q + 1) i) → y = G (inn q + 1) (i + 1) - x → V_X7_locateInLine_96 d S (fu F 34 7 (F 34 7 + sI (fun i => idn (uo G q g) b i * ov (G (inn q + 1) i) (G (inn q + 1) (i + 1)) il ih) i)) G Q g q b k il (inn q) m i (uo G q g b i) x y := by
        intro e lt x y ex ey
        have fy : y = ov (G (inn q + 1) i) (G (inn q + 1) (i + 1)) il ih := by rw [ey, ex]; exact full e
        unfold V_X7_locateInLine_96
        rw [fy, hF7]
        have go : ∀ s : Int, s = idn (uo G q g) b i * ov (G (inn q + 1) i) (G (inn q + 1) (i + 1)) il ih → 0 ≤ s → s ≤ 10000 → ∀ x3 : Int, x3 = m - uo G q g b i * ov (G (inn q + 1) i) (G (inn q + 1) (i + 1)) il ih → V_X7_locateInLine_124 d S (fu F 34 7 (F 34 7 + sI (fun i => idn (uo G q g) b i * ov (G (inn q + 1) i) (G (inn q + 1) (i + 1)) il ih) i)) G Q g q b k il (inn q) x3 i (uo G q g b i) x (ov (G (inn q + 1) i) (G (inn q + 1) (i + 1)) il ih) s (F 34 7 + sI (fun i => idn (uo G q g) b i * ov (G (inn q + 1) i) (G (inn q + 1) (i + 1)) il ih) i) := by
          intro s es s0 s1 x3 e3
          unfold V_X7_locateInLine_124
          refine ⟨by omega, fun F2 e2 => ⟨by omega, ?_⟩⟩
          have := ih2 x3 ⟨by omega, by omega, by rw [e3, ssu]; omega, by omega⟩
          rw [ssn] at this
          rw [e2, fu_fu, es, Int.add_assoc]
          exact this
        refine ⟨by omega, by omega, fun x3 e3 => ⟨fun u => go _ ?_ (by omega) (by omega) x3 e3, fun u => go 0 ?_ (by omega) (by omega) x3 e3⟩⟩
        · unfold idn
          rw [if_pos (by omega), Int.one_mul]
        · unfold idn
          rw [if_neg (by omega), Int.zero_mul]
      refine R_X7_locateInLine_20 hsh hk ?_
      unfold V_X7_locateInLine_20
      rw [hFi]
      refine ⟨fun y => absurd y (by omega), fun _ => ⟨hd, _, pu_field hsh h0 (by omega) i00 (by omega), _, pu_uo hsh hc hb hg hg2 h0 h1 i00 iN, i00, by omega, fun x16 e16 => ⟨by omega, by omega, by omega, by omega, fun x21 e21 => ?_⟩⟩⟩
      have e21' : x21 = G (inn q + 1) (i + 1) - max il (G (inn q + 1) i) := by rw [e21, e16]
      refine ⟨fun u => ?_, fun u => ?_⟩
      · have u0 : uo G q g b i = 0 := by omega
        have lt : uo G q g b i * ov (G (inn q + 1) i) (G (inn q + 1) (i + 1)) il ih < m := by rw [u0, Int.zero_mul]; omega
        have ne : i < cb F G (inn q) ih := by
          by_cases e : i = cb F G (inn q) ih
          · have := last e
            omega
          · omega
        exact skip' ne lt x16 x21 e16 e21
      · rw [e21']
        refine ⟨by omega, fun y => ?_, fun y => ?_⟩
        · have hit : m ≤ uo G q g b i * ov (G (inn q + 1) i) (G (inn q + 1) (i + 1)) il ih := by
            by_cases e : i = cb F G (inn q) ih
            · exact last e
            · rw [← full (by omega)]; exact y
          obtain ⟨E1, E2, E3, E4, E5, E6, E7, E8, E9⟩ := dv ub.1 m1' hit
          rw [tdiv_pos (by omega)]
          have cm := Int.mul_comm (uo G q g b i) ((m - 1) / uo G q g b i)
          have em1 : uo G q g b i * ((m - 1) / uo G q g b i + 1) = uo G q g b i * ((m - 1) / uo G q g b i) + uo G q g b i := by rw [Int.mul_add, Int.mul_one]
          have e12 : ov (G (inn q + 1) i) (G (inn q + 1) (i + 1)) il ih ≤ 10000 := by omega
          refine ⟨by omega, by omega, by omega, fun x26 e26 => ?_⟩
          rw [hF7, e26]
          refine ⟨by omega, by omega, fun F29 e29 => ⟨by rw [em1, cm]; omega, by rw [em1, cm]; omega, fun F32 e32 => ⟨by omega, by omega, by omega, ok_setOuter hsh _ _ ⟨rfl, rfl, ?_⟩⟩⟩⟩
          have := hq i m ⟨i00, iN, em, m1', hit⟩
          have e5 : (if (1 - q = 0) then 5 else 4 : Nat) = (if q = 0 then 4 else 5) := by
            by_cases w : q = 0
            · rw [if_neg (by omega), if_pos w]
            · rw [if_pos (by omega), if_neg w]
          have mc : max il (G (inn q + 1) i) = max (G (inn q + 1) i) il := by omega
          rw [e5, e32, e29, fu_fu, e16, mc]
          exact this
        · have lt : uo G q g b i * ov (G (inn q + 1) i) (G (inn q + 1) (i + 1)) il ih < m := by omega
          have ne : i < cb F G (inn q) ih := by
            by_cases e : i = cb F G (inn q) ih
            · have := last e
              omega
            · omega
          rw [← e21']
          exact skip' ne lt x16 x21 e16 e21
    · rw [sI_beg (fun i i0 i1 => by rw [z1 i i0 i1, Int.mul_zero])]
      omega
  rw [fu_id (by rw [sI_beg (fun i i0 i1 => by rw [z1 i i0 i1, Int.mul_zero])]; omega)] at st
  exact st
