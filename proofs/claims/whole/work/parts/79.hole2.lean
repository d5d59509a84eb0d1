/-! HOLES: the sweep -/
def Slf (cl ex : Int → Int) (i left top : Int) : Prop := ∃ a : Int, 0 ≤ a ∧ a ≤ i ∧ left = ex a ∧ ∀ c : Int, a ≤ c → c < i → cl c < top
theorem ent_0 {G : AG} {x t : Int} : ¬ Ent G 0 x t := by
  rintro ⟨k, k0, k1, -⟩
  omega
theorem ok_takeHolesAbove {d : Nat} {S : AS} {F : AF} {G : AG} (hd : 2 ≤ d) (hsh : ShC S) (hx : CO F G 4 48) {b : Int} (b0 : 0 ≤ b) (b1 : b < 10000) (hcl : ∀ c : Int, 0 ≤ c → c < F 4 1 → 0 ≤ G 36 c) {Q : AQ} (hq : ∀ (F' : AF) (G' : AG), Same2 F F' → (∀ c : Nat, c ≠ 37 → c ≠ 38 → G' c = G c) → Imp F F' → HAlt F F' (G 36) (G 5) (F 4 1) b → (∀ l r t : Int, 0 ≤ l → l ≤ r → r < F 4 1 → 0 ≤ t → t ≤ b → Clr (G 36) l r t → Geq F' ((G 5 (r + 1) - 1 - G 5 l + 1) * (b - t + 1)) t (G 5 l) b) → Q none S F' G') : Ok d MX7_takeHolesAbove [vR 34, vI b] S F G Q := by
  obtain ⟨x1, x2, x3, x4, x5, x6, x7⟩ := id hx
  have x7' : Rise (G 5) (F 4 1) := x7
  refine ok_go rfl (by decide) (Nat.le_of_ble_eq_true rfl) (R_X7_takeHolesAbove_0 hsh ?_)
  unfold V_X7_takeHolesAbove_0
  refine up_ind (α := AF × AG × Int) (F 4 1) (fun i A => 0 ≤ i ∧ i ≤ F 4 1 + 1 ∧ 0 ≤ A.2.2 ∧ A.2.2 ≤ i ∧ Same2 F A.1 ∧ (∀ c : Nat, c ≠ 37 → c ≠ 38 → A.2.1 c = G c) ∧ Imp F A.1 ∧ HAlt F A.1 (G 36) (G 5) (F 4 1) b ∧ (i ≤ F 4 1 → Stk A.2.1 (G 36) (G 5) (F 4 1) b i A.2.2 ∧ Cur A.2.1 (G 36) (G 5) b i A.2.2) ∧ (¬ i ≤ F 4 1 → A.2.2 = 0) ∧ Cov A.1 A.2.1 (G 36) (G 5) (F 4 1) b i A.2.2) (fun i A => Go d MX7_takeHolesAbove 16 [some (vR 34), some (vI b), some (vR 4), some (vI A.2.2), some (vI i), none, none, none] [] S A.1 A.2.1 Q) ?_ ?_ 0 (F, G, 0) ⟨by omega, by omega, by show (0 : Int) ≤ 0; omega, by show (0 : Int) ≤ 0; omega, fun _ _ _ => rfl, fun _ _ _ => rfl, fun _ _ _ _ h => h, Or.inl ⟨rfl, rfl⟩, fun _ => ⟨⟨fun k k0 k1 => absurd k1 (by show ¬ k < 0; omega), fun k m k0 km mB => absurd mB (by show ¬ m < 0; omega)⟩, fun l t l0 l1 => absurd l1 (by omega)⟩, fun h => absurd h (by omega), fun l r t l0 lr r1 => absurd r1 (by omega)⟩
  · rintro i ⟨F1, G1, B⟩ ⟨i0, i1, B0, B1, s1, u1, im1, ha1, st1, -, cov1⟩ hi ih
    dsimp only at B0 B1 s1 u1 im1 ha1 st1 cov1 ⊢
    obtain ⟨⟨stk1, stk2⟩, cur1⟩ := st1 hi
    have g36 : G1 36 = G 36 := u1 36 (by decide) (by decide)
    have g5 : G1 (4 + 1) = G 5 := u1 5 (by decide) (by decide)
    have f4 : F1 4 = F 4 := s1 4 (by decide) (by decide)
    have xi := co_in hx (i := i) i0 hi
    have xi' : 0 ≤ G 5 i ∧ G 5 i ≤ F 4 2 := xi
    have exl : ∀ k : Int, 0 ≤ k → k < B → G1 37 k < G 5 i ∧ 0 ≤ G1 37 k := by
      intro k k0 k1
      obtain ⟨⟨a, a0, a1, ae, -⟩, -⟩ := stk1 k k0 k1
      have q1 := rise_lt x7' a0 a1 hi
      have q2 := co_in hx (i := a) a0 (by omega)
      have q2' : 0 ≤ G 5 a ∧ G 5 a ≤ F 4 2 := q2
      rw [ae]
      exact ⟨q1, q2'.1⟩
    -- the column's top is known
    have main : ∀ top : Int, ((i < F 4 1 ∧ top = G 36 i) ∨ (i = F 4 1 ∧ top = b + 1)) → V_X7_takeHolesAbove_47 d S F1 G1 Q b 4 B i top := by
      intro top ht
      have top0 : 0 ≤ top := by
        rcases ht with ⟨h1, h2⟩ | ⟨h1, h2⟩
        · rw [h2]; exact hcl i i0 h1
        · omega
      -- the end of a column
      have next : ∀ (F2 : AF) (G4 : AG) (B2 : Int) (left s : Int), 0 ≤ B2 → B2 ≤ i + 1 → Same2 F F2 → (∀ c : Nat, c ≠ 37 → c ≠ 38 → G4 c = G c) → Imp F F2 → HAlt F F2 (G 36) (G 5) (F 4 1) b → (i + 1 ≤ F 4 1 → Stk G4 (G 36) (G 5) (F 4 1) b (i + 1) B2 ∧ Cur G4 (G 36) (G 5) b (i + 1) B2) → (¬ i + 1 ≤ F 4 1 → B2 = 0) → Cov F2 G4 (G 36) (G 5) (F 4 1) b (i + 1) B2 → V_X7_takeHolesAbove_174 d S F2 G4 Q b 4 B2 i top left s := by
        intro F2 G4 B2 left s p1 p2 p3 p4 p5 p6 p7 p8 p9
        unfold V_X7_takeHolesAbove_174
        exact ⟨by omega, ih (F2, G4, B2) ⟨by omega, by omega, p1, p2, p3, p4, p5, p6, p7, p8, p9⟩⟩
      have fin111 : ∀ (B' left : Int) (F2 : AF), 0 ≤ B' → B' ≤ B → left ≤ G 5 i → Slf (G 36) (G 5) i left top → (∀ k : Int, B' ≤ k → k < B → left ≤ G1 37 k ∧ G1 38 k < top) → (∀ k : Int, 0 ≤ k → k < B' → G1 37 k ≤ left) → Same2 F F2 → Imp F F2 → HAlt F F2 (G 36) (G 5) (F 4 1) b → Cov F2 G1 (G 36) (G 5) (F 4 1) b i B' → (0 < B' → top ≤ G1 38 (B' - 1)) → V_X7_takeHolesAbove_111 d S F2 G1 Q b 4 B' i top left := by
        intro B' left F2 c0 c1 c2 c3 c4 c5 s2 im2 ha2 cov2 hge
        have geT : ∀ k : Int, 0 ≤ k → k < B' → top ≤ G1 38 k := by
          intro k k0 k1
          have q := hge (by omega)
          by_cases w : k = B' - 1
          · rw [w]; exact q
          · have := (stk2 k (B' - 1) k0 (by omega) (by omega)).2 (by omega)
            omega
        -- no hole can end here any more
        have dead : b < top → ∀ s, V_X7_takeHolesAbove_174 d S F2 G1 Q b 4 B' i top left s := by
          intro hb s
          have z : B' = 0 := by
            by_cases w : 0 < B'
            · have q := hge w
              have q2 := (stk1 (B' - 1) (by omega) (by omega)).2.2.1
              omega
            · omega
          subst z
          refine next F2 G1 0 left s (by omega) (by omega) s2 u1 im2 ha2 (fun hn => ⟨⟨fun k k0 k1 => absurd k1 (by omega), fun k m k0 km mB => absurd mB (by omega)⟩, fun l t l0 l1 t0 tb hC => ?_⟩) (fun _ => rfl) (fun l r t l0 lr r1 rn t0 tb hC => ?_)
          · have e : i + 1 - 1 = i := by omega
            rw [e] at hC
            have q := hC i (by omega) (by omega)
            rcases ht with ⟨h1, h2⟩ | ⟨h1, h2⟩ <;> omega
          · by_cases w : r = i
            · have q := hC i (by omega) (by omega)
              rcases ht with ⟨h1, h2⟩ | ⟨h1, h2⟩ <;> omega
            · exact cov2 l r t l0 lr (by omega) rn t0 tb hC
        -- those that go on
        have stay : i < F 4 1 → ∀ k : Int, 0 ≤ k → k < B' → Sok (G 36) (G 5) (i + 1) (G1 37 k) (G1 38 k) := by
          intro hn k k0 k1
          obtain ⟨⟨a, a0, a1, ae, ac⟩, -⟩ := stk1 k k0 (by omega)
          refine ⟨a, a0, by omega, ae, fun c d0 d1 => ?_⟩
          by_cases w : c = i
          · have q := geT k k0 k1
            rw [w]
            rcases ht with ⟨h1, h2⟩ | ⟨h1, h2⟩ <;> omega
          · exact ac c d0 (by omega)
        have push : B' < 48 → ¬ b < top → (0 < B' → ¬ G1 38 (B' - 1) = top) → ∀ s, V_X7_takeHolesAbove_174 d S F2 (gu (gu G1 37 B' left) 38 B' top) Q b 4 (B' + 1) i top left s := by
          intro h48 hb hne s
          have hn : i < F 4 1 := by rcases ht with ⟨h1, h2⟩ | ⟨h1, h2⟩ <;> omega
          have et : top = G 36 i := by rcases ht with ⟨h1, h2⟩ | ⟨h1, h2⟩ <;> omega
          have v37 : ∀ k : Int, k ≠ B' → (gu (gu G1 37 B' left) 38 B' top) 37 k = G1 37 k := fun k hk => by rw [gu_c (by decide), gu_i hk]
          have v38 : ∀ k : Int, k ≠ B' → (gu (gu G1 37 B' left) 38 B' top) 38 k = G1 38 k := fun k hk => by rw [gu_i hk, gu_c (by decide)]
          have n37 : (gu (gu G1 37 B' left) 38 B' top) 37 B' = left := by rw [gu_c (by decide), gu_s]
          have n38 : (gu (gu G1 37 B' left) 38 B' top) 38 B' = top := gu_s
          generalize hG4 : gu (gu G1 37 B' left) 38 B' top = G4 at *
          have old : ∀ x t : Int, Ent G1 B' x t → Ent G4 (B' + 1) x t := by
            rintro x t ⟨k, k0, k1, k2, k3⟩
            exact ⟨k, k0, by omega, by rw [v37 k (by omega)]; exact k2, by rw [v38 k (by omega)]; exact k3⟩
          have new : ∀ x t : Int, left ≤ x → top ≤ t → Ent G4 (B' + 1) x t := fun x t h1 h2 => ⟨B', c0, by omega, by rw [n37]; exact h1, by rw [n38]; exact h2⟩
          have curn : Cur G4 (G 36) (G 5) b (i + 1) (B' + 1) := by
            intro l t l0 l1 t0 tb hC
            have e : i + 1 - 1 = i := by omega
            rw [e] at hC
            have tt := hC i (by omega) (by omega)
            by_cases w : l = i
            · exact new _ _ (by rw [w]; exact c2) (by omega)
            · obtain ⟨k, k0, k1, k2, k3⟩ := cur1 l t l0 (by omega) t0 tb (fun c d0 d1 => hC c d0 (by omega))
              by_cases w2 : k < B'
              · exact old _ _ ⟨k, k0, w2, k2, k3⟩
              · have q := c4 k (by omega) k1
                exact new _ _ (by omega) (by omega)
          refine next F2 G4 (B' + 1) left s (by omega) (by omega) s2 (fun c h1 h2 => by rw [← hG4, gu_row h2, gu_row h1]; exact u1 c h1 h2) im2 ha2 (fun _ => ⟨⟨fun k k0 k1 => ?_, fun k m k0 km mB => ?_⟩, curn⟩) (fun h => absurd h (by omega)) (fun l r t l0 lr r1 rn t0 tb hC => ?_)
          · by_cases w : k = B'
            · rw [w, n37, n38]
              obtain ⟨a, a0, a1, ae, ac⟩ := c3
              refine ⟨⟨a, a0, by omega, ae, fun c d0 d1 => ?_⟩, top0, by omega, i, i0, hn, et⟩
              by_cases w2 : c = i
              · rw [w2, et]; exact Int.le_refl _
              · exact Int.le_of_lt (ac c d0 (by omega))
            · rw [v37 k w, v38 k w]
              exact ⟨stay hn k k0 (by omega), (stk1 k k0 (by omega)).2⟩
          · by_cases w : m = B'
            · rw [w, n37, n38]
              by_cases w2 : k = B'
              · rw [w2, n37]
                exact ⟨Int.le_refl _, fun z => absurd z (by omega)⟩
              · rw [v37 k w2, v38 k w2]
                refine ⟨c5 k k0 (by omega), fun _ => ?_⟩
                have q1 := geT (B' - 1) (by omega) (by omega)
                have q2 := hne (by omega)
                by_cases w3 : k = B' - 1
                · rw [w3]; omega
                · have := (stk2 k (B' - 1) k0 (by omega) (by omega)).2 (by omega)
                  omega
            · rw [v37 k (by omega), v38 k (by omega), v37 m w, v38 m w]
              exact stk2 k m k0 km (by omega)
          · by_cases w : r = i
            · subst w
              refine Or.inl (curn l t l0 (by omega) t0 tb ?_)
              have e : r + 1 - 1 = r := by omega
              rw [e]; exact hC
            · rcases cov2 l r t l0 lr (by omega) rn t0 tb hC with z | z
              · exact Or.inl (old _ _ z)
              · exact Or.inr z
        have same : 0 < B' → G1 38 (B' - 1) = top → ¬ b < top → ∀ s, V_X7_takeHolesAbove_174 d S F2 G1 Q b 4 B' i top left s := by
          intro hB he hb s
          have hn : i < F 4 1 := by rcases ht with ⟨h1, h2⟩ | ⟨h1, h2⟩ <;> omega
          have et : top = G 36 i := by rcases ht with ⟨h1, h2⟩ | ⟨h1, h2⟩ <;> omega
          have curn : Cur G1 (G 36) (G 5) b (i + 1) B' := by
            intro l t l0 l1 t0 tb hC
            have e : i + 1 - 1 = i := by omega
            rw [e] at hC
            have tt := hC i (by omega) (by omega)
            by_cases w : l = i
            · have q := exl (B' - 1) (by omega) (by omega)
              exact ⟨B' - 1, by omega, by omega, by rw [w]; omega, by omega⟩
            · obtain ⟨k, k0, k1, k2, k3⟩ := cur1 l t l0 (by omega) t0 tb (fun c d0 d1 => hC c d0 (by omega))
              by_cases w2 : k < B'
              · exact ⟨k, k0, w2, k2, k3⟩
              · have q := (stk2 (B' - 1) k (by omega) (by omega) k1).1
                exact ⟨B' - 1, by omega, by omega, by omega, by omega⟩
          refine next F2 G1 B' left s c0 (by omega) s2 u1 im2 ha2 (fun _ => ⟨⟨fun k k0 k1 => ⟨stay hn k k0 k1, (stk1 k k0 (by omega)).2⟩, fun k m k0 km mB => stk2 k m k0 km (by omega)⟩, curn⟩) (fun h => absurd h (by omega)) (fun l r t l0 lr r1 rn t0 tb hC => ?_)
          by_cases w : r = i
          · subst w
            refine Or.inl (curn l t l0 (by omega) t0 tb ?_)
            have e : r + 1 - 1 = r := by omega
            rw [e]; exact hC
          · exact cov2 l r t l0 lr (by omega) rn t0 tb hC
        have v133 : (0 < B' → ¬ G1 38 (B' - 1) = top) → V_X7_takeHolesAbove_132 d S F2 G1 Q b 4 B' i top left := by
          intro hne
          unfold V_X7_takeHolesAbove_132 V_X7_takeHolesAbove_133
          refine ⟨fun y => dead y _, fun y => ⟨fun z => absurd rfl z, fun _ => ⟨fun z => ?_, fun z => ⟨c0, by omega, fun G3 e3 G4 e4 => ⟨by omega, ?_⟩⟩⟩⟩⟩
          · exfalso
            rcases ht with ⟨h1, h2⟩ | ⟨h1, h2⟩ <;> omega
          · rw [e4, e3]
            exact push (by omega) y hne _
        unfold V_X7_takeHolesAbove_111
        refine ⟨fun y => v133 (fun z => absurd z (by omega)), fun y => ⟨by omega, by omega, by omega, fun z => v133 (fun _ => z), fun z => ?_⟩⟩
        unfold V_X7_takeHolesAbove_133
        exact ⟨fun y => dead y _, fun y2 => ⟨fun _ => same (by omega) z y2 _, fun z2 => absurd z2 (by decide)⟩⟩
      unfold V_X7_takeHolesAbove_47
      rw [g5]
      refine ⟨i0, by omega, fun left0 eL => ?_⟩
      refine down_ind (α := AF × Int) 1 (fun B' A => 0 ≤ B' ∧ B' ≤ B ∧ A.2 ≤ G 5 i ∧ Slf (G 36) (G 5) i A.2 top ∧ (∀ k : Int, B' ≤ k → k < B → A.2 ≤ G1 37 k ∧ G1 38 k < top) ∧ (∀ k : Int, 0 ≤ k → k < B' → G1 37 k ≤ A.2) ∧ Same2 F A.1 ∧ Imp F A.1 ∧ HAlt F A.1 (G 36) (G 5) (F 4 1) b ∧ Cov A.1 G1 (G 36) (G 5) (F 4 1) b i B') (fun B' A => Go d MX7_takeHolesAbove 58 [some (vR 34), some (vI b), some (vR 4), some (vI B'), some (vI i), some (vI top), some (vI A.2), none] [] S A.1 G1 Q) ?_ ?_ B (F1, left0) ⟨B0, by omega, by show left0 ≤ _; omega, ⟨i, i0, by omega, eL, fun c d0 d1 => absurd d1 (by omega)⟩, fun k k0 k1 => absurd k1 (by omega), fun k k0 k1 => by have := exl k k0 k1; show G1 37 k ≤ left0; omega, s1, im1, ha1, cov1⟩
      · rintro B' ⟨F2, left⟩ ⟨c0, c1, c2, c3, c4, c5, s2, im2, ha2, cov2⟩ hB ih2
        dsimp only at c2 c3 c4 c5 s2 im2 ha2 cov2 ⊢
        have e1 : B' + (-1) = B' - 1 := by omega
        obtain ⟨⟨a, a0, a1, ae, ac⟩, T0, T1, Tc⟩ := stk1 (B' - 1) (by omega) (by omega)
        have exk := exl (B' - 1) (by omega) (by omega)
        refine R_X7_takeHolesAbove_58 hsh (at_4 hsh) ?_
        unfold V_X7_takeHolesAbove_58
        rw [e1, g5]
        refine ⟨fun y => absurd y (by omega), fun _ => ⟨by omega, by omega, by omega, fun y => fin111 B' left F2 c0 c1 c2 c3 c4 c5 s2 im2 ha2 cov2 (fun _ => y), fun y => ⟨by omega, by omega, by omega, fun x7'' e7 => ⟨i0, by omega, by omega, by omega, ?_⟩⟩⟩⟩
        subst e7
        refine ok_takeHole (by omega) hsh exk.2 (by omega) (by omega) T0 (by omega) (by omega) (fun F3 s3 im3 gq3 alt3 => ⟨rfl, rfl, ih2 (F3, G1 37 (B' - 1)) ⟨by omega, by omega, by show G1 37 (B' - 1) ≤ _; omega, ⟨a, a0, by omega, ae, fun c d0 d1 => by have := ac c d0 d1; omega⟩, fun k k0 k1 => ?_, fun k k0 k1 => (stk2 k (B' - 1) k0 (by omega) (by omega)).1, fun c h1 h2 => (s3 c h1 h2).trans (s2 c h1 h2), fun a t l b h => im3 a t l b (im2 a t l b h), halt_tr ha2 ?_, fun l r t l0 lr r1 rn t0 tb hC => ?_⟩⟩)
        · by_cases w : k = B' - 1
          · rw [w]; exact ⟨Int.le_refl _, by omega⟩
          · have q := c4 k (by omega) k1
            have q2 := (stk2 (B' - 1) k (by omega) (by omega) k1).1
            exact ⟨q2, q.2⟩
        · show HAlt F2 F3 (G 36) (G 5) (F 4 1) b
          rcases alt3 with z | ⟨z1, z2, z3, z4, z5⟩
          · exact Or.inl z
          · refine Or.inr ⟨⟨a, i - 1, a0, by omega, by omega, by rw [z2]; exact ae, ?_, z5, by rw [z3]; exact T0, by rw [z3]; exact T1, by rw [z3]; exact Tc, fun c d0 d1 => by rw [z3]; exact ac c d0 (by omega)⟩, by rw [z1, z2, z3, z4, z5]⟩
            have e : i - 1 + 1 = i := by omega
            rw [z4, e]
        · rcases cov2 l r t l0 lr r1 rn t0 tb hC with ⟨k, k0, k1, k2, k3⟩ | z
          · by_cases w : k = B' - 1
            · subst w
              have q1 := rise_le x7' (i := r + 1) (j := i) (by omega) (by omega) hi
              have q2 := rise_lt x7' (i := l) (j := r + 1) l0 (by omega) (by omega)
              exact Or.inr (geq_in gq3 k2 (by omega) (by omega) k3 tb)
            · exact Or.inl ⟨k, k0, by omega, k2, k3⟩
          · exact Or.inr (im3 _ _ _ _ z)
      · rintro B' ⟨F2, left⟩ ⟨c0, c1, c2, c3, c4, c5, s2, im2, ha2, cov2⟩ hB
        dsimp only at c2 c3 c4 c5 s2 im2 ha2 cov2 ⊢
        refine R_X7_takeHolesAbove_58 hsh (at_4 hsh) ?_
        unfold V_X7_takeHolesAbove_58
        exact ⟨fun _ => fin111 B' left F2 c0 c1 c2 c3 c4 c5 s2 im2 ha2 cov2 (fun z => absurd z (by omega)), fun y => absurd y (by omega)⟩
    refine R_X7_takeHolesAbove_16 hsh (at_4 hsh) ?_
    unfold V_X7_takeHolesAbove_16
    rw [f4, g36]
    refine ⟨fun y => absurd y (by omega), fun _ => ⟨fun y => ⟨by omega, main _ (Or.inr ⟨by omega, rfl⟩)⟩, fun y => ⟨i0, by omega, main _ (Or.inl ⟨by omega, rfl⟩)⟩⟩⟩
  · rintro i ⟨F1, G1, B⟩ ⟨i0, i1, B0, B1, s1, u1, im1, ha1, -, z, cov1⟩ hi
    dsimp only at B0 B1 s1 u1 im1 ha1 z cov1 ⊢
    have f4 : F1 4 = F 4 := s1 4 (by decide) (by decide)
    have zB := z hi
    subst zB
    refine R_X7_takeHolesAbove_16 hsh (at_4 hsh) ?_
    unfold V_X7_takeHolesAbove_16
    rw [f4]
    refine ⟨fun _ => hq F1 G1 s1 u1 im1 ha1 (fun l r t l0 lr rn t0 tb hC => ?_), fun y => absurd y (by omega)⟩
    rcases cov1 l r t l0 lr (by omega) rn t0 tb hC with y | y
    · exact absurd y ent_0
    · exact y
