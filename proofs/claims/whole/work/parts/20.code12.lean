set_option maxRecDepth 50000 in
def V_law_2110 (d : Nat) (S : AS) (F : AF) (G : AG) (Q : AQ) (a0 : Nat) (a1 : Nat) (a2 : Nat) (a3 : Int) : Prop :=
  (r32 (a3 + 8)) ∧
  Go d Mlaw 18 [some (vR a0), some (vR a1), some (vR a2), some (vI (a3 + 8))] [] S F G Q
set_option maxRecDepth 50000 in
theorem R_law_2110 {d : Nat} {S : AS} {F : AF} {G : AG} {Q : AQ} {a0 : Nat} {a1 : Nat} {a2 : Nat} {a3 : Int} (h : V_law_2110 d S F G Q a0 a1 a2 a3) : Go d Mlaw 2110 [some (vR a0), some (vR a1), some (vR a2), some (vI a3)] [] S F G Q := by
  unfold V_law_2110 at h
  obtain ⟨q1, h⟩ := h
  refine go_iinc (show decode code 2110 = .ok (.iinc 3 8, 3) by decide +kernel) (by rfl) q1 (by decide) ?_
  show Go d Mlaw 2113 [some (vR a0), some (vR a1), some (vR a2), some (vI (a3 + 8))] [] S F G Q
  refine go_goto (tgt := 18) (show decode code 2113 = .ok (.goto (-2095), 3) by decide +kernel) (by decide) ?_
  exact h
set_option maxRecDepth 50000 in
def V_law_18 (d : Nat) (S : AS) (F : AF) (G : AG) (Q : AQ) (a0 : Nat) (a1 : Nat) (a2 : Nat) (a3 : Int) : Prop :=
  (r32 (((sL S : Int)) - 8)) ∧
  ((((sL S : Int)) - 8 < a3) →
    Q (some (vI 1)) S F G) ∧
  ((¬ ((sL S : Int)) - 8 < a3) →
    ((0 : Int) ≤ a3) ∧
    ((a3 : Int) < (sL S : Int)) ∧
    ((bAnd (sx S a3) 63 = 0) →
      (r32 (a3 + 1)) ∧
      ((0 : Int) ≤ a3 + 1) ∧
      ((a3 + 1 : Int) < (sL S : Int)) ∧
      (r32 (a3 + 2)) ∧
      ((0 : Int) ≤ a3 + 2) ∧
      ((a3 + 2 : Int) < (sL S : Int)) ∧
      (r32 (a3 + 3)) ∧
      ((0 : Int) ≤ a3 + 3) ∧
      ((a3 + 3 : Int) < (sL S : Int)) ∧
      (r32 (a3 + 4)) ∧
      ((0 : Int) ≤ a3 + 4) ∧
      ((a3 + 4 : Int) < (sL S : Int)) ∧
      (1 ≤ d) ∧
      (sK S a1 = 9) ∧
      Ok (d - 1) MX9_world [vR a1, vI (sx S (a3 + 1)), vI (sx S (a3 + 2)), vJ (jOr (jShl (sx S (a3 + 3)) 32) (jAnd (sx S (a3 + 4)) 4294967295))] S F G (fun w17 S18 F19 G20 =>
      ∃ z22 : Int, w17 = some (vJ z22) ∧
      (r32 (a3 + 1)) ∧
      ((0 : Int) ≤ a3 + 1) ∧
      ((a3 + 1 : Int) < (sL S18 : Int)) ∧
      (r32 (a3 + 2)) ∧
      ((0 : Int) ≤ a3 + 2) ∧
      ((a3 + 2 : Int) < (sL S18 : Int)) ∧
      (r32 (a3 + 3)) ∧
      ((0 : Int) ≤ a3 + 3) ∧
      ((a3 + 3 : Int) < (sL S18 : Int)) ∧
      (r32 (a3 + 4)) ∧
      ((0 : Int) ≤ a3 + 4) ∧
      ((a3 + 4 : Int) < (sL S18 : Int)) ∧
      (sK S18 a2 = 10) ∧
      Ok (d - 1) MX10_world [vR a2, vI (sx S18 (a3 + 1)), vI (sx S18 (a3 + 2)), vJ (jOr (jShl (sx S18 (a3 + 3)) 32) (jAnd (sx S18 (a3 + 4)) 4294967295))] S18 F19 G20 (fun w35 S36 F37 G38 =>
      ∃ z40 : Int, w35 = some (vJ z40) ∧
      ((z22 = z40) →
        V_law_2110 d S36 F37 G38 Q a0 a1 a2 a3) ∧
      ((¬ z22 = z40) →
        Q (some (vI 0)) S36 F37 G38)))) ∧
    ((bAnd (sx S a3) 63 = 1) →
      (r32 (a3 + 1)) ∧
      ((0 : Int) ≤ a3 + 1) ∧
      ((a3 + 1 : Int) < (sL S : Int)) ∧
      (r32 (a3 + 2)) ∧
      ((0 : Int) ≤ a3 + 2) ∧
      ((a3 + 2 : Int) < (sL S : Int)) ∧
      (r32 (a3 + 3)) ∧
      ((0 : Int) ≤ a3 + 3) ∧
      ((a3 + 3 : Int) < (sL S : Int)) ∧
      (r32 (a3 + 4)) ∧
      ((0 : Int) ≤ a3 + 4) ∧
      ((a3 + 4 : Int) < (sL S : Int)) ∧
      (r32 (a3 + 5)) ∧
      ((0 : Int) ≤ a3 + 5) ∧
      ((a3 + 5 : Int) < (sL S : Int)) ∧
      (r32 (a3 + 6)) ∧
      ((0 : Int) ≤ a3 + 6) ∧
      ((a3 + 6 : Int) < (sL S : Int)) ∧
      (1 ≤ d) ∧
      (sK S a1 = 9) ∧
      Ok (d - 1) MX9_add [vR a1, vI (sx S (a3 + 1)), vI (sx S (a3 + 2)), vI (sx S (a3 + 3)), vI (sx S (a3 + 4)), vI (sx S (a3 + 5)), vI (sx S (a3 + 6))] S F G (fun w60 S61 F62 G63 =>
      ∃ z65 : Int, w60 = some (vJ z65) ∧
      (r32 (a3 + 1)) ∧
      ((0 : Int) ≤ a3 + 1) ∧
      ((a3 + 1 : Int) < (sL S61 : Int)) ∧
      (r32 (a3 + 2)) ∧
      ((0 : Int) ≤ a3 + 2) ∧
      ((a3 + 2 : Int) < (sL S61 : Int)) ∧
      (r32 (a3 + 3)) ∧
      ((0 : Int) ≤ a3 + 3) ∧
      ((a3 + 3 : Int) < (sL S61 : Int)) ∧
      (r32 (a3 + 4)) ∧
      ((0 : Int) ≤ a3 + 4) ∧
      ((a3 + 4 : Int) < (sL S61 : Int)) ∧
      (r32 (a3 + 5)) ∧
      ((0 : Int) ≤ a3 + 5) ∧
      ((a3 + 5 : Int) < (sL S61 : Int)) ∧
      (r32 (a3 + 6)) ∧
      ((0 : Int) ≤ a3 + 6) ∧
      ((a3 + 6 : Int) < (sL S61 : Int)) ∧
      (sK S61 a2 = 10) ∧
      Ok (d - 1) MX10_add [vR a2, vI (sx S61 (a3 + 1)), vI (sx S61 (a3 + 2)), vI (sx S61 (a3 + 3)), vI (sx S61 (a3 + 4)), vI (sx S61 (a3 + 5)), vI (sx S61 (a3 + 6))] S61 F62 G63 (fun w84 S85 F86 G87 =>
      ∃ z89 : Int, w84 = some (vJ z89) ∧
      ((z65 = z89) →
        V_law_2110 d S85 F86 G87 Q a0 a1 a2 a3) ∧
      ((¬ z65 = z89) →
        Q (some (vI 0)) S85 F86 G87)))) ∧
    ((bAnd (sx S a3) 63 = 2) →
      (r32 (a3 + 1)) ∧
      ((0 : Int) ≤ a3 + 1) ∧
      ((a3 + 1 : Int) < (sL S : Int)) ∧
      (r32 (a3 + 2)) ∧
      ((0 : Int) ≤ a3 + 2) ∧
      ((a3 + 2 : Int) < (sL S : Int)) ∧
      (r32 (a3 + 3)) ∧
      ((0 : Int) ≤ a3 + 3) ∧
      ((a3 + 3 : Int) < (sL S : Int)) ∧
      (r32 (a3 + 4)) ∧
      ((0 : Int) ≤ a3 + 4) ∧
      ((a3 + 4 : Int) < (sL S : Int)) ∧
      (r32 (a3 + 5)) ∧
      ((0 : Int) ≤ a3 + 5) ∧
      ((a3 + 5 : Int) < (sL S : Int)) ∧
      (r32 (a3 + 6)) ∧
      ((0 : Int) ≤ a3 + 6) ∧
      ((a3 + 6 : Int) < (sL S : Int)) ∧
      (r32 (a3 + 7)) ∧
      ((0 : Int) ≤ a3 + 7) ∧
      ((a3 + 7 : Int) < (sL S : Int)) ∧
      (1 ≤ d) ∧
      (sK S a1 = 9) ∧
      Ok (d - 1) MX9_pick [vR a1, vI (sx S (a3 + 1)), vI (sx S (a3 + 2)), vI (sx S (a3 + 3)), vI (sx S (a3 + 4)), vI (sx S (a3 + 5)), vJ (jOr (jShl (sx S (a3 + 6)) 32) (jAnd (sx S (a3 + 7)) 4294967295))] S F G (fun w112 S113 F114 G115 =>
      ∃ z117 : Int, w112 = some (vJ z117) ∧
      (r32 (a3 + 1)) ∧
      ((0 : Int) ≤ a3 + 1) ∧
      ((a3 + 1 : Int) < (sL S113 : Int)) ∧
      (r32 (a3 + 2)) ∧
      ((0 : Int) ≤ a3 + 2) ∧
      ((a3 + 2 : Int) < (sL S113 : Int)) ∧
      (r32 (a3 + 3)) ∧
      ((0 : Int) ≤ a3 + 3) ∧
      ((a3 + 3 : Int) < (sL S113 : Int)) ∧
      (r32 (a3 + 4)) ∧
      ((0 : Int) ≤ a3 + 4) ∧
      ((a3 + 4 : Int) < (sL S113 : Int)) ∧
      (r32 (a3 + 5)) ∧
      ((0 : Int) ≤ a3 + 5) ∧
      ((a3 + 5 : Int) < (sL S113 : Int)) ∧
      (r32 (a3 + 6)) ∧
      ((0 : Int) ≤ a3 + 6) ∧
      ((a3 + 6 : Int) < (sL S113 : Int)) ∧
      (r32 (a3 + 7)) ∧
      ((0 : Int) ≤ a3 + 7) ∧
      ((a3 + 7 : Int) < (sL S113 : Int)) ∧
      (sK S113 a2 = 10) ∧
      Ok (d - 1) MX10_pick [vR a2, vI (sx S113 (a3 + 1)), vI (sx S113 (a3 + 2)), vI (sx S113 (a3 + 3)), vI (sx S113 (a3 + 4)), vI (sx S113 (a3 + 5)), vJ (jOr (jShl (sx S113 (a3 + 6)) 32) (jAnd (sx S113 (a3 + 7)) 4294967295))] S113 F114 G115 (fun w139 S140 F141 G142 =>
      ∃ z144 : Int, w139 = some (vJ z144) ∧
      ((z117 = z144) →
        V_law_2110 d S140 F141 G142 Q a0 a1 a2 a3) ∧
      ((¬ z117 = z144) →
        Q (some (vI 0)) S140 F141 G142)))) ∧
    ((bAnd (sx S a3) 63 = 3) →
      (r32 (a3 + 1)) ∧
      ((0 : Int) ≤ a3 + 1) ∧
      ((a3 + 1 : Int) < (sL S : Int)) ∧
      (r32 (a3 + 2)) ∧
      ((0 : Int) ≤ a3 + 2) ∧
      ((a3 + 2 : Int) < (sL S : Int)) ∧
      (r32 (a3 + 3)) ∧
      ((0 : Int) ≤ a3 + 3) ∧
      ((a3 + 3 : Int) < (sL S : Int)) ∧
      (r32 (a3 + 4)) ∧
      ((0 : Int) ≤ a3 + 4) ∧
      ((a3 + 4 : Int) < (sL S : Int)) ∧
      (r32 (a3 + 5)) ∧
      ((0 : Int) ≤ a3 + 5) ∧
      ((a3 + 5 : Int) < (sL S : Int)) ∧
      (r32 (a3 + 6)) ∧
      ((0 : Int) ≤ a3 + 6) ∧
      ((a3 + 6 : Int) < (sL S : Int)) ∧
      (r32 (a3 + 7)) ∧
      ((0 : Int) ≤ a3 + 7) ∧
      ((a3 + 7 : Int) < (sL S : Int)) ∧
      (1 ≤ d) ∧
      (sK S a1 = 9) ∧
      Ok (d - 1) MX9_move [vR a1, vI (sx S (a3 + 1)), vI (sx S (a3 + 2)), vI (sx S (a3 + 3)), vI (sx S (a3 + 4)), vI (sx S (a3 + 5)), vI (sx S (a3 + 6)), vI (sx S (a3 + 7))] S F G (fun w167 S168 F169 G170 =>
      ∃ z172 : Int, w167 = some (vJ z172) ∧
      (r32 (a3 + 1)) ∧
      ((0 : Int) ≤ a3 + 1) ∧
      ((a3 + 1 : Int) < (sL S168 : Int)) ∧
      (r32 (a3 + 2)) ∧
      ((0 : Int) ≤ a3 + 2) ∧
      ((a3 + 2 : Int) < (sL S168 : Int)) ∧
      (r32 (a3 + 3)) ∧
      ((0 : Int) ≤ a3 + 3) ∧
      ((a3 + 3 : Int) < (sL S168 : Int)) ∧
      (r32 (a3 + 4)) ∧
      ((0 : Int) ≤ a3 + 4) ∧
      ((a3 + 4 : Int) < (sL S168 : Int)) ∧
      (r32 (a3 + 5)) ∧
      ((0 : Int) ≤ a3 + 5) ∧
      ((a3 + 5 : Int) < (sL S168 : Int)) ∧
      (r32 (a3 + 6)) ∧
      ((0 : Int) ≤ a3 + 6) ∧
      ((a3 + 6 : Int) < (sL S168 : Int)) ∧
      (r32 (a3 + 7)) ∧
      ((0 : Int) ≤ a3 + 7) ∧
      ((a3 + 7 : Int) < (sL S168 : Int)) ∧
      (sK S168 a2 = 10) ∧
      Ok (d - 1) MX10_move [vR a2, vI (sx S168 (a3 + 1)), vI (sx S168 (a3 + 2)), vI (sx S168 (a3 + 3)), vI (sx S168 (a3 + 4)), vI (sx S168 (a3 + 5)), vI (sx S168 (a3 + 6)), vI (sx S168 (a3 + 7))] S168 F169 G170 (fun w194 S195 F196 G197 =>
      ∃ z199 : Int, w194 = some (vJ z199) ∧
      ((z172 = z199) →
        V_law_2110 d S195 F196 G197 Q a0 a1 a2 a3) ∧
      ((¬ z172 = z199) →
        Q (some (vI 0)) S195 F196 G197)))) ∧
    ((bAnd (sx S a3) 63 = 4) →
      (r32 (a3 + 1)) ∧
      ((0 : Int) ≤ a3 + 1) ∧
      ((a3 + 1 : Int) < (sL S : Int)) ∧
      (r32 (a3 + 2)) ∧
      ((0 : Int) ≤ a3 + 2) ∧
      ((a3 + 2 : Int) < (sL S : Int)) ∧
      (r32 (a3 + 3)) ∧
      ((0 : Int) ≤ a3 + 3) ∧
      ((a3 + 3 : Int) < (sL S : Int)) ∧
      (r32 (a3 + 4)) ∧
      ((0 : Int) ≤ a3 + 4) ∧
      ((a3 + 4 : Int) < (sL S : Int)) ∧
      (r32 (a3 + 5)) ∧
      ((0 : Int) ≤ a3 + 5) ∧
      ((a3 + 5 : Int) < (sL S : Int)) ∧
      (1 ≤ d) ∧
      (sK S a1 = 9) ∧
      Ok (d - 1) MX9_level [vR a1, vI (sx S (a3 + 1)), vI (sx S (a3 + 2)), vI (sx S (a3 + 3)), vI (sx S (a3 + 4)), vI (sx S (a3 + 5))] S F G (fun w216 S217 F218 G219 =>
      ∃ z221 : Int, w216 = some (vJ z221) ∧
      (r32 (a3 + 1)) ∧
      ((0 : Int) ≤ a3 + 1) ∧
      ((a3 + 1 : Int) < (sL S217 : Int)) ∧
      (r32 (a3 + 2)) ∧
      ((0 : Int) ≤ a3 + 2) ∧
      ((a3 + 2 : Int) < (sL S217 : Int)) ∧
      (r32 (a3 + 3)) ∧
      ((0 : Int) ≤ a3 + 3) ∧
      ((a3 + 3 : Int) < (sL S217 : Int)) ∧
      (r32 (a3 + 4)) ∧
      ((0 : Int) ≤ a3 + 4) ∧
      ((a3 + 4 : Int) < (sL S217 : Int)) ∧
      (r32 (a3 + 5)) ∧
      ((0 : Int) ≤ a3 + 5) ∧
      ((a3 + 5 : Int) < (sL S217 : Int)) ∧
      (sK S217 a2 = 10) ∧
      Ok (d - 1) MX10_level [vR a2, vI (sx S217 (a3 + 1)), vI (sx S217 (a3 + 2)), vI (sx S217 (a3 + 3)), vI (sx S217 (a3 + 4)), vI (sx S217 (a3 + 5))] S217 F218 G219 (fun w237 S238 F239 G240 =>
      ∃ z242 : Int, w237 = some (vJ z242) ∧
      ((z221 = z242) →
        V_law_2110 d S238 F239 G240 Q a0 a1 a2 a3) ∧
      ((¬ z221 = z242) →
        Q (some (vI 0)) S238 F239 G240)))) ∧
    ((bAnd (sx S a3) 63 = 5) →
      (r32 (a3 + 1)) ∧
      ((0 : Int) ≤ a3 + 1) ∧
      ((a3 + 1 : Int) < (sL S : Int)) ∧
      (r32 (a3 + 2)) ∧
      ((0 : Int) ≤ a3 + 2) ∧
      ((a3 + 2 : Int) < (sL S : Int)) ∧
      (r32 (a3 + 3)) ∧
      ((0 : Int) ≤ a3 + 3) ∧
      ((a3 + 3 : Int) < (sL S : Int)) ∧
      (r32 (a3 + 4)) ∧
      ((0 : Int) ≤ a3 + 4) ∧
      ((a3 + 4 : Int) < (sL S : Int)) ∧
      (r32 (a3 + 5)) ∧
      ((0 : Int) ≤ a3 + 5) ∧
      ((a3 + 5 : Int) < (sL S : Int)) ∧
      (r32 (a3 + 6)) ∧
      ((0 : Int) ≤ a3 + 6) ∧
      ((a3 + 6 : Int) < (sL S : Int)) ∧
      (r32 (a3 + 7)) ∧
      ((0 : Int) ≤ a3 + 7) ∧
      ((a3 + 7 : Int) < (sL S : Int)) ∧
      (1 ≤ d) ∧
      (sK S a1 = 9) ∧
      Ok (d - 1) MX9_zone [vR a1, vI (sx S (a3 + 1)), vI (sx S (a3 + 2)), vI (sx S (a3 + 3)), vI (sx S (a3 + 4)), vI (sx S (a3 + 5)), vJ (jOr (jShl (sx S (a3 + 6)) 32) (jAnd (sx S (a3 + 7)) 4294967295))] S F G (fun w265 S266 F267 G268 =>
      ∃ z270 : Int, w265 = some (vJ z270) ∧
      (r32 (a3 + 1)) ∧
      ((0 : Int) ≤ a3 + 1) ∧
      ((a3 + 1 : Int) < (sL S266 : Int)) ∧
      (r32 (a3 + 2)) ∧
      ((0 : Int) ≤ a3 + 2) ∧
      ((a3 + 2 : Int) < (sL S266 : Int)) ∧
      (r32 (a3 + 3)) ∧
      ((0 : Int) ≤ a3 + 3) ∧
      ((a3 + 3 : Int) < (sL S266 : Int)) ∧
      (r32 (a3 + 4)) ∧
      ((0 : Int) ≤ a3 + 4) ∧
      ((a3 + 4 : Int) < (sL S266 : Int)) ∧
      (r32 (a3 + 5)) ∧
      ((0 : Int) ≤ a3 + 5) ∧
      ((a3 + 5 : Int) < (sL S266 : Int)) ∧
      (r32 (a3 + 6)) ∧
      ((0 : Int) ≤ a3 + 6) ∧
      ((a3 + 6 : Int) < (sL S266 : Int)) ∧
      (r32 (a3 + 7)) ∧
      ((0 : Int) ≤ a3 + 7) ∧
      ((a3 + 7 : Int) < (sL S266 : Int)) ∧
      (sK S266 a2 = 10) ∧
      Ok (d - 1) MX10_zone [vR a2, vI (sx S266 (a3 + 1)), vI (sx S266 (a3 + 2)), vI (sx S266 (a3 + 3)), vI (sx S266 (a3 + 4)), vI (sx S266 (a3 + 5)), vJ (jOr (jShl (sx S266 (a3 + 6)) 32) (jAnd (sx S266 (a3 + 7)) 4294967295))] S266 F267 G268 (fun w292 S293 F294 G295 =>
      ∃ z297 : Int, w292 = some (vJ z297) ∧
      ((z270 = z297) →
        V_law_2110 d S293 F294 G295 Q a0 a1 a2 a3) ∧
      ((¬ z270 = z297) →
        Q (some (vI 0)) S293 F294 G295)))) ∧
    ((bAnd (sx S a3) 63 = 6) →
      (r32 (a3 + 1)) ∧
      ((0 : Int) ≤ a3 + 1) ∧
      ((a3 + 1 : Int) < (sL S : Int)) ∧
      (r32 (a3 + 2)) ∧
      ((0 : Int) ≤ a3 + 2) ∧
      ((a3 + 2 : Int) < (sL S : Int)) ∧
      (1 ≤ d) ∧
      (sK S a1 = 9) ∧
      Ok (d - 1) MX9_zoneAt [vR a1, vI (sx S (a3 + 1)), vI (sx S (a3 + 2))] S F G (fun w305 S306 F307 G308 =>
      ∃ z310 : Int, w305 = some (vJ z310) ∧
      (r32 (a3 + 1)) ∧
      ((0 : Int) ≤ a3 + 1) ∧
      ((a3 + 1 : Int) < (sL S306 : Int)) ∧
      (r32 (a3 + 2)) ∧
      ((0 : Int) ≤ a3 + 2) ∧
      ((a3 + 2 : Int) < (sL S306 : Int)) ∧
      (sK S306 a2 = 10) ∧
      Ok (d - 1) MX10_zoneAt [vR a2, vI (sx S306 (a3 + 1)), vI (sx S306 (a3 + 2))] S306 F307 G308 (fun w317 S318 F319 G320 =>
      ∃ z322 : Int, w317 = some (vJ z322) ∧
      ((z310 = z322) →
        V_law_2110 d S318 F319 G320 Q a0 a1 a2 a3) ∧
      ((¬ z310 = z322) →
        Q (some (vI 0)) S318 F319 G320)))) ∧
    ((bAnd (sx S a3) 63 = 7) →
      (1 ≤ d) ∧
      (sK S a1 = 9) ∧
      Ok (d - 1) MX9_begin [vR a1] S F G (fun w324 S325 F326 G327 =>
      ∃ z329 : Int, w324 = some (vI z329) ∧
      (sK S325 a2 = 10) ∧
      Ok (d - 1) MX10_begin [vR a2] S325 F326 G327 (fun w330 S331 F332 G333 =>
      ∃ z335 : Int, w330 = some (vI z335) ∧
      ((z329 = z335) →
        V_law_2110 d S331 F332 G333 Q a0 a1 a2 a3) ∧
      ((¬ z329 = z335) →
        Q (some (vI 0)) S331 F332 G333)))) ∧
    ((bAnd (sx S a3) 63 = 8) →
      (1 ≤ d) ∧
      (sK S a1 = 9) ∧
      Ok (d - 1) MX9_commit [vR a1] S F G (fun w337 S338 F339 G340 =>
      ∃ z342 : Int, w337 = some (vI z342) ∧
      (sK S338 a2 = 10) ∧
      Ok (d - 1) MX10_commit [vR a2] S338 F339 G340 (fun w343 S344 F345 G346 =>
      ∃ z348 : Int, w343 = some (vI z348) ∧
      ((z342 = z348) →
        V_law_2110 d S344 F345 G346 Q a0 a1 a2 a3) ∧
      ((¬ z342 = z348) →
        Q (some (vI 0)) S344 F345 G346)))) ∧
    ((bAnd (sx S a3) 63 = 9) →
      (1 ≤ d) ∧
      (sK S a1 = 9) ∧
      Ok (d - 1) MX9_cancel [vR a1] S F G (fun w350 S351 F352 G353 =>
      ∃ z355 : Int, w350 = some (vI z355) ∧
      (sK S351 a2 = 10) ∧
      Ok (d - 1) MX10_cancel [vR a2] S351 F352 G353 (fun w356 S357 F358 G359 =>
      ∃ z361 : Int, w356 = some (vI z361) ∧
      ((z355 = z361) →
        V_law_2110 d S357 F358 G359 Q a0 a1 a2 a3) ∧
      ((¬ z355 = z361) →
        Q (some (vI 0)) S357 F358 G359)))) ∧
    ((bAnd (sx S a3) 63 = 10) →
      (r32 (a3 + 1)) ∧
      ((0 : Int) ≤ a3 + 1) ∧
      ((a3 + 1 : Int) < (sL S : Int)) ∧
      (r32 (a3 + 2)) ∧
      ((0 : Int) ≤ a3 + 2) ∧
      ((a3 + 2 : Int) < (sL S : Int)) ∧
      (r32 (a3 + 3)) ∧
      ((0 : Int) ≤ a3 + 3) ∧
      ((a3 + 3 : Int) < (sL S : Int)) ∧
      (r32 (a3 + 4)) ∧
      ((0 : Int) ≤ a3 + 4) ∧
      ((a3 + 4 : Int) < (sL S : Int)) ∧
      (r32 (a3 + 5)) ∧
      ((0 : Int) ≤ a3 + 5) ∧
      ((a3 + 5 : Int) < (sL S : Int)) ∧
      (1 ≤ d) ∧
      (sK S a1 = 9) ∧
      Ok (d - 1) MX9_feed [vR a1, vI (sx S (a3 + 1)), vI (sx S (a3 + 2)), vI (sx S (a3 + 3)), vI (sx S (a3 + 4)), vI (sx S (a3 + 5))] S F G (fun w378 S379 F380 G381 =>
      ∃ z383 : Int, w378 = some (vI z383) ∧
      (r32 (a3 + 1)) ∧
      ((0 : Int) ≤ a3 + 1) ∧
      ((a3 + 1 : Int) < (sL S379 : Int)) ∧
      (r32 (a3 + 2)) ∧
      ((0 : Int) ≤ a3 + 2) ∧
      ((a3 + 2 : Int) < (sL S379 : Int)) ∧
      (r32 (a3 + 3)) ∧
      ((0 : Int) ≤ a3 + 3) ∧
      ((a3 + 3 : Int) < (sL S379 : Int)) ∧
      (r32 (a3 + 4)) ∧
      ((0 : Int) ≤ a3 + 4) ∧
      ((a3 + 4 : Int) < (sL S379 : Int)) ∧
      (r32 (a3 + 5)) ∧
      ((0 : Int) ≤ a3 + 5) ∧
      ((a3 + 5 : Int) < (sL S379 : Int)) ∧
      (sK S379 a2 = 10) ∧
      Ok (d - 1) MX10_feed [vR a2, vI (sx S379 (a3 + 1)), vI (sx S379 (a3 + 2)), vI (sx S379 (a3 + 3)), vI (sx S379 (a3 + 4)), vI (sx S379 (a3 + 5))] S379 F380 G381 (fun w399 S400 F401 G402 =>
      ∃ z404 : Int, w399 = some (vI z404) ∧
      ((z383 = z404) →
        V_law_2110 d S400 F401 G402 Q a0 a1 a2 a3) ∧
      ((¬ z383 = z404) →
        Q (some (vI 0)) S400 F401 G402)))) ∧
    ((bAnd (sx S a3) 63 = 11) →
      (r32 (a3 + 1)) ∧
      ((0 : Int) ≤ a3 + 1) ∧
      ((a3 + 1 : Int) < (sL S : Int)) ∧
      (1 ≤ d) ∧
      (sK S a1 = 9) ∧
      Ok (d - 1) MX9_run [vR a1, vI (sx S (a3 + 1))] S F G (fun w409 S410 F411 G412 =>
      ∃ z414 : Int, w409 = some (vI z414) ∧
      (r32 (a3 + 1)) ∧
      ((0 : Int) ≤ a3 + 1) ∧
      ((a3 + 1 : Int) < (sL S410 : Int)) ∧
      (sK S410 a2 = 10) ∧
      Ok (d - 1) MX10_run [vR a2, vI (sx S410 (a3 + 1))] S410 F411 G412 (fun w418 S419 F420 G421 =>
      ∃ z423 : Int, w418 = some (vI z423) ∧
      ((z414 = z423) →
        V_law_2110 d S419 F420 G421 Q a0 a1 a2 a3) ∧
      ((¬ z414 = z423) →
        Q (some (vI 0)) S419 F420 G421)))) ∧
    ((bAnd (sx S a3) 63 = 12) →
      (r32 (a3 + 1)) ∧
      ((0 : Int) ≤ a3 + 1) ∧
      ((a3 + 1 : Int) < (sL S : Int)) ∧
      (1 ≤ d) ∧
      (sK S a1 = 9) ∧
      Ok (d - 1) MX9_fault [vR a1, vI (sx S (a3 + 1))] S F G (fun w428 S429 F430 G431 =>
      ∃ z433 : Int, w428 = some (vI z433) ∧
      (r32 (a3 + 1)) ∧
      ((0 : Int) ≤ a3 + 1) ∧
      ((a3 + 1 : Int) < (sL S429 : Int)) ∧
      (sK S429 a2 = 10) ∧
      Ok (d - 1) MX10_fault [vR a2, vI (sx S429 (a3 + 1))] S429 F430 G431 (fun w437 S438 F439 G440 =>
      ∃ z442 : Int, w437 = some (vI z442) ∧
      ((z433 = z442) →
        V_law_2110 d S438 F439 G440 Q a0 a1 a2 a3) ∧
      ((¬ z433 = z442) →
        Q (some (vI 0)) S438 F439 G440)))) ∧
    ((bAnd (sx S a3) 63 = 13) →
      (r32 (a3 + 1)) ∧
      ((0 : Int) ≤ a3 + 1) ∧
      ((a3 + 1 : Int) < (sL S : Int)) ∧
      (r32 (a3 + 2)) ∧
      ((0 : Int) ≤ a3 + 2) ∧
      ((a3 + 2 : Int) < (sL S : Int)) ∧
      (r32 (a3 + 3)) ∧
      ((0 : Int) ≤ a3 + 3) ∧
      ((a3 + 3 : Int) < (sL S : Int)) ∧
      (r32 (a3 + 4)) ∧
      ((0 : Int) ≤ a3 + 4) ∧
      ((a3 + 4 : Int) < (sL S : Int)) ∧
      (r32 (a3 + 5)) ∧
      ((0 : Int) ≤ a3 + 5) ∧
      ((a3 + 5 : Int) < (sL S : Int)) ∧
      (1 ≤ d) ∧
      (sK S a1 = 9) ∧
      Ok (d - 1) MX9_sum [vR a1, vI (sx S (a3 + 1)), vI (sx S (a3 + 2)), vI (sx S (a3 + 3)), vI (sx S (a3 + 4)), vI (sx S (a3 + 5))] S F G (fun w459 S460 F461 G462 =>
      ∃ z464 : Int, w459 = some (vJ z464) ∧
      (r32 (a3 + 1)) ∧
      ((0 : Int) ≤ a3 + 1) ∧
      ((a3 + 1 : Int) < (sL S460 : Int)) ∧
      (r32 (a3 + 2)) ∧
      ((0 : Int) ≤ a3 + 2) ∧
      ((a3 + 2 : Int) < (sL S460 : Int)) ∧
      (r32 (a3 + 3)) ∧
      ((0 : Int) ≤ a3 + 3) ∧
      ((a3 + 3 : Int) < (sL S460 : Int)) ∧
      (r32 (a3 + 4)) ∧
      ((0 : Int) ≤ a3 + 4) ∧
      ((a3 + 4 : Int) < (sL S460 : Int)) ∧
      (r32 (a3 + 5)) ∧
      ((0 : Int) ≤ a3 + 5) ∧
      ((a3 + 5 : Int) < (sL S460 : Int)) ∧
      (sK S460 a2 = 10) ∧
      Ok (d - 1) MX10_sum [vR a2, vI (sx S460 (a3 + 1)), vI (sx S460 (a3 + 2)), vI (sx S460 (a3 + 3)), vI (sx S460 (a3 + 4)), vI (sx S460 (a3 + 5))] S460 F461 G462 (fun w480 S481 F482 G483 =>
      ∃ z485 : Int, w480 = some (vJ z485) ∧
      ((z464 = z485) →
        V_law_2110 d S481 F482 G483 Q a0 a1 a2 a3) ∧
      ((¬ z464 = z485) →
        Q (some (vI 0)) S481 F482 G483)))) ∧
    ((bAnd (sx S a3) 63 = 14) →
      (r32 (a3 + 1)) ∧
      ((0 : Int) ≤ a3 + 1) ∧
      ((a3 + 1 : Int) < (sL S : Int)) ∧
      (r32 (a3 + 2)) ∧
      ((0 : Int) ≤ a3 + 2) ∧
      ((a3 + 2 : Int) < (sL S : Int)) ∧
      (r32 (a3 + 3)) ∧
      ((0 : Int) ≤ a3 + 3) ∧
      ((a3 + 3 : Int) < (sL S : Int)) ∧
      (1 ≤ d) ∧
      (sK S a1 = 9) ∧
      Ok (d - 1) MX9_at [vR a1, vI (sx S (a3 + 1)), vI (sx S (a3 + 2)), vI (sx S (a3 + 3))] S F G (fun w496 S497 F498 G499 =>
      ∃ z501 : Int, w496 = some (vJ z501) ∧
      (r32 (a3 + 1)) ∧
      ((0 : Int) ≤ a3 + 1) ∧
      ((a3 + 1 : Int) < (sL S497 : Int)) ∧
      (r32 (a3 + 2)) ∧
      ((0 : Int) ≤ a3 + 2) ∧
      ((a3 + 2 : Int) < (sL S497 : Int)) ∧
      (r32 (a3 + 3)) ∧
      ((0 : Int) ≤ a3 + 3) ∧
      ((a3 + 3 : Int) < (sL S497 : Int)) ∧
      (sK S497 a2 = 10) ∧
      Ok (d - 1) MX10_at [vR a2, vI (sx S497 (a3 + 1)), vI (sx S497 (a3 + 2)), vI (sx S497 (a3 + 3))] S497 F498 G499 (fun w511 S512 F513 G514 =>
      ∃ z516 : Int, w511 = some (vJ z516) ∧
      ((z501 = z516) →
        V_law_2110 d S512 F513 G514 Q a0 a1 a2 a3) ∧
      ((¬ z501 = z516) →
        Q (some (vI 0)) S512 F513 G514)))) ∧
    ((bAnd (sx S a3) 63 = 15) →
      (r32 (a3 + 1)) ∧
      ((0 : Int) ≤ a3 + 1) ∧
      ((a3 + 1 : Int) < (sL S : Int)) ∧
      (r32 (a3 + 2)) ∧
      ((0 : Int) ≤ a3 + 2) ∧
      ((a3 + 2 : Int) < (sL S : Int)) ∧
      (r32 (a3 + 3)) ∧
      ((0 : Int) ≤ a3 + 3) ∧
      ((a3 + 3 : Int) < (sL S : Int)) ∧
      (r32 (a3 + 4)) ∧
      ((0 : Int) ≤ a3 + 4) ∧
      ((a3 + 4 : Int) < (sL S : Int)) ∧
      (r32 (a3 + 5)) ∧
      ((0 : Int) ≤ a3 + 5) ∧
      ((a3 + 5 : Int) < (sL S : Int)) ∧
      (r32 (a3 + 6)) ∧
      ((0 : Int) ≤ a3 + 6) ∧
      ((a3 + 6 : Int) < (sL S : Int)) ∧
      (1 ≤ d) ∧
      (sK S a1 = 9) ∧
      Ok (d - 1) MX9_bound [vR a1, vI (sx S (a3 + 1)), vI (sx S (a3 + 2)), vI (sx S (a3 + 3)), vI (sx S (a3 + 4)), vI (sx S (a3 + 5)), vI (sx S (a3 + 6))] S F G (fun w536 S537 F538 G539 =>
      ∃ z541 : Int, w536 = some (vJ z541) ∧
      (r32 (a3 + 1)) ∧
      ((0 : Int) ≤ a3 + 1) ∧
      ((a3 + 1 : Int) < (sL S537 : Int)) ∧
      (r32 (a3 + 2)) ∧
      ((0 : Int) ≤ a3 + 2) ∧
      ((a3 + 2 : Int) < (sL S537 : Int)) ∧
      (r32 (a3 + 3)) ∧
      ((0 : Int) ≤ a3 + 3) ∧
      ((a3 + 3 : Int) < (sL S537 : Int)) ∧
      (r32 (a3 + 4)) ∧
      ((0 : Int) ≤ a3 + 4) ∧
      ((a3 + 4 : Int) < (sL S537 : Int)) ∧
      (r32 (a3 + 5)) ∧
      ((0 : Int) ≤ a3 + 5) ∧
      ((a3 + 5 : Int) < (sL S537 : Int)) ∧
      (r32 (a3 + 6)) ∧
      ((0 : Int) ≤ a3 + 6) ∧
      ((a3 + 6 : Int) < (sL S537 : Int)) ∧
      (sK S537 a2 = 10) ∧
      Ok (d - 1) MX10_bound [vR a2, vI (sx S537 (a3 + 1)), vI (sx S537 (a3 + 2)), vI (sx S537 (a3 + 3)), vI (sx S537 (a3 + 4)), vI (sx S537 (a3 + 5)), vI (sx S537 (a3 + 6))] S537 F538 G539 (fun w560 S561 F562 G563 =>
      ∃ z565 : Int, w560 = some (vJ z565) ∧
      ((z541 = z565) →
        V_law_2110 d S561 F562 G563 Q a0 a1 a2 a3) ∧
      ((¬ z541 = z565) →
        Q (some (vI 0)) S561 F562 G563)))) ∧
    ((bAnd (sx S a3) 63 = 16) →
      (r32 (a3 + 1)) ∧
      ((0 : Int) ≤ a3 + 1) ∧
      ((a3 + 1 : Int) < (sL S : Int)) ∧
      (r32 (a3 + 2)) ∧
      ((0 : Int) ≤ a3 + 2) ∧
      ((a3 + 2 : Int) < (sL S : Int)) ∧
      (r32 (a3 + 3)) ∧
      ((0 : Int) ≤ a3 + 3) ∧
      ((a3 + 3 : Int) < (sL S : Int)) ∧
      (r32 (a3 + 4)) ∧
      ((0 : Int) ≤ a3 + 4) ∧
      ((a3 + 4 : Int) < (sL S : Int)) ∧
      (1 ≤ d) ∧
      (sK S a1 = 9) ∧
      Ok (d - 1) MX9_empty [vR a1, vI (sx S (a3 + 1)), vI (sx S (a3 + 2)), vI (sx S (a3 + 3)), vI (sx S (a3 + 4))] S F G (fun w579 S580 F581 G582 =>
      ∃ z584 : Int, w579 = some (vJ z584) ∧
      (r32 (a3 + 1)) ∧
      ((0 : Int) ≤ a3 + 1) ∧
      ((a3 + 1 : Int) < (sL S580 : Int)) ∧
      (r32 (a3 + 2)) ∧
      ((0 : Int) ≤ a3 + 2) ∧
      ((a3 + 2 : Int) < (sL S580 : Int)) ∧
      (r32 (a3 + 3)) ∧
      ((0 : Int) ≤ a3 + 3) ∧
      ((a3 + 3 : Int) < (sL S580 : Int)) ∧
      (r32 (a3 + 4)) ∧
      ((0 : Int) ≤ a3 + 4) ∧
      ((a3 + 4 : Int) < (sL S580 : Int)) ∧
      (sK S580 a2 = 10) ∧
      Ok (d - 1) MX10_empty [vR a2, vI (sx S580 (a3 + 1)), vI (sx S580 (a3 + 2)), vI (sx S580 (a3 + 3)), vI (sx S580 (a3 + 4))] S580 F581 G582 (fun w597 S598 F599 G600 =>
      ∃ z602 : Int, w597 = some (vJ z602) ∧
      ((z584 = z602) →
        V_law_2110 d S598 F599 G600 Q a0 a1 a2 a3) ∧
      ((¬ z584 = z602) →
        Q (some (vI 0)) S598 F599 G600)))) ∧
    ((bAnd (sx S a3) 63 = 17) →
      (r32 (a3 + 1)) ∧
      ((0 : Int) ≤ a3 + 1) ∧
      ((a3 + 1 : Int) < (sL S : Int)) ∧
      (r32 (a3 + 2)) ∧
      ((0 : Int) ≤ a3 + 2) ∧
      ((a3 + 2 : Int) < (sL S : Int)) ∧
      (r32 (a3 + 3)) ∧
      ((0 : Int) ≤ a3 + 3) ∧
      ((a3 + 3 : Int) < (sL S : Int)) ∧
      (r32 (a3 + 4)) ∧
      ((0 : Int) ≤ a3 + 4) ∧
      ((a3 + 4 : Int) < (sL S : Int)) ∧
      (r32 (a3 + 5)) ∧
      ((0 : Int) ≤ a3 + 5) ∧
      ((a3 + 5 : Int) < (sL S : Int)) ∧
      (r32 (a3 + 6)) ∧
      ((0 : Int) ≤ a3 + 6) ∧
      ((a3 + 6 : Int) < (sL S : Int)) ∧
      (1 ≤ d) ∧
      (sK S a1 = 9) ∧
      Ok (d - 1) MX9_share [vR a1, vI (sx S (a3 + 1)), vI (sx S (a3 + 2)), vI (sx S (a3 + 3)), vI (sx S (a3 + 4)), vI (sx S (a3 + 5)), vI (sx S (a3 + 6))] S F G (fun w622 S623 F624 G625 =>
      ∃ z627 : Int, w622 = some (vJ z627) ∧
      (r32 (a3 + 1)) ∧
      ((0 : Int) ≤ a3 + 1) ∧
      ((a3 + 1 : Int) < (sL S623 : Int)) ∧
      (r32 (a3 + 2)) ∧
      ((0 : Int) ≤ a3 + 2) ∧
      ((a3 + 2 : Int) < (sL S623 : Int)) ∧
      (r32 (a3 + 3)) ∧
      ((0 : Int) ≤ a3 + 3) ∧
      ((a3 + 3 : Int) < (sL S623 : Int)) ∧
      (r32 (a3 + 4)) ∧
      ((0 : Int) ≤ a3 + 4) ∧
      ((a3 + 4 : Int) < (sL S623 : Int)) ∧
      (r32 (a3 + 5)) ∧
      ((0 : Int) ≤ a3 + 5) ∧
      ((a3 + 5 : Int) < (sL S623 : Int)) ∧
      (r32 (a3 + 6)) ∧
      ((0 : Int) ≤ a3 + 6) ∧
      ((a3 + 6 : Int) < (sL S623 : Int)) ∧
      (sK S623 a2 = 10) ∧
      Ok (d - 1) MX10_share [vR a2, vI (sx S623 (a3 + 1)), vI (sx S623 (a3 + 2)), vI (sx S623 (a3 + 3)), vI (sx S623 (a3 + 4)), vI (sx S623 (a3 + 5)), vI (sx S623 (a3 + 6))] S623 F624 G625 (fun w646 S647 F648 G649 =>
      ∃ z651 : Int, w646 = some (vJ z651) ∧
      ((z627 = z651) →
        V_law_2110 d S647 F648 G649 Q a0 a1 a2 a3) ∧
      ((¬ z627 = z651) →
        Q (some (vI 0)) S647 F648 G649)))) ∧
    ((bAnd (sx S a3) 63 = 18) →
      (r32 (a3 + 1)) ∧
      ((0 : Int) ≤ a3 + 1) ∧
      ((a3 + 1 : Int) < (sL S : Int)) ∧
      (r32 (a3 + 2)) ∧
      ((0 : Int) ≤ a3 + 2) ∧
      ((a3 + 2 : Int) < (sL S : Int)) ∧
      (r32 (a3 + 3)) ∧
      ((0 : Int) ≤ a3 + 3) ∧
      ((a3 + 3 : Int) < (sL S : Int)) ∧
      (r32 (a3 + 4)) ∧
      ((0 : Int) ≤ a3 + 4) ∧
      ((a3 + 4 : Int) < (sL S : Int)) ∧
      (r32 (a3 + 5)) ∧
      ((0 : Int) ≤ a3 + 5) ∧
      ((a3 + 5 : Int) < (sL S : Int)) ∧
      (r32 (a3 + 6)) ∧
      ((0 : Int) ≤ a3 + 6) ∧
      ((a3 + 6 : Int) < (sL S : Int)) ∧
      (r32 (a3 + 7)) ∧
      ((0 : Int) ≤ a3 + 7) ∧
      ((a3 + 7 : Int) < (sL S : Int)) ∧
      (1 ≤ d) ∧
      (sK S a1 = 9) ∧
      Ok (d - 1) MX9_atLeast [vR a1, vI (sx S (a3 + 1)), vI (sx S (a3 + 2)), vI (sx S (a3 + 3)), vI (sx S (a3 + 4)), vI (sx S (a3 + 5)), vJ (jOr (jShl (sx S (a3 + 6)) 32) (jAnd (sx S (a3 + 7)) 4294967295))] S F G (fun w674 S675 F676 G677 =>
      ∃ z679 : Int, w674 = some (vJ z679) ∧
      (r32 (a3 + 1)) ∧
      ((0 : Int) ≤ a3 + 1) ∧
      ((a3 + 1 : Int) < (sL S675 : Int)) ∧
      (r32 (a3 + 2)) ∧
      ((0 : Int) ≤ a3 + 2) ∧
      ((a3 + 2 : Int) < (sL S675 : Int)) ∧
      (r32 (a3 + 3)) ∧
      ((0 : Int) ≤ a3 + 3) ∧
      ((a3 + 3 : Int) < (sL S675 : Int)) ∧
      (r32 (a3 + 4)) ∧
      ((0 : Int) ≤ a3 + 4) ∧
      ((a3 + 4 : Int) < (sL S675 : Int)) ∧
      (r32 (a3 + 5)) ∧
      ((0 : Int) ≤ a3 + 5) ∧
      ((a3 + 5 : Int) < (sL S675 : Int)) ∧
      (r32 (a3 + 6)) ∧
      ((0 : Int) ≤ a3 + 6) ∧
      ((a3 + 6 : Int) < (sL S675 : Int)) ∧
      (r32 (a3 + 7)) ∧
      ((0 : Int) ≤ a3 + 7) ∧
      ((a3 + 7 : Int) < (sL S675 : Int)) ∧
      (sK S675 a2 = 10) ∧
      Ok (d - 1) MX10_atLeast [vR a2, vI (sx S675 (a3 + 1)), vI (sx S675 (a3 + 2)), vI (sx S675 (a3 + 3)), vI (sx S675 (a3 + 4)), vI (sx S675 (a3 + 5)), vJ (jOr (jShl (sx S675 (a3 + 6)) 32) (jAnd (sx S675 (a3 + 7)) 4294967295))] S675 F676 G677 (fun w701 S702 F703 G704 =>
      ∃ z706 : Int, w701 = some (vJ z706) ∧
      ((z679 = z706) →
        V_law_2110 d S702 F703 G704 Q a0 a1 a2 a3) ∧
      ((¬ z679 = z706) →
        Q (some (vI 0)) S702 F703 G704)))) ∧
    ((bAnd (sx S a3) 63 = 19) →
      (r32 (a3 + 1)) ∧
      ((0 : Int) ≤ a3 + 1) ∧
      ((a3 + 1 : Int) < (sL S : Int)) ∧
      (r32 (a3 + 2)) ∧
      ((0 : Int) ≤ a3 + 2) ∧
      ((a3 + 2 : Int) < (sL S : Int)) ∧
      (r32 (a3 + 3)) ∧
      ((0 : Int) ≤ a3 + 3) ∧
      ((a3 + 3 : Int) < (sL S : Int)) ∧
      (r32 (a3 + 4)) ∧
      ((0 : Int) ≤ a3 + 4) ∧
      ((a3 + 4 : Int) < (sL S : Int)) ∧
      (r32 (a3 + 5)) ∧
      ((0 : Int) ≤ a3 + 5) ∧
      ((a3 + 5 : Int) < (sL S : Int)) ∧
      (r32 (a3 + 6)) ∧
      ((0 : Int) ≤ a3 + 6) ∧
      ((a3 + 6 : Int) < (sL S : Int)) ∧
      (r32 (a3 + 7)) ∧
      ((0 : Int) ≤ a3 + 7) ∧
      ((a3 + 7 : Int) < (sL S : Int)) ∧
      (1 ≤ d) ∧
      (sK S a1 = 9) ∧
      Ok (d - 1) MX9_value [vR a1, vI (sx S (a3 + 1)), vI (sx S (a3 + 2)), vI (sx S (a3 + 3)), vI (sx S (a3 + 4)), vI (sx S (a3 + 5)), vJ (jOr (jShl (sx S (a3 + 6)) 32) (jAnd (sx S (a3 + 7)) 4294967295))] S F G (fun w729 S730 F731 G732 =>
      ∃ z734 : Int, w729 = some (vJ z734) ∧
      (r32 (a3 + 1)) ∧
      ((0 : Int) ≤ a3 + 1) ∧
      ((a3 + 1 : Int) < (sL S730 : Int)) ∧
      (r32 (a3 + 2)) ∧
      ((0 : Int) ≤ a3 + 2) ∧
      ((a3 + 2 : Int) < (sL S730 : Int)) ∧
      (r32 (a3 + 3)) ∧
      ((0 : Int) ≤ a3 + 3) ∧
      ((a3 + 3 : Int) < (sL S730 : Int)) ∧
      (r32 (a3 + 4)) ∧
      ((0 : Int) ≤ a3 + 4) ∧
      ((a3 + 4 : Int) < (sL S730 : Int)) ∧
      (r32 (a3 + 5)) ∧
      ((0 : Int) ≤ a3 + 5) ∧
      ((a3 + 5 : Int) < (sL S730 : Int)) ∧
      (r32 (a3 + 6)) ∧
      ((0 : Int) ≤ a3 + 6) ∧
      ((a3 + 6 : Int) < (sL S730 : Int)) ∧
      (r32 (a3 + 7)) ∧
      ((0 : Int) ≤ a3 + 7) ∧
      ((a3 + 7 : Int) < (sL S730 : Int)) ∧
      (sK S730 a2 = 10) ∧
      Ok (d - 1) MX10_value [vR a2, vI (sx S730 (a3 + 1)), vI (sx S730 (a3 + 2)), vI (sx S730 (a3 + 3)), vI (sx S730 (a3 + 4)), vI (sx S730 (a3 + 5)), vJ (jOr (jShl (sx S730 (a3 + 6)) 32) (jAnd (sx S730 (a3 + 7)) 4294967295))] S730 F731 G732 (fun w756 S757 F758 G759 =>
      ∃ z761 : Int, w756 = some (vJ z761) ∧
      ((z734 = z761) →
        V_law_2110 d S757 F758 G759 Q a0 a1 a2 a3) ∧
      ((¬ z734 = z761) →
        Q (some (vI 0)) S757 F758 G759)))) ∧
    ((bAnd (sx S a3) 63 = 20) →
      (r32 (a3 + 1)) ∧
      ((0 : Int) ≤ a3 + 1) ∧
      ((a3 + 1 : Int) < (sL S : Int)) ∧
      (1 ≤ d) ∧
      (sK S a1 = 9) ∧
      Ok (d - 1) MX9_hole [vR a1, vI (sx S (a3 + 1))] S F G (fun w766 S767 F768 G769 =>
      ∃ z771 : Int, w766 = some (vJ z771) ∧
      (r32 (a3 + 1)) ∧
      ((0 : Int) ≤ a3 + 1) ∧
      ((a3 + 1 : Int) < (sL S767 : Int)) ∧
      (sK S767 a2 = 10) ∧
      Ok (d - 1) MX10_hole [vR a2, vI (sx S767 (a3 + 1))] S767 F768 G769 (fun w775 S776 F777 G778 =>
      ∃ z780 : Int, w775 = some (vJ z780) ∧
      ((z771 = z780) →
        V_law_2110 d S776 F777 G778 Q a0 a1 a2 a3) ∧
      ((¬ z771 = z780) →
        Q (some (vI 0)) S776 F777 G778)))) ∧
    ((bAnd (sx S a3) 63 = 21) →
      (r32 (a3 + 1)) ∧
      ((0 : Int) ≤ a3 + 1) ∧
      ((a3 + 1 : Int) < (sL S : Int)) ∧
      (r32 (a3 + 2)) ∧
      ((0 : Int) ≤ a3 + 2) ∧
      ((a3 + 2 : Int) < (sL S : Int)) ∧
      (r32 (a3 + 3)) ∧
      ((0 : Int) ≤ a3 + 3) ∧
      ((a3 + 3 : Int) < (sL S : Int)) ∧
      (r32 (a3 + 4)) ∧
      ((0 : Int) ≤ a3 + 4) ∧
      ((a3 + 4 : Int) < (sL S : Int)) ∧
      (r32 (a3 + 5)) ∧
      ((0 : Int) ≤ a3 + 5) ∧
      ((a3 + 5 : Int) < (sL S : Int)) ∧
      (r32 (a3 + 6)) ∧
      ((0 : Int) ≤ a3 + 6) ∧
      ((a3 + 6 : Int) < (sL S : Int)) ∧
      (1 ≤ d) ∧
      (sK S a1 = 9) ∧
      Ok (d - 1) MX9_before [vR a1, vI (sx S (a3 + 1)), vI (sx S (a3 + 2)), vI (sx S (a3 + 3)), vI (sx S (a3 + 4)), vI (sx S (a3 + 5)), vI (sx S (a3 + 6))] S F G (fun w800 S801 F802 G803 =>
      ∃ z805 : Int, w800 = some (vJ z805) ∧
      (r32 (a3 + 1)) ∧
      ((0 : Int) ≤ a3 + 1) ∧
      ((a3 + 1 : Int) < (sL S801 : Int)) ∧
      (r32 (a3 + 2)) ∧
      ((0 : Int) ≤ a3 + 2) ∧
      ((a3 + 2 : Int) < (sL S801 : Int)) ∧
      (r32 (a3 + 3)) ∧
      ((0 : Int) ≤ a3 + 3) ∧
      ((a3 + 3 : Int) < (sL S801 : Int)) ∧
      (r32 (a3 + 4)) ∧
      ((0 : Int) ≤ a3 + 4) ∧
      ((a3 + 4 : Int) < (sL S801 : Int)) ∧
      (r32 (a3 + 5)) ∧
      ((0 : Int) ≤ a3 + 5) ∧
      ((a3 + 5 : Int) < (sL S801 : Int)) ∧
      (r32 (a3 + 6)) ∧
      ((0 : Int) ≤ a3 + 6) ∧
      ((a3 + 6 : Int) < (sL S801 : Int)) ∧
      (sK S801 a2 = 10) ∧
      Ok (d - 1) MX10_before [vR a2, vI (sx S801 (a3 + 1)), vI (sx S801 (a3 + 2)), vI (sx S801 (a3 + 3)), vI (sx S801 (a3 + 4)), vI (sx S801 (a3 + 5)), vI (sx S801 (a3 + 6))] S801 F802 G803 (fun w824 S825 F826 G827 =>
      ∃ z829 : Int, w824 = some (vJ z829) ∧
      ((z805 = z829) →
        V_law_2110 d S825 F826 G827 Q a0 a1 a2 a3) ∧
      ((¬ z805 = z829) →
        Q (some (vI 0)) S825 F826 G827)))) ∧
    ((bAnd (sx S a3) 63 = 22) →
      (r32 (a3 + 1)) ∧
      ((0 : Int) ≤ a3 + 1) ∧
      ((a3 + 1 : Int) < (sL S : Int)) ∧
      (r32 (a3 + 2)) ∧
      ((0 : Int) ≤ a3 + 2) ∧
      ((a3 + 2 : Int) < (sL S : Int)) ∧
      (r32 (a3 + 3)) ∧
      ((0 : Int) ≤ a3 + 3) ∧
      ((a3 + 3 : Int) < (sL S : Int)) ∧
      (r32 (a3 + 4)) ∧
      ((0 : Int) ≤ a3 + 4) ∧
      ((a3 + 4 : Int) < (sL S : Int)) ∧
      (1 ≤ d) ∧
      (sK S a1 = 9) ∧
      Ok (d - 1) MX9_find [vR a1, vI (sx S (a3 + 1)), vI (sx S (a3 + 2)), vJ (jOr (jShl (sx S (a3 + 3)) 32) (jAnd (sx S (a3 + 4)) 4294967295))] S F G (fun w843 S844 F845 G846 =>
      ∃ z848 : Int, w843 = some (vJ z848) ∧
      (r32 (a3 + 1)) ∧
      ((0 : Int) ≤ a3 + 1) ∧
      ((a3 + 1 : Int) < (sL S844 : Int)) ∧
      (r32 (a3 + 2)) ∧
      ((0 : Int) ≤ a3 + 2) ∧
      ((a3 + 2 : Int) < (sL S844 : Int)) ∧
      (r32 (a3 + 3)) ∧
      ((0 : Int) ≤ a3 + 3) ∧
      ((a3 + 3 : Int) < (sL S844 : Int)) ∧
      (r32 (a3 + 4)) ∧
      ((0 : Int) ≤ a3 + 4) ∧
      ((a3 + 4 : Int) < (sL S844 : Int)) ∧
      (sK S844 a2 = 10) ∧
      Ok (d - 1) MX10_find [vR a2, vI (sx S844 (a3 + 1)), vI (sx S844 (a3 + 2)), vJ (jOr (jShl (sx S844 (a3 + 3)) 32) (jAnd (sx S844 (a3 + 4)) 4294967295))] S844 F845 G846 (fun w861 S862 F863 G864 =>
      ∃ z866 : Int, w861 = some (vJ z866) ∧
      ((z848 = z866) →
        V_law_2110 d S862 F863 G864 Q a0 a1 a2 a3) ∧
      ((¬ z848 = z866) →
        Q (some (vI 0)) S862 F863 G864)))) ∧
    ((bAnd (sx S a3) 63 = 23) →
      (r32 (a3 + 1)) ∧
      ((0 : Int) ≤ a3 + 1) ∧
      ((a3 + 1 : Int) < (sL S : Int)) ∧
      (r32 (a3 + 2)) ∧
      ((0 : Int) ≤ a3 + 2) ∧
      ((a3 + 2 : Int) < (sL S : Int)) ∧
      (r32 (a3 + 3)) ∧
      ((0 : Int) ≤ a3 + 3) ∧
      ((a3 + 3 : Int) < (sL S : Int)) ∧
      (r32 (a3 + 4)) ∧
      ((0 : Int) ≤ a3 + 4) ∧
      ((a3 + 4 : Int) < (sL S : Int)) ∧
      (r32 (a3 + 5)) ∧
      ((0 : Int) ≤ a3 + 5) ∧
      ((a3 + 5 : Int) < (sL S : Int)) ∧
      (r32 (a3 + 6)) ∧
      ((0 : Int) ≤ a3 + 6) ∧
      ((a3 + 6 : Int) < (sL S : Int)) ∧
      (r32 (a3 + 7)) ∧
      ((0 : Int) ≤ a3 + 7) ∧
      ((a3 + 7 : Int) < (sL S : Int)) ∧
      (1 ≤ d) ∧
      (sK S a1 = 9) ∧
      Ok (d - 1) MX9_findIn [vR a1, vI (sx S (a3 + 1)), vI (sx S (a3 + 2)), vI (sx S (a3 + 3)), vI (sx S (a3 + 4)), vI (sx S (a3 + 5)), vJ (jOr (jShl (sx S (a3 + 6)) 32) (jAnd (sx S (a3 + 7)) 4294967295))] S F G (fun w889 S890 F891 G892 =>
      ∃ z894 : Int, w889 = some (vJ z894) ∧
      (r32 (a3 + 1)) ∧
      ((0 : Int) ≤ a3 + 1) ∧
      ((a3 + 1 : Int) < (sL S890 : Int)) ∧
      (r32 (a3 + 2)) ∧
      ((0 : Int) ≤ a3 + 2) ∧
      ((a3 + 2 : Int) < (sL S890 : Int)) ∧
      (r32 (a3 + 3)) ∧
      ((0 : Int) ≤ a3 + 3) ∧
      ((a3 + 3 : Int) < (sL S890 : Int)) ∧
      (r32 (a3 + 4)) ∧
      ((0 : Int) ≤ a3 + 4) ∧
      ((a3 + 4 : Int) < (sL S890 : Int)) ∧
      (r32 (a3 + 5)) ∧
      ((0 : Int) ≤ a3 + 5) ∧
      ((a3 + 5 : Int) < (sL S890 : Int)) ∧
      (r32 (a3 + 6)) ∧
      ((0 : Int) ≤ a3 + 6) ∧
      ((a3 + 6 : Int) < (sL S890 : Int)) ∧
      (r32 (a3 + 7)) ∧
      ((0 : Int) ≤ a3 + 7) ∧
      ((a3 + 7 : Int) < (sL S890 : Int)) ∧
      (sK S890 a2 = 10) ∧
      Ok (d - 1) MX10_findIn [vR a2, vI (sx S890 (a3 + 1)), vI (sx S890 (a3 + 2)), vI (sx S890 (a3 + 3)), vI (sx S890 (a3 + 4)), vI (sx S890 (a3 + 5)), vJ (jOr (jShl (sx S890 (a3 + 6)) 32) (jAnd (sx S890 (a3 + 7)) 4294967295))] S890 F891 G892 (fun w916 S917 F918 G919 =>
      ∃ z921 : Int, w916 = some (vJ z921) ∧
      ((z894 = z921) →
        V_law_2110 d S917 F918 G919 Q a0 a1 a2 a3) ∧
      ((¬ z894 = z921) →
        Q (some (vI 0)) S917 F918 G919)))) ∧
    ((bAnd (sx S a3) 63 = 24) →
      (r32 (a3 + 1)) ∧
      ((0 : Int) ≤ a3 + 1) ∧
      ((a3 + 1 : Int) < (sL S : Int)) ∧
      (r32 (a3 + 2)) ∧
      ((0 : Int) ≤ a3 + 2) ∧
      ((a3 + 2 : Int) < (sL S : Int)) ∧
      (r32 (a3 + 3)) ∧
      ((0 : Int) ≤ a3 + 3) ∧
      ((a3 + 3 : Int) < (sL S : Int)) ∧
      (r32 (a3 + 4)) ∧
      ((0 : Int) ≤ a3 + 4) ∧
      ((a3 + 4 : Int) < (sL S : Int)) ∧
      (r32 (a3 + 5)) ∧
      ((0 : Int) ≤ a3 + 5) ∧
      ((a3 + 5 : Int) < (sL S : Int)) ∧
      (r32 (a3 + 6)) ∧
      ((0 : Int) ≤ a3 + 6) ∧
      ((a3 + 6 : Int) < (sL S : Int)) ∧
      (r32 (a3 + 7)) ∧
      ((0 : Int) ≤ a3 + 7) ∧
      ((a3 + 7 : Int) < (sL S : Int)) ∧
      (1 ≤ d) ∧
      (sK S a1 = 9) ∧
      Ok (d - 1) MX9_touched [vR a1, vI (sx S (a3 + 1)), vI (sx S (a3 + 2)), vI (sx S (a3 + 3)), vI (sx S (a3 + 4)), vI (sx S (a3 + 5)), vJ (jOr (jShl (sx S (a3 + 6)) 32) (jAnd (sx S (a3 + 7)) 4294967295))] S F G (fun w944 S945 F946 G947 =>
      ∃ z949 : Int, w944 = some (vJ z949) ∧
      (r32 (a3 + 1)) ∧
      ((0 : Int) ≤ a3 + 1) ∧
      ((a3 + 1 : Int) < (sL S945 : Int)) ∧
      (r32 (a3 + 2)) ∧
      ((0 : Int) ≤ a3 + 2) ∧
      ((a3 + 2 : Int) < (sL S945 : Int)) ∧
      (r32 (a3 + 3)) ∧
      ((0 : Int) ≤ a3 + 3) ∧
      ((a3 + 3 : Int) < (sL S945 : Int)) ∧
      (r32 (a3 + 4)) ∧
      ((0 : Int) ≤ a3 + 4) ∧
      ((a3 + 4 : Int) < (sL S945 : Int)) ∧
      (r32 (a3 + 5)) ∧
      ((0 : Int) ≤ a3 + 5) ∧
      ((a3 + 5 : Int) < (sL S945 : Int)) ∧
      (r32 (a3 + 6)) ∧
      ((0 : Int) ≤ a3 + 6) ∧
      ((a3 + 6 : Int) < (sL S945 : Int)) ∧
      (r32 (a3 + 7)) ∧
      ((0 : Int) ≤ a3 + 7) ∧
      ((a3 + 7 : Int) < (sL S945 : Int)) ∧
      (sK S945 a2 = 10) ∧
      Ok (d - 1) MX10_touched [vR a2, vI (sx S945 (a3 + 1)), vI (sx S945 (a3 + 2)), vI (sx S945 (a3 + 3)), vI (sx S945 (a3 + 4)), vI (sx S945 (a3 + 5)), vJ (jOr (jShl (sx S945 (a3 + 6)) 32) (jAnd (sx S945 (a3 + 7)) 4294967295))] S945 F946 G947 (fun w971 S972 F973 G974 =>
      ∃ z976 : Int, w971 = some (vJ z976) ∧
      ((z949 = z976) →
        V_law_2110 d S972 F973 G974 Q a0 a1 a2 a3) ∧
      ((¬ z949 = z976) →
        Q (some (vI 0)) S972 F973 G974)))) ∧
    ((bAnd (sx S a3) 63 = 25) →
      (r32 (a3 + 1)) ∧
      ((0 : Int) ≤ a3 + 1) ∧
      ((a3 + 1 : Int) < (sL S : Int)) ∧
      (r32 (a3 + 2)) ∧
      ((0 : Int) ≤ a3 + 2) ∧
      ((a3 + 2 : Int) < (sL S : Int)) ∧
      (r32 (a3 + 3)) ∧
      ((0 : Int) ≤ a3 + 3) ∧
      ((a3 + 3 : Int) < (sL S : Int)) ∧
      (r32 (a3 + 4)) ∧
      ((0 : Int) ≤ a3 + 4) ∧
      ((a3 + 4 : Int) < (sL S : Int)) ∧
      (1 ≤ d) ∧
      (sK S a1 = 9) ∧
      Ok (d - 1) MX9_ahead [vR a1, vI (sx S (a3 + 1)), vI (sx S (a3 + 2)), vI (sx S (a3 + 3)), vI (sx S (a3 + 4))] S F G (fun w990 S991 F992 G993 =>
      ∃ z995 : Int, w990 = some (vJ z995) ∧
      (r32 (a3 + 1)) ∧
      ((0 : Int) ≤ a3 + 1) ∧
      ((a3 + 1 : Int) < (sL S991 : Int)) ∧
      (r32 (a3 + 2)) ∧
      ((0 : Int) ≤ a3 + 2) ∧
      ((a3 + 2 : Int) < (sL S991 : Int)) ∧
      (r32 (a3 + 3)) ∧
      ((0 : Int) ≤ a3 + 3) ∧
      ((a3 + 3 : Int) < (sL S991 : Int)) ∧
      (r32 (a3 + 4)) ∧
      ((0 : Int) ≤ a3 + 4) ∧
      ((a3 + 4 : Int) < (sL S991 : Int)) ∧
      (sK S991 a2 = 10) ∧
      Ok (d - 1) MX10_ahead [vR a2, vI (sx S991 (a3 + 1)), vI (sx S991 (a3 + 2)), vI (sx S991 (a3 + 3)), vI (sx S991 (a3 + 4))] S991 F992 G993 (fun w1008 S1009 F1010 G1011 =>
      ∃ z1013 : Int, w1008 = some (vJ z1013) ∧
      ((z995 = z1013) →
        V_law_2110 d S1009 F1010 G1011 Q a0 a1 a2 a3) ∧
      ((¬ z995 = z1013) →
        Q (some (vI 0)) S1009 F1010 G1011)))) ∧
    ((bAnd (sx S a3) 63 = 26) →
      (r32 (a3 + 1)) ∧
      ((0 : Int) ≤ a3 + 1) ∧
      ((a3 + 1 : Int) < (sL S : Int)) ∧
      (r32 (a3 + 2)) ∧
      ((0 : Int) ≤ a3 + 2) ∧
      ((a3 + 2 : Int) < (sL S : Int)) ∧
      (1 ≤ d) ∧
      (sK S a1 = 9) ∧
      Ok (d - 1) MX9_depot [vR a1, vI (sx S (a3 + 1)), vI (sx S (a3 + 2))] S F G (fun w1021 S1022 F1023 G1024 =>
      ∃ z1026 : Int, w1021 = some (vJ z1026) ∧
      (r32 (a3 + 1)) ∧
      ((0 : Int) ≤ a3 + 1) ∧
      ((a3 + 1 : Int) < (sL S1022 : Int)) ∧
      (r32 (a3 + 2)) ∧
      ((0 : Int) ≤ a3 + 2) ∧
      ((a3 + 2 : Int) < (sL S1022 : Int)) ∧
      (sK S1022 a2 = 10) ∧
      Ok (d - 1) MX10_depot [vR a2, vI (sx S1022 (a3 + 1)), vI (sx S1022 (a3 + 2))] S1022 F1023 G1024 (fun w1033 S1034 F1035 G1036 =>
      ∃ z1038 : Int, w1033 = some (vJ z1038) ∧
      ((z1026 = z1038) →
        V_law_2110 d S1034 F1035 G1036 Q a0 a1 a2 a3) ∧
      ((¬ z1026 = z1038) →
        Q (some (vI 0)) S1034 F1035 G1036)))) ∧
    ((bAnd (sx S a3) 63 = 27) →
      (r32 (a3 + 1)) ∧
      ((0 : Int) ≤ a3 + 1) ∧
      ((a3 + 1 : Int) < (sL S : Int)) ∧
      (r32 (a3 + 2)) ∧
      ((0 : Int) ≤ a3 + 2) ∧
      ((a3 + 2 : Int) < (sL S : Int)) ∧
      (r32 (a3 + 3)) ∧
      ((0 : Int) ≤ a3 + 3) ∧
      ((a3 + 3 : Int) < (sL S : Int)) ∧
      (r32 (a3 + 4)) ∧
      ((0 : Int) ≤ a3 + 4) ∧
      ((a3 + 4 : Int) < (sL S : Int)) ∧
      (1 ≤ d) ∧
      (sK S a1 = 9) ∧
      Ok (d - 1) MX9_window [vR a1, vI (sx S (a3 + 1)), vI (sx S (a3 + 2)), vI (sx S (a3 + 3)), vI (sx S (a3 + 4))] S F G (fun w1052 S1053 F1054 G1055 =>
      ∃ z1057 : Int, w1052 = some (vJ z1057) ∧
      (r32 (a3 + 1)) ∧
      ((0 : Int) ≤ a3 + 1) ∧
      ((a3 + 1 : Int) < (sL S1053 : Int)) ∧
      (r32 (a3 + 2)) ∧
      ((0 : Int) ≤ a3 + 2) ∧
      ((a3 + 2 : Int) < (sL S1053 : Int)) ∧
      (r32 (a3 + 3)) ∧
      ((0 : Int) ≤ a3 + 3) ∧
      ((a3 + 3 : Int) < (sL S1053 : Int)) ∧
      (r32 (a3 + 4)) ∧
      ((0 : Int) ≤ a3 + 4) ∧
      ((a3 + 4 : Int) < (sL S1053 : Int)) ∧
      (sK S1053 a2 = 10) ∧
      Ok (d - 1) MX10_window [vR a2, vI (sx S1053 (a3 + 1)), vI (sx S1053 (a3 + 2)), vI (sx S1053 (a3 + 3)), vI (sx S1053 (a3 + 4))] S1053 F1054 G1055 (fun w1070 S1071 F1072 G1073 =>
      ∃ z1075 : Int, w1070 = some (vJ z1075) ∧
      ((z1057 = z1075) →
        V_law_2110 d S1071 F1072 G1073 Q a0 a1 a2 a3) ∧
      ((¬ z1057 = z1075) →
        Q (some (vI 0)) S1071 F1072 G1073)))) ∧
    ((bAnd (sx S a3) 63 = 28) →
      (r32 (a3 + 1)) ∧
      ((0 : Int) ≤ a3 + 1) ∧
      ((a3 + 1 : Int) < (sL S : Int)) ∧
      (r32 (a3 + 2)) ∧
      ((0 : Int) ≤ a3 + 2) ∧
      ((a3 + 2 : Int) < (sL S : Int)) ∧
      (r32 (a3 + 3)) ∧
      ((0 : Int) ≤ a3 + 3) ∧
      ((a3 + 3 : Int) < (sL S : Int)) ∧
      (1 ≤ d) ∧
      (sK S a1 = 9) ∧
      Ok (d - 1) MX9_line [vR a1, vI (sx S (a3 + 1)), vI (sx S (a3 + 2)), vI (sx S (a3 + 3))] S F G (fun w1086 S1087 F1088 G1089 =>
      ∃ z1091 : Int, w1086 = some (vJ z1091) ∧
      (r32 (a3 + 1)) ∧
      ((0 : Int) ≤ a3 + 1) ∧
      ((a3 + 1 : Int) < (sL S1087 : Int)) ∧
      (r32 (a3 + 2)) ∧
      ((0 : Int) ≤ a3 + 2) ∧
      ((a3 + 2 : Int) < (sL S1087 : Int)) ∧
      (r32 (a3 + 3)) ∧
      ((0 : Int) ≤ a3 + 3) ∧
      ((a3 + 3 : Int) < (sL S1087 : Int)) ∧
      (sK S1087 a2 = 10) ∧
      Ok (d - 1) MX10_line [vR a2, vI (sx S1087 (a3 + 1)), vI (sx S1087 (a3 + 2)), vI (sx S1087 (a3 + 3))] S1087 F1088 G1089 (fun w1101 S1102 F1103 G1104 =>
      ∃ z1106 : Int, w1101 = some (vJ z1106) ∧
      ((z1091 = z1106) →
        V_law_2110 d S1102 F1103 G1104 Q a0 a1 a2 a3) ∧
      ((¬ z1091 = z1106) →
        Q (some (vI 0)) S1102 F1103 G1104)))) ∧
    ((bAnd (sx S a3) 63 = 29) →
      (r32 (a3 + 1)) ∧
      ((0 : Int) ≤ a3 + 1) ∧
      ((a3 + 1 : Int) < (sL S : Int)) ∧
      (r32 (a3 + 2)) ∧
      ((0 : Int) ≤ a3 + 2) ∧
      ((a3 + 2 : Int) < (sL S : Int)) ∧
      (1 ≤ d) ∧
      (sK S a1 = 9) ∧
      Ok (d - 1) MX9_borders [vR a1, vI (sx S (a3 + 1)), vI (sx S (a3 + 2))] S F G (fun w1114 S1115 F1116 G1117 =>
      ∃ z1119 : Int, w1114 = some (vI z1119) ∧
      (r32 (a3 + 1)) ∧
      ((0 : Int) ≤ a3 + 1) ∧
      ((a3 + 1 : Int) < (sL S1115 : Int)) ∧
      (r32 (a3 + 2)) ∧
      ((0 : Int) ≤ a3 + 2) ∧
      ((a3 + 2 : Int) < (sL S1115 : Int)) ∧
      (sK S1115 a2 = 10) ∧
      Ok (d - 1) MX10_borders [vR a2, vI (sx S1115 (a3 + 1)), vI (sx S1115 (a3 + 2))] S1115 F1116 G1117 (fun w1126 S1127 F1128 G1129 =>
      ∃ z1131 : Int, w1126 = some (vI z1131) ∧
      ((z1119 = z1131) →
        V_law_2110 d S1127 F1128 G1129 Q a0 a1 a2 a3) ∧
      ((¬ z1119 = z1131) →
        Q (some (vI 0)) S1127 F1128 G1129)))) ∧
    ((bAnd (sx S a3) 63 = 30) →
      (r32 (a3 + 1)) ∧
      ((0 : Int) ≤ a3 + 1) ∧
      ((a3 + 1 : Int) < (sL S : Int)) ∧
      (r32 (a3 + 2)) ∧
      ((0 : Int) ≤ a3 + 2) ∧
      ((a3 + 2 : Int) < (sL S : Int)) ∧
      (1 ≤ d) ∧
      (sK S a1 = 9) ∧
      Ok (d - 1) MX9_border [vR a1, vI (sx S (a3 + 1)), vI (sx S (a3 + 2))] S F G (fun w1139 S1140 F1141 G1142 =>
      ∃ z1144 : Int, w1139 = some (vI z1144) ∧
      (r32 (a3 + 1)) ∧
      ((0 : Int) ≤ a3 + 1) ∧
      ((a3 + 1 : Int) < (sL S1140 : Int)) ∧
      (r32 (a3 + 2)) ∧
      ((0 : Int) ≤ a3 + 2) ∧
      ((a3 + 2 : Int) < (sL S1140 : Int)) ∧
      (sK S1140 a2 = 10) ∧
      Ok (d - 1) MX10_border [vR a2, vI (sx S1140 (a3 + 1)), vI (sx S1140 (a3 + 2))] S1140 F1141 G1142 (fun w1151 S1152 F1153 G1154 =>
      ∃ z1156 : Int, w1151 = some (vI z1156) ∧
      ((z1144 = z1156) →
        V_law_2110 d S1152 F1153 G1154 Q a0 a1 a2 a3) ∧
      ((¬ z1144 = z1156) →
        Q (some (vI 0)) S1152 F1153 G1154)))) ∧
    ((bAnd (sx S a3) 63 = 31) →
      (r32 (a3 + 1)) ∧
      ((0 : Int) ≤ a3 + 1) ∧
      ((a3 + 1 : Int) < (sL S : Int)) ∧
      (r32 (a3 + 2)) ∧
      ((0 : Int) ≤ a3 + 2) ∧
      ((a3 + 2 : Int) < (sL S : Int)) ∧
      (1 ≤ d) ∧
      (sK S a1 = 9) ∧
      Ok (d - 1) MX9_act [vR a1, vI (sx S (a3 + 1)), vI (sx S (a3 + 2))] S F G (fun w1164 S1165 F1166 G1167 =>
      ∃ z1169 : Int, w1164 = some (vJ z1169) ∧
      (r32 (a3 + 1)) ∧
      ((0 : Int) ≤ a3 + 1) ∧
      ((a3 + 1 : Int) < (sL S1165 : Int)) ∧
      (r32 (a3 + 2)) ∧
      ((0 : Int) ≤ a3 + 2) ∧
      ((a3 + 2 : Int) < (sL S1165 : Int)) ∧
      (sK S1165 a2 = 10) ∧
      Ok (d - 1) MX10_act [vR a2, vI (sx S1165 (a3 + 1)), vI (sx S1165 (a3 + 2))] S1165 F1166 G1167 (fun w1176 S1177 F1178 G1179 =>
      ∃ z1181 : Int, w1176 = some (vJ z1181) ∧
      ((z1169 = z1181) →
        V_law_2110 d S1177 F1178 G1179 Q a0 a1 a2 a3) ∧
      ((¬ z1169 = z1181) →
        Q (some (vI 0)) S1177 F1178 G1179)))) ∧
    ((bAnd (sx S a3) 63 = 32) →
      (r32 (a3 + 1)) ∧
      ((0 : Int) ≤ a3 + 1) ∧
      ((a3 + 1 : Int) < (sL S : Int)) ∧
      (1 ≤ d) ∧
      (sK S a1 = 9) ∧
      Ok (d - 1) MX9_count [vR a1, vI (sx S (a3 + 1))] S F G (fun w1186 S1187 F1188 G1189 =>
      ∃ z1191 : Int, w1186 = some (vJ z1191) ∧
      (r32 (a3 + 1)) ∧
      ((0 : Int) ≤ a3 + 1) ∧
      ((a3 + 1 : Int) < (sL S1187 : Int)) ∧
      (sK S1187 a2 = 10) ∧
      Ok (d - 1) MX10_count [vR a2, vI (sx S1187 (a3 + 1))] S1187 F1188 G1189 (fun w1195 S1196 F1197 G1198 =>
      ∃ z1200 : Int, w1195 = some (vJ z1200) ∧
      ((z1191 = z1200) →
        V_law_2110 d S1196 F1197 G1198 Q a0 a1 a2 a3) ∧
      ((¬ z1191 = z1200) →
        Q (some (vI 0)) S1196 F1197 G1198)))) ∧
    ((bAnd (sx S a3) 63 < 0 ∨ 32 < bAnd (sx S a3) 63) →
      V_law_2110 d S F G Q a0 a1 a2 a3))
set_option maxRecDepth 50000 in
theorem R_law_18 {d : Nat} {S : AS} {F : AF} {G : AG} {Q : AQ} {a0 : Nat} {a1 : Nat} {a2 : Nat} {a3 : Int} (h : V_law_18 d S F G Q a0 a1 a2 a3) : Go d Mlaw 18 [some (vR a0), some (vR a1), some (vR a2), some (vI a3)] [] S F G Q := by
  unfold V_law_18 at h
  refine go_iload_n (show decode code 18 = .ok (.iload_n 3, 1) by decide +kernel) (by rfl) ?_
  refine go_aload_n (show decode code 19 = .ok (.aload_n 0, 1) by decide +kernel) (by rfl) ?_
  refine go_scrlen (show decode code 20 = .ok (.arraylength, 1) by decide +kernel) rfl ?_
  refine go_bipush (show decode code 21 = .ok (.bipush 8, 2) by decide +kernel) (by decide) ?_
  obtain ⟨q1, h⟩ := h
  refine go_isub (show decode code 23 = .ok (.isub, 1) by decide +kernel) q1 ?_
  obtain ⟨ht, hf⟩ := h
  refine go_icmpgt (tgt := 2116) (show decode code 24 = .ok (.if_icmp .gt 2092, 3) by decide +kernel) (by decide) (fun hc => ?_) (fun hc => ?_)
  · have h := ht hc
    refine go_iconst (show decode code 2116 = .ok (.iconst 1, 1) by decide +kernel) (by decide) ?_
    exact go_zret (show decode code 2117 = .ok (.ireturn, 1) by decide +kernel) rfl (by decide) h
  · have h := hf hc
    refine go_aload_n (show decode code 27 = .ok (.aload_n 0, 1) by decide +kernel) (by rfl) ?_
    refine go_iload_n (show decode code 28 = .ok (.iload_n 3, 1) by decide +kernel) (by rfl) ?_
    obtain ⟨q2, h⟩ := h
    obtain ⟨q3, h⟩ := h
    refine go_scrld (show decode code 29 = .ok (.iaload, 1) by decide +kernel) rfl q2 q3 ?_
    refine go_bipush (show decode code 30 = .ok (.bipush 63, 2) by decide +kernel) (by decide) ?_
    refine go_iand (show decode code 32 = .ok (.iand, 1) by decide +kernel) ?_
    obtain ⟨h_0, h_1, h_2, h_3, h_4, h_5, h_6, h_7, h_8, h_9, h_10, h_11, h_12, h_13, h_14, h_15, h_16, h_17, h_18, h_19, h_20, h_21, h_22, h_23, h_24, h_25, h_26, h_27, h_28, h_29, h_30, h_31, h_32, h_d⟩ := h
    by_cases hd9 : bAnd (sx S a3) 63 < 0 ∨ 32 < bAnd (sx S a3) 63
    · have h := h_d hd9
      refine go_swOut (tgt := 2110) (show decode code 33 = .ok (.tableswitch 2077 0 32 #[147, 221, 297, 405, 493, 557, 665, 699, 712, 725, 738, 801, 824, 847, 911, 955, 1031, 1085, 1161, 1269, 1377, 1401, 1477, 1551, 1659, 1767, 1821, 1855, 1909, 1953, 1986, 2019, 2053], 147) by decide +kernel) hd9 (by decide) ?_
      exact R_law_2110 h
    by_cases hc0 : bAnd (sx S a3) 63 = 0
    · have h := h_0 hc0
      refine go_swIn (tgt := 180) (show decode code 33 = .ok (.tableswitch 2077 0 32 #[147, 221, 297, 405, 493, 557, 665, 699, 712, 725, 738, 801, 824, 847, 911, 955, 1031, 1085, 1161, 1269, 1377, 1401, 1477, 1551, 1659, 1767, 1821, 1855, 1909, 1953, 1986, 2019, 2053], 147) by decide +kernel) (by omega) (by omega) (by rw [hc0]; rfl) (by decide) ?_
      refine go_aload_n (show decode code 180 = .ok (.aload_n 1, 1) by decide +kernel) (by rfl) ?_
      refine go_aload_n (show decode code 181 = .ok (.aload_n 0, 1) by decide +kernel) (by rfl) ?_
      refine go_iload_n (show decode code 182 = .ok (.iload_n 3, 1) by decide +kernel) (by rfl) ?_
      refine go_iconst (show decode code 183 = .ok (.iconst 1, 1) by decide +kernel) (by decide) ?_
      obtain ⟨q4, h⟩ := h
      refine go_iadd (show decode code 184 = .ok (.iadd, 1) by decide +kernel) q4 ?_
      obtain ⟨q5, h⟩ := h
      obtain ⟨q6, h⟩ := h
      refine go_scrld (show decode code 185 = .ok (.iaload, 1) by decide +kernel) rfl q5 q6 ?_
      refine go_aload_n (show decode code 186 = .ok (.aload_n 0, 1) by decide +kernel) (by rfl) ?_
      refine go_iload_n (show decode code 187 = .ok (.iload_n 3, 1) by decide +kernel) (by rfl) ?_
      refine go_iconst (show decode code 188 = .ok (.iconst 2, 1) by decide +kernel) (by decide) ?_
      obtain ⟨q7, h⟩ := h
      refine go_iadd (show decode code 189 = .ok (.iadd, 1) by decide +kernel) q7 ?_
      obtain ⟨q8, h⟩ := h
      obtain ⟨q9, h⟩ := h
      refine go_scrld (show decode code 190 = .ok (.iaload, 1) by decide +kernel) rfl q8 q9 ?_
      refine go_aload_n (show decode code 191 = .ok (.aload_n 0, 1) by decide +kernel) (by rfl) ?_
      refine go_iload_n (show decode code 192 = .ok (.iload_n 3, 1) by decide +kernel) (by rfl) ?_
      refine go_iconst (show decode code 193 = .ok (.iconst 3, 1) by decide +kernel) (by decide) ?_
      obtain ⟨q10, h⟩ := h
      refine go_iadd (show decode code 194 = .ok (.iadd, 1) by decide +kernel) q10 ?_
      obtain ⟨q11, h⟩ := h
      obtain ⟨q12, h⟩ := h
      refine go_scrld (show decode code 195 = .ok (.iaload, 1) by decide +kernel) rfl q11 q12 ?_
      refine go_i2l (show decode code 196 = .ok (.i2l, 1) by decide +kernel) ?_
      refine go_bipush (show decode code 197 = .ok (.bipush 32, 2) by decide +kernel) (by decide) ?_
      refine go_lshl (show decode code 199 = .ok (.lshl, 1) by decide +kernel) ?_
      refine go_aload_n (show decode code 200 = .ok (.aload_n 0, 1) by decide +kernel) (by rfl) ?_
      refine go_iload_n (show decode code 201 = .ok (.iload_n 3, 1) by decide +kernel) (by rfl) ?_
      refine go_iconst (show decode code 202 = .ok (.iconst 4, 1) by decide +kernel) (by decide) ?_
      obtain ⟨q13, h⟩ := h
      refine go_iadd (show decode code 203 = .ok (.iadd, 1) by decide +kernel) q13 ?_
      obtain ⟨q14, h⟩ := h
      obtain ⟨q15, h⟩ := h
      refine go_scrld (show decode code 204 = .ok (.iaload, 1) by decide +kernel) rfl q14 q15 ?_
      refine go_i2l (show decode code 205 = .ok (.i2l, 1) by decide +kernel) ?_
      refine go_ldc2 (show decode code 206 = .ok (.ldc2_w 13, 3) by decide +kernel) lc_L_13 (by decide) ?_
      refine go_land (show decode code 209 = .ok (.land, 1) by decide +kernel) ?_
      refine go_lor (show decode code 210 = .ok (.lor, 1) by decide +kernel) ?_
      obtain ⟨q16, h⟩ := h
      obtain ⟨q21, h⟩ := h
      refine go_callV (d2 := d - 1) (M2 := MX9_world) (n := 3) (ci := 9) (av := [vI (sx S (a3 + 1)), vI (sx S (a3 + 2)), vJ (jOr (jShl (sx S (a3 + 3)) 32) (jAnd (sx S (a3 + 4)) 4294967295))]) (st := []) (show decode code 211 = .ok (.invokevirtual 15, 3) by decide +kernel) ml_L_15 mt_X9_world min_X9_world mse_X9_world (by decide) q21 rfl (Nat.le_of_ble_eq_true rfl) (by omega) (ok_mono h (fun w17 S18 F19 G20 h => ?_))
      obtain ⟨z22, e9, h⟩ := h
      subst e9
      show Go d Mlaw 214 [some (vR a0), some (vR a1), some (vR a2), some (vI a3)] [vJ z22] S18 F19 G20 Q
      refine go_aload_n (show decode code 214 = .ok (.aload_n 2, 1) by decide +kernel) (by rfl) ?_
      refine go_aload_n (show decode code 215 = .ok (.aload_n 0, 1) by decide +kernel) (by rfl) ?_
      refine go_iload_n (show decode code 216 = .ok (.iload_n 3, 1) by decide +kernel) (by rfl) ?_
      refine go_iconst (show decode code 217 = .ok (.iconst 1, 1) by decide +kernel) (by decide) ?_
      obtain ⟨q23, h⟩ := h
      refine go_iadd (show decode code 218 = .ok (.iadd, 1) by decide +kernel) q23 ?_
      obtain ⟨q24, h⟩ := h
      obtain ⟨q25, h⟩ := h
      refine go_scrld (show decode code 219 = .ok (.iaload, 1) by decide +kernel) rfl q24 q25 ?_
      refine go_aload_n (show decode code 220 = .ok (.aload_n 0, 1) by decide +kernel) (by rfl) ?_
      refine go_iload_n (show decode code 221 = .ok (.iload_n 3, 1) by decide +kernel) (by rfl) ?_
      refine go_iconst (show decode code 222 = .ok (.iconst 2, 1) by decide +kernel) (by decide) ?_
      obtain ⟨q26, h⟩ := h
      refine go_iadd (show decode code 223 = .ok (.iadd, 1) by decide +kernel) q26 ?_
      obtain ⟨q27, h⟩ := h
      obtain ⟨q28, h⟩ := h
      refine go_scrld (show decode code 224 = .ok (.iaload, 1) by decide +kernel) rfl q27 q28 ?_
      refine go_aload_n (show decode code 225 = .ok (.aload_n 0, 1) by decide +kernel) (by rfl) ?_
      refine go_iload_n (show decode code 226 = .ok (.iload_n 3, 1) by decide +kernel) (by rfl) ?_
      refine go_iconst (show decode code 227 = .ok (.iconst 3, 1) by decide +kernel) (by decide) ?_
      obtain ⟨q29, h⟩ := h
      refine go_iadd (show decode code 228 = .ok (.iadd, 1) by decide +kernel) q29 ?_
      obtain ⟨q30, h⟩ := h
      obtain ⟨q31, h⟩ := h
      refine go_scrld (show decode code 229 = .ok (.iaload, 1) by decide +kernel) rfl q30 q31 ?_
      refine go_i2l (show decode code 230 = .ok (.i2l, 1) by decide +kernel) ?_
      refine go_bipush (show decode code 231 = .ok (.bipush 32, 2) by decide +kernel) (by decide) ?_
      refine go_lshl (show decode code 233 = .ok (.lshl, 1) by decide +kernel) ?_
      refine go_aload_n (show decode code 234 = .ok (.aload_n 0, 1) by decide +kernel) (by rfl) ?_
      refine go_iload_n (show decode code 235 = .ok (.iload_n 3, 1) by decide +kernel) (by rfl) ?_
      refine go_iconst (show decode code 236 = .ok (.iconst 4, 1) by decide +kernel) (by decide) ?_
      obtain ⟨q32, h⟩ := h
      refine go_iadd (show decode code 237 = .ok (.iadd, 1) by decide +kernel) q32 ?_
      obtain ⟨q33, h⟩ := h
      obtain ⟨q34, h⟩ := h
      refine go_scrld (show decode code 238 = .ok (.iaload, 1) by decide +kernel) rfl q33 q34 ?_
      refine go_i2l (show decode code 239 = .ok (.i2l, 1) by decide +kernel) ?_
      refine go_ldc2 (show decode code 240 = .ok (.ldc2_w 13, 3) by decide +kernel) lc_L_13 (by decide) ?_
      refine go_land (show decode code 243 = .ok (.land, 1) by decide +kernel) ?_
      refine go_lor (show decode code 244 = .ok (.lor, 1) by decide +kernel) ?_
      obtain ⟨q39, h⟩ := h
      refine go_callV (d2 := d - 1) (M2 := MX10_world) (n := 3) (ci := 10) (av := [vI (sx S18 (a3 + 1)), vI (sx S18 (a3 + 2)), vJ (jOr (jShl (sx S18 (a3 + 3)) 32) (jAnd (sx S18 (a3 + 4)) 4294967295))]) (st := [vJ z22]) (show decode code 245 = .ok (.invokevirtual 19, 3) by decide +kernel) ml_L_19 mt_X10_world min_X10_world mse_X10_world (by decide) q39 rfl (Nat.le_of_ble_eq_true rfl) (by omega) (ok_mono h (fun w35 S36 F37 G38 h => ?_))
      obtain ⟨z40, e9, h⟩ := h
      subst e9
      show Go d Mlaw 248 [some (vR a0), some (vR a1), some (vR a2), some (vI a3)] [vJ z40, vJ z22] S36 F37 G38 Q
      obtain ⟨ht, hf⟩ := h
      refine go_jeq (tgt := 2110) (show decode code 248 = .ok (.lcmp, 1) by decide +kernel) (show decode code 249 = .ok (.ifCond .eq 1861, 3) by decide +kernel) (by decide) (fun hc => ?_) (fun hc => ?_)
      · have h := ht hc
        exact R_law_2110 h
      · have h := hf hc
        refine go_iconst (show decode code 252 = .ok (.iconst 0, 1) by decide +kernel) (by decide) ?_
        exact go_zret (show decode code 253 = .ok (.ireturn, 1) by decide +kernel) rfl (by decide) h
    by_cases hc1 : bAnd (sx S a3) 63 = 1
    · have h := h_1 hc1
      refine go_swIn (tgt := 254) (show decode code 33 = .ok (.tableswitch 2077 0 32 #[147, 221, 297, 405, 493, 557, 665, 699, 712, 725, 738, 801, 824, 847, 911, 955, 1031, 1085, 1161, 1269, 1377, 1401, 1477, 1551, 1659, 1767, 1821, 1855, 1909, 1953, 1986, 2019, 2053], 147) by decide +kernel) (by omega) (by omega) (by rw [hc1]; rfl) (by decide) ?_
      refine go_aload_n (show decode code 254 = .ok (.aload_n 1, 1) by decide +kernel) (by rfl) ?_
      refine go_aload_n (show decode code 255 = .ok (.aload_n 0, 1) by decide +kernel) (by rfl) ?_
      refine go_iload_n (show decode code 256 = .ok (.iload_n 3, 1) by decide +kernel) (by rfl) ?_
      refine go_iconst (show decode code 257 = .ok (.iconst 1, 1) by decide +kernel) (by decide) ?_
      obtain ⟨q41, h⟩ := h
      refine go_iadd (show decode code 258 = .ok (.iadd, 1) by decide +kernel) q41 ?_
      obtain ⟨q42, h⟩ := h
      obtain ⟨q43, h⟩ := h
      refine go_scrld (show decode code 259 = .ok (.iaload, 1) by decide +kernel) rfl q42 q43 ?_
      refine go_aload_n (show decode code 260 = .ok (.aload_n 0, 1) by decide +kernel) (by rfl) ?_
      refine go_iload_n (show decode code 261 = .ok (.iload_n 3, 1) by decide +kernel) (by rfl) ?_
      refine go_iconst (show decode code 262 = .ok (.iconst 2, 1) by decide +kernel) (by decide) ?_
      obtain ⟨q44, h⟩ := h
      refine go_iadd (show decode code 263 = .ok (.iadd, 1) by decide +kernel) q44 ?_
      obtain ⟨q45, h⟩ := h
      obtain ⟨q46, h⟩ := h
      refine go_scrld (show decode code 264 = .ok (.iaload, 1) by decide +kernel) rfl q45 q46 ?_
      refine go_aload_n (show decode code 265 = .ok (.aload_n 0, 1) by decide +kernel) (by rfl) ?_
      refine go_iload_n (show decode code 266 = .ok (.iload_n 3, 1) by decide +kernel) (by rfl) ?_
      refine go_iconst (show decode code 267 = .ok (.iconst 3, 1) by decide +kernel) (by decide) ?_
      obtain ⟨q47, h⟩ := h
      refine go_iadd (show decode code 268 = .ok (.iadd, 1) by decide +kernel) q47 ?_
      obtain ⟨q48, h⟩ := h
      obtain ⟨q49, h⟩ := h
      refine go_scrld (show decode code 269 = .ok (.iaload, 1) by decide +kernel) rfl q48 q49 ?_
      refine go_aload_n (show decode code 270 = .ok (.aload_n 0, 1) by decide +kernel) (by rfl) ?_
      refine go_iload_n (show decode code 271 = .ok (.iload_n 3, 1) by decide +kernel) (by rfl) ?_
      refine go_iconst (show decode code 272 = .ok (.iconst 4, 1) by decide +kernel) (by decide) ?_
      obtain ⟨q50, h⟩ := h
      refine go_iadd (show decode code 273 = .ok (.iadd, 1) by decide +kernel) q50 ?_
      obtain ⟨q51, h⟩ := h
      obtain ⟨q52, h⟩ := h
      refine go_scrld (show decode code 274 = .ok (.iaload, 1) by decide +kernel) rfl q51 q52 ?_
      refine go_aload_n (show decode code 275 = .ok (.aload_n 0, 1) by decide +kernel) (by rfl) ?_
      refine go_iload_n (show decode code 276 = .ok (.iload_n 3, 1) by decide +kernel) (by rfl) ?_
      refine go_iconst (show decode code 277 = .ok (.iconst 5, 1) by decide +kernel) (by decide) ?_
      obtain ⟨q53, h⟩ := h
      refine go_iadd (show decode code 278 = .ok (.iadd, 1) by decide +kernel) q53 ?_
      obtain ⟨q54, h⟩ := h
      obtain ⟨q55, h⟩ := h
      refine go_scrld (show decode code 279 = .ok (.iaload, 1) by decide +kernel) rfl q54 q55 ?_
      refine go_aload_n (show decode code 280 = .ok (.aload_n 0, 1) by decide +kernel) (by rfl) ?_
      refine go_iload_n (show decode code 281 = .ok (.iload_n 3, 1) by decide +kernel) (by rfl) ?_
      refine go_bipush (show decode code 282 = .ok (.bipush 6, 2) by decide +kernel) (by decide) ?_
      obtain ⟨q56, h⟩ := h
      refine go_iadd (show decode code 284 = .ok (.iadd, 1) by decide +kernel) q56 ?_
      obtain ⟨q57, h⟩ := h
      obtain ⟨q58, h⟩ := h
      refine go_scrld (show decode code 285 = .ok (.iaload, 1) by decide +kernel) rfl q57 q58 ?_
      obtain ⟨q59, h⟩ := h
      obtain ⟨q64, h⟩ := h
      refine go_callV (d2 := d - 1) (M2 := MX9_add) (n := 6) (ci := 9) (av := [vI (sx S (a3 + 1)), vI (sx S (a3 + 2)), vI (sx S (a3 + 3)), vI (sx S (a3 + 4)), vI (sx S (a3 + 5)), vI (sx S (a3 + 6))]) (st := []) (show decode code 286 = .ok (.invokevirtual 20, 3) by decide +kernel) ml_L_20 mt_X9_add min_X9_add mse_X9_add (by decide) q64 rfl (Nat.le_of_ble_eq_true rfl) (by omega) (ok_mono h (fun w60 S61 F62 G63 h => ?_))
      obtain ⟨z65, e9, h⟩ := h
      subst e9
      show Go d Mlaw 289 [some (vR a0), some (vR a1), some (vR a2), some (vI a3)] [vJ z65] S61 F62 G63 Q
      refine go_aload_n (show decode code 289 = .ok (.aload_n 2, 1) by decide +kernel) (by rfl) ?_
      refine go_aload_n (show decode code 290 = .ok (.aload_n 0, 1) by decide +kernel) (by rfl) ?_
      refine go_iload_n (show decode code 291 = .ok (.iload_n 3, 1) by decide +kernel) (by rfl) ?_
      refine go_iconst (show decode code 292 = .ok (.iconst 1, 1) by decide +kernel) (by decide) ?_
      obtain ⟨q66, h⟩ := h
      refine go_iadd (show decode code 293 = .ok (.iadd, 1) by decide +kernel) q66 ?_
      obtain ⟨q67, h⟩ := h
      obtain ⟨q68, h⟩ := h
      refine go_scrld (show decode code 294 = .ok (.iaload, 1) by decide +kernel) rfl q67 q68 ?_
      refine go_aload_n (show decode code 295 = .ok (.aload_n 0, 1) by decide +kernel) (by rfl) ?_
      refine go_iload_n (show decode code 296 = .ok (.iload_n 3, 1) by decide +kernel) (by rfl) ?_
      refine go_iconst (show decode code 297 = .ok (.iconst 2, 1) by decide +kernel) (by decide) ?_
      obtain ⟨q69, h⟩ := h
      refine go_iadd (show decode code 298 = .ok (.iadd, 1) by decide +kernel) q69 ?_
      obtain ⟨q70, h⟩ := h
      obtain ⟨q71, h⟩ := h
      refine go_scrld (show decode code 299 = .ok (.iaload, 1) by decide +kernel) rfl q70 q71 ?_
      refine go_aload_n (show decode code 300 = .ok (.aload_n 0, 1) by decide +kernel) (by rfl) ?_
      refine go_iload_n (show decode code 301 = .ok (.iload_n 3, 1) by decide +kernel) (by rfl) ?_
      refine go_iconst (show decode code 302 = .ok (.iconst 3, 1) by decide +kernel) (by decide) ?_
      obtain ⟨q72, h⟩ := h
      refine go_iadd (show decode code 303 = .ok (.iadd, 1) by decide +kernel) q72 ?_
      obtain ⟨q73, h⟩ := h
      obtain ⟨q74, h⟩ := h
      refine go_scrld (show decode code 304 = .ok (.iaload, 1) by decide +kernel) rfl q73 q74 ?_
      refine go_aload_n (show decode code 305 = .ok (.aload_n 0, 1) by decide +kernel) (by rfl) ?_
      refine go_iload_n (show decode code 306 = .ok (.iload_n 3, 1) by decide +kernel) (by rfl) ?_
      refine go_iconst (show decode code 307 = .ok (.iconst 4, 1) by decide +kernel) (by decide) ?_
      obtain ⟨q75, h⟩ := h
      refine go_iadd (show decode code 308 = .ok (.iadd, 1) by decide +kernel) q75 ?_
      obtain ⟨q76, h⟩ := h
      obtain ⟨q77, h⟩ := h
      refine go_scrld (show decode code 309 = .ok (.iaload, 1) by decide +kernel) rfl q76 q77 ?_
      refine go_aload_n (show decode code 310 = .ok (.aload_n 0, 1) by decide +kernel) (by rfl) ?_
      refine go_iload_n (show decode code 311 = .ok (.iload_n 3, 1) by decide +kernel) (by rfl) ?_
      refine go_iconst (show decode code 312 = .ok (.iconst 5, 1) by decide +kernel) (by decide) ?_
      obtain ⟨q78, h⟩ := h
      refine go_iadd (show decode code 313 = .ok (.iadd, 1) by decide +kernel) q78 ?_
      obtain ⟨q79, h⟩ := h
      obtain ⟨q80, h⟩ := h
      refine go_scrld (show decode code 314 = .ok (.iaload, 1) by decide +kernel) rfl q79 q80 ?_
      refine go_aload_n (show decode code 315 = .ok (.aload_n 0, 1) by decide +kernel) (by rfl) ?_
      refine go_iload_n (show decode code 316 = .ok (.iload_n 3, 1) by decide +kernel) (by rfl) ?_
      refine go_bipush (show decode code 317 = .ok (.bipush 6, 2) by decide +kernel) (by decide) ?_
      obtain ⟨q81, h⟩ := h
      refine go_iadd (show decode code 319 = .ok (.iadd, 1) by decide +kernel) q81 ?_
      obtain ⟨q82, h⟩ := h
      obtain ⟨q83, h⟩ := h
      refine go_scrld (show decode code 320 = .ok (.iaload, 1) by decide +kernel) rfl q82 q83 ?_
      obtain ⟨q88, h⟩ := h
      refine go_callV (d2 := d - 1) (M2 := MX10_add) (n := 6) (ci := 10) (av := [vI (sx S61 (a3 + 1)), vI (sx S61 (a3 + 2)), vI (sx S61 (a3 + 3)), vI (sx S61 (a3 + 4)), vI (sx S61 (a3 + 5)), vI (sx S61 (a3 + 6))]) (st := [vJ z65]) (show decode code 321 = .ok (.invokevirtual 24, 3) by decide +kernel) ml_L_24 mt_X10_add min_X10_add mse_X10_add (by decide) q88 rfl (Nat.le_of_ble_eq_true rfl) (by omega) (ok_mono h (fun w84 S85 F86 G87 h => ?_))
      obtain ⟨z89, e9, h⟩ := h
      subst e9
      show Go d Mlaw 324 [some (vR a0), some (vR a1), some (vR a2), some (vI a3)] [vJ z89, vJ z65] S85 F86 G87 Q
      obtain ⟨ht, hf⟩ := h
      refine go_jeq (tgt := 2110) (show decode code 324 = .ok (.lcmp, 1) by decide +kernel) (show decode code 325 = .ok (.ifCond .eq 1785, 3) by decide +kernel) (by decide) (fun hc => ?_) (fun hc => ?_)
      · have h := ht hc
        exact R_law_2110 h
      · have h := hf hc
        refine go_iconst (show decode code 328 = .ok (.iconst 0, 1) by decide +kernel) (by decide) ?_
        exact go_zret (show decode code 329 = .ok (.ireturn, 1) by decide +kernel) rfl (by decide) h
    by_cases hc2 : bAnd (sx S a3) 63 = 2
    · have h := h_2 hc2
      refine go_swIn (tgt := 330) (show decode code 33 = .ok (.tableswitch 2077 0 32 #[147, 221, 297, 405, 493, 557, 665, 699, 712, 725, 738, 801, 824, 847, 911, 955, 1031, 1085, 1161, 1269, 1377, 1401, 1477, 1551, 1659, 1767, 1821, 1855, 1909, 1953, 1986, 2019, 2053], 147) by decide +kernel) (by omega) (by omega) (by rw [hc2]; rfl) (by decide) ?_
      refine go_aload_n (show decode code 330 = .ok (.aload_n 1, 1) by decide +kernel) (by rfl) ?_
      refine go_aload_n (show decode code 331 = .ok (.aload_n 0, 1) by decide +kernel) (by rfl) ?_
      refine go_iload_n (show decode code 332 = .ok (.iload_n 3, 1) by decide +kernel) (by rfl) ?_
      refine go_iconst (show decode code 333 = .ok (.iconst 1, 1) by decide +kernel) (by decide) ?_
      obtain ⟨q90, h⟩ := h
      refine go_iadd (show decode code 334 = .ok (.iadd, 1) by decide +kernel) q90 ?_
      obtain ⟨q91, h⟩ := h
      obtain ⟨q92, h⟩ := h
      refine go_scrld (show decode code 335 = .ok (.iaload, 1) by decide +kernel) rfl q91 q92 ?_
      refine go_aload_n (show decode code 336 = .ok (.aload_n 0, 1) by decide +kernel) (by rfl) ?_
      refine go_iload_n (show decode code 337 = .ok (.iload_n 3, 1) by decide +kernel) (by rfl) ?_
      refine go_iconst (show decode code 338 = .ok (.iconst 2, 1) by decide +kernel) (by decide) ?_
      obtain ⟨q93, h⟩ := h
      refine go_iadd (show decode code 339 = .ok (.iadd, 1) by decide +kernel) q93 ?_
      obtain ⟨q94, h⟩ := h
      obtain ⟨q95, h⟩ := h
      refine go_scrld (show decode code 340 = .ok (.iaload, 1) by decide +kernel) rfl q94 q95 ?_
      refine go_aload_n (show decode code 341 = .ok (.aload_n 0, 1) by decide +kernel) (by rfl) ?_
      refine go_iload_n (show decode code 342 = .ok (.iload_n 3, 1) by decide +kernel) (by rfl) ?_
      refine go_iconst (show decode code 343 = .ok (.iconst 3, 1) by decide +kernel) (by decide) ?_
      obtain ⟨q96, h⟩ := h
      refine go_iadd (show decode code 344 = .ok (.iadd, 1) by decide +kernel) q96 ?_
      obtain ⟨q97, h⟩ := h
      obtain ⟨q98, h⟩ := h
      refine go_scrld (show decode code 345 = .ok (.iaload, 1) by decide +kernel) rfl q97 q98 ?_
      refine go_aload_n (show decode code 346 = .ok (.aload_n 0, 1) by decide +kernel) (by rfl) ?_
      refine go_iload_n (show decode code 347 = .ok (.iload_n 3, 1) by decide +kernel) (by rfl) ?_
      refine go_iconst (show decode code 348 = .ok (.iconst 4, 1) by decide +kernel) (by decide) ?_
      obtain ⟨q99, h⟩ := h
      refine go_iadd (show decode code 349 = .ok (.iadd, 1) by decide +kernel) q99 ?_
      obtain ⟨q100, h⟩ := h
      obtain ⟨q101, h⟩ := h
      refine go_scrld (show decode code 350 = .ok (.iaload, 1) by decide +kernel) rfl q100 q101 ?_
      refine go_aload_n (show decode code 351 = .ok (.aload_n 0, 1) by decide +kernel) (by rfl) ?_
      refine go_iload_n (show decode code 352 = .ok (.iload_n 3, 1) by decide +kernel) (by rfl) ?_
      refine go_iconst (show decode code 353 = .ok (.iconst 5, 1) by decide +kernel) (by decide) ?_
      obtain ⟨q102, h⟩ := h
      refine go_iadd (show decode code 354 = .ok (.iadd, 1) by decide +kernel) q102 ?_
      obtain ⟨q103, h⟩ := h
      obtain ⟨q104, h⟩ := h
      refine go_scrld (show decode code 355 = .ok (.iaload, 1) by decide +kernel) rfl q103 q104 ?_
      refine go_aload_n (show decode code 356 = .ok (.aload_n 0, 1) by decide +kernel) (by rfl) ?_
      refine go_iload_n (show decode code 357 = .ok (.iload_n 3, 1) by decide +kernel) (by rfl) ?_
      refine go_bipush (show decode code 358 = .ok (.bipush 6, 2) by decide +kernel) (by decide) ?_
      obtain ⟨q105, h⟩ := h
      refine go_iadd (show decode code 360 = .ok (.iadd, 1) by decide +kernel) q105 ?_
      obtain ⟨q106, h⟩ := h
      obtain ⟨q107, h⟩ := h
      refine go_scrld (show decode code 361 = .ok (.iaload, 1) by decide +kernel) rfl q106 q107 ?_
      refine go_i2l (show decode code 362 = .ok (.i2l, 1) by decide +kernel) ?_
      refine go_bipush (show decode code 363 = .ok (.bipush 32, 2) by decide +kernel) (by decide) ?_
      refine go_lshl (show decode code 365 = .ok (.lshl, 1) by decide +kernel) ?_
      refine go_aload_n (show decode code 366 = .ok (.aload_n 0, 1) by decide +kernel) (by rfl) ?_
      refine go_iload_n (show decode code 367 = .ok (.iload_n 3, 1) by decide +kernel) (by rfl) ?_
      refine go_bipush (show decode code 368 = .ok (.bipush 7, 2) by decide +kernel) (by decide) ?_
      obtain ⟨q108, h⟩ := h
      refine go_iadd (show decode code 370 = .ok (.iadd, 1) by decide +kernel) q108 ?_
      obtain ⟨q109, h⟩ := h
      obtain ⟨q110, h⟩ := h
      refine go_scrld (show decode code 371 = .ok (.iaload, 1) by decide +kernel) rfl q109 q110 ?_
      refine go_i2l (show decode code 372 = .ok (.i2l, 1) by decide +kernel) ?_
      refine go_ldc2 (show decode code 373 = .ok (.ldc2_w 13, 3) by decide +kernel) lc_L_13 (by decide) ?_
      refine go_land (show decode code 376 = .ok (.land, 1) by decide +kernel) ?_
      refine go_lor (show decode code 377 = .ok (.lor, 1) by decide +kernel) ?_
      obtain ⟨q111, h⟩ := h
      obtain ⟨q116, h⟩ := h
      refine go_callV (d2 := d - 1) (M2 := MX9_pick) (n := 6) (ci := 9) (av := [vI (sx S (a3 + 1)), vI (sx S (a3 + 2)), vI (sx S (a3 + 3)), vI (sx S (a3 + 4)), vI (sx S (a3 + 5)), vJ (jOr (jShl (sx S (a3 + 6)) 32) (jAnd (sx S (a3 + 7)) 4294967295))]) (st := []) (show decode code 378 = .ok (.invokevirtual 25, 3) by decide +kernel) ml_L_25 mt_X9_pick min_X9_pick mse_X9_pick (by decide) q116 rfl (Nat.le_of_ble_eq_true rfl) (by omega) (ok_mono h (fun w112 S113 F114 G115 h => ?_))
      obtain ⟨z117, e9, h⟩ := h
      subst e9
      show Go d Mlaw 381 [some (vR a0), some (vR a1), some (vR a2), some (vI a3)] [vJ z117] S113 F114 G115 Q
      refine go_aload_n (show decode code 381 = .ok (.aload_n 2, 1) by decide +kernel) (by rfl) ?_
      refine go_aload_n (show decode code 382 = .ok (.aload_n 0, 1) by decide +kernel) (by rfl) ?_
      refine go_iload_n (show decode code 383 = .ok (.iload_n 3, 1) by decide +kernel) (by rfl) ?_
      refine go_iconst (show decode code 384 = .ok (.iconst 1, 1) by decide +kernel) (by decide) ?_
      obtain ⟨q118, h⟩ := h
      refine go_iadd (show decode code 385 = .ok (.iadd, 1) by decide +kernel) q118 ?_
      obtain ⟨q119, h⟩ := h
      obtain ⟨q120, h⟩ := h
      refine go_scrld (show decode code 386 = .ok (.iaload, 1) by decide +kernel) rfl q119 q120 ?_
      refine go_aload_n (show decode code 387 = .ok (.aload_n 0, 1) by decide +kernel) (by rfl) ?_
      refine go_iload_n (show decode code 388 = .ok (.iload_n 3, 1) by decide +kernel) (by rfl) ?_
      refine go_iconst (show decode code 389 = .ok (.iconst 2, 1) by decide +kernel) (by decide) ?_
      obtain ⟨q121, h⟩ := h
      refine go_iadd (show decode code 390 = .ok (.iadd, 1) by decide +kernel) q121 ?_
      obtain ⟨q122, h⟩ := h
      obtain ⟨q123, h⟩ := h
      refine go_scrld (show decode code 391 = .ok (.iaload, 1) by decide +kernel) rfl q122 q123 ?_
      refine go_aload_n (show decode code 392 = .ok (.aload_n 0, 1) by decide +kernel) (by rfl) ?_
      refine go_iload_n (show decode code 393 = .ok (.iload_n 3, 1) by decide +kernel) (by rfl) ?_
      refine go_iconst (show decode code 394 = .ok (.iconst 3, 1) by decide +kernel) (by decide) ?_
      obtain ⟨q124, h⟩ := h
      refine go_iadd (show decode code 395 = .ok (.iadd, 1) by decide +kernel) q124 ?_
      obtain ⟨q125, h⟩ := h
      obtain ⟨q126, h⟩ := h
      refine go_scrld (show decode code 396 = .ok (.iaload, 1) by decide +kernel) rfl q125 q126 ?_
      refine go_aload_n (show decode code 397 = .ok (.aload_n 0, 1) by decide +kernel) (by rfl) ?_
      refine go_iload_n (show decode code 398 = .ok (.iload_n 3, 1) by decide +kernel) (by rfl) ?_
      refine go_iconst (show decode code 399 = .ok (.iconst 4, 1) by decide +kernel) (by decide) ?_
      obtain ⟨q127, h⟩ := h
      refine go_iadd (show decode code 400 = .ok (.iadd, 1) by decide +kernel) q127 ?_
      obtain ⟨q128, h⟩ := h
      obtain ⟨q129, h⟩ := h
      refine go_scrld (show decode code 401 = .ok (.iaload, 1) by decide +kernel) rfl q128 q129 ?_
      refine go_aload_n (show decode code 402 = .ok (.aload_n 0, 1) by decide +kernel) (by rfl) ?_
      refine go_iload_n (show decode code 403 = .ok (.iload_n 3, 1) by decide +kernel) (by rfl) ?_
      refine go_iconst (show decode code 404 = .ok (.iconst 5, 1) by decide +kernel) (by decide) ?_
      obtain ⟨q130, h⟩ := h
      refine go_iadd (show decode code 405 = .ok (.iadd, 1) by decide +kernel) q130 ?_
      obtain ⟨q131, h⟩ := h
      obtain ⟨q132, h⟩ := h
      refine go_scrld (show decode code 406 = .ok (.iaload, 1) by decide +kernel) rfl q131 q132 ?_
      refine go_aload_n (show decode code 407 = .ok (.aload_n 0, 1) by decide +kernel) (by rfl) ?_
      refine go_iload_n (show decode code 408 = .ok (.iload_n 3, 1) by decide +kernel) (by rfl) ?_
      refine go_bipush (show decode code 409 = .ok (.bipush 6, 2) by decide +kernel) (by decide) ?_
      obtain ⟨q133, h⟩ := h
      refine go_iadd (show decode code 411 = .ok (.iadd, 1) by decide +kernel) q133 ?_
      obtain ⟨q134, h⟩ := h
      obtain ⟨q135, h⟩ := h
      refine go_scrld (show decode code 412 = .ok (.iaload, 1) by decide +kernel) rfl q134 q135 ?_
      refine go_i2l (show decode code 413 = .ok (.i2l, 1) by decide +kernel) ?_
      refine go_bipush (show decode code 414 = .ok (.bipush 32, 2) by decide +kernel) (by decide) ?_
      refine go_lshl (show decode code 416 = .ok (.lshl, 1) by decide +kernel) ?_
      refine go_aload_n (show decode code 417 = .ok (.aload_n 0, 1) by decide +kernel) (by rfl) ?_
      refine go_iload_n (show decode code 418 = .ok (.iload_n 3, 1) by decide +kernel) (by rfl) ?_
      refine go_bipush (show decode code 419 = .ok (.bipush 7, 2) by decide +kernel) (by decide) ?_
      obtain ⟨q136, h⟩ := h
      refine go_iadd (show decode code 421 = .ok (.iadd, 1) by decide +kernel) q136 ?_
      obtain ⟨q137, h⟩ := h
      obtain ⟨q138, h⟩ := h
      refine go_scrld (show decode code 422 = .ok (.iaload, 1) by decide +kernel) rfl q137 q138 ?_
      refine go_i2l (show decode code 423 = .ok (.i2l, 1) by decide +kernel) ?_
      refine go_ldc2 (show decode code 424 = .ok (.ldc2_w 13, 3) by decide +kernel) lc_L_13 (by decide) ?_
      refine go_land (show decode code 427 = .ok (.land, 1) by decide +kernel) ?_
      refine go_lor (show decode code 428 = .ok (.lor, 1) by decide +kernel) ?_
      obtain ⟨q143, h⟩ := h
      refine go_callV (d2 := d - 1) (M2 := MX10_pick) (n := 6) (ci := 10) (av := [vI (sx S113 (a3 + 1)), vI (sx S113 (a3 + 2)), vI (sx S113 (a3 + 3)), vI (sx S113 (a3 + 4)), vI (sx S113 (a3 + 5)), vJ (jOr (jShl (sx S113 (a3 + 6)) 32) (jAnd (sx S113 (a3 + 7)) 4294967295))]) (st := [vJ z117]) (show decode code 429 = .ok (.invokevirtual 29, 3) by decide +kernel) ml_L_29 mt_X10_pick min_X10_pick mse_X10_pick (by decide) q143 rfl (Nat.le_of_ble_eq_true rfl) (by omega) (ok_mono h (fun w139 S140 F141 G142 h => ?_))
      obtain ⟨z144, e9, h⟩ := h
      subst e9
      show Go d Mlaw 432 [some (vR a0), some (vR a1), some (vR a2), some (vI a3)] [vJ z144, vJ z117] S140 F141 G142 Q
      obtain ⟨ht, hf⟩ := h
      refine go_jeq (tgt := 2110) (show decode code 432 = .ok (.lcmp, 1) by decide +kernel) (show decode code 433 = .ok (.ifCond .eq 1677, 3) by decide +kernel) (by decide) (fun hc => ?_) (fun hc => ?_)
      · have h := ht hc
        exact R_law_2110 h
      · have h := hf hc
        refine go_iconst (show decode code 436 = .ok (.iconst 0, 1) by decide +kernel) (by decide) ?_
        exact go_zret (show decode code 437 = .ok (.ireturn, 1) by decide +kernel) rfl (by decide) h
    by_cases hc3 : bAnd (sx S a3) 63 = 3
    · have h := h_3 hc3
      refine go_swIn (tgt := 438) (show decode code 33 = .ok (.tableswitch 2077 0 32 #[147, 221, 297, 405, 493, 557, 665, 699, 712, 725, 738, 801, 824, 847, 911, 955, 1031, 1085, 1161, 1269, 1377, 1401, 1477, 1551, 1659, 1767, 1821, 1855, 1909, 1953, 1986, 2019, 2053], 147) by decide +kernel) (by omega) (by omega) (by rw [hc3]; rfl) (by decide) ?_
      refine go_aload_n (show decode code 438 = .ok (.aload_n 1, 1) by decide +kernel) (by rfl) ?_
      refine go_aload_n (show decode code 439 = .ok (.aload_n 0, 1) by decide +kernel) (by rfl) ?_
      refine go_iload_n (show decode code 440 = .ok (.iload_n 3, 1) by decide +kernel) (by rfl) ?_
      refine go_iconst (show decode code 441 = .ok (.iconst 1, 1) by decide +kernel) (by decide) ?_
      obtain ⟨q145, h⟩ := h
      refine go_iadd (show decode code 442 = .ok (.iadd, 1) by decide +kernel) q145 ?_
      obtain ⟨q146, h⟩ := h
      obtain ⟨q147, h⟩ := h
      refine go_scrld (show decode code 443 = .ok (.iaload, 1) by decide +kernel) rfl q146 q147 ?_
      refine go_aload_n (show decode code 444 = .ok (.aload_n 0, 1) by decide +kernel) (by rfl) ?_
      refine go_iload_n (show decode code 445 = .ok (.iload_n 3, 1) by decide +kernel) (by rfl) ?_
      refine go_iconst (show decode code 446 = .ok (.iconst 2, 1) by decide +kernel) (by decide) ?_
      obtain ⟨q148, h⟩ := h
      refine go_iadd (show decode code 447 = .ok (.iadd, 1) by decide +kernel) q148 ?_
      obtain ⟨q149, h⟩ := h
      obtain ⟨q150, h⟩ := h
      refine go_scrld (show decode code 448 = .ok (.iaload, 1) by decide +kernel) rfl q149 q150 ?_
      refine go_aload_n (show decode code 449 = .ok (.aload_n 0, 1) by decide +kernel) (by rfl) ?_
      refine go_iload_n (show decode code 450 = .ok (.iload_n 3, 1) by decide +kernel) (by rfl) ?_
      refine go_iconst (show decode code 451 = .ok (.iconst 3, 1) by decide +kernel) (by decide) ?_
      obtain ⟨q151, h⟩ := h
      refine go_iadd (show decode code 452 = .ok (.iadd, 1) by decide +kernel) q151 ?_
      obtain ⟨q152, h⟩ := h
      obtain ⟨q153, h⟩ := h
      refine go_scrld (show decode code 453 = .ok (.iaload, 1) by decide +kernel) rfl q152 q153 ?_
      refine go_aload_n (show decode code 454 = .ok (.aload_n 0, 1) by decide +kernel) (by rfl) ?_
      refine go_iload_n (show decode code 455 = .ok (.iload_n 3, 1) by decide +kernel) (by rfl) ?_
      refine go_iconst (show decode code 456 = .ok (.iconst 4, 1) by decide +kernel) (by decide) ?_
      obtain ⟨q154, h⟩ := h
      refine go_iadd (show decode code 457 = .ok (.iadd, 1) by decide +kernel) q154 ?_
      obtain ⟨q155, h⟩ := h
      obtain ⟨q156, h⟩ := h
      refine go_scrld (show decode code 458 = .ok (.iaload, 1) by decide +kernel) rfl q155 q156 ?_
      refine go_aload_n (show decode code 459 = .ok (.aload_n 0, 1) by decide +kernel) (by rfl) ?_
      refine go_iload_n (show decode code 460 = .ok (.iload_n 3, 1) by decide +kernel) (by rfl) ?_
      refine go_iconst (show decode code 461 = .ok (.iconst 5, 1) by decide +kernel) (by decide) ?_
      obtain ⟨q157, h⟩ := h
      refine go_iadd (show decode code 462 = .ok (.iadd, 1) by decide +kernel) q157 ?_
      obtain ⟨q158, h⟩ := h
      obtain ⟨q159, h⟩ := h
      refine go_scrld (show decode code 463 = .ok (.iaload, 1) by decide +kernel) rfl q158 q159 ?_
      refine go_aload_n (show decode code 464 = .ok (.aload_n 0, 1) by decide +kernel) (by rfl) ?_
      refine go_iload_n (show decode code 465 = .ok (.iload_n 3, 1) by decide +kernel) (by rfl) ?_
      refine go_bipush (show decode code 466 = .ok (.bipush 6, 2) by decide +kernel) (by decide) ?_
      obtain ⟨q160, h⟩ := h
      refine go_iadd (show decode code 468 = .ok (.iadd, 1) by decide +kernel) q160 ?_
      obtain ⟨q161, h⟩ := h
      obtain ⟨q162, h⟩ := h
      refine go_scrld (show decode code 469 = .ok (.iaload, 1) by decide +kernel) rfl q161 q162 ?_
      refine go_aload_n (show decode code 470 = .ok (.aload_n 0, 1) by decide +kernel) (by rfl) ?_
      refine go_iload_n (show decode code 471 = .ok (.iload_n 3, 1) by decide +kernel) (by rfl) ?_
      refine go_bipush (show decode code 472 = .ok (.bipush 7, 2) by decide +kernel) (by decide) ?_
      obtain ⟨q163, h⟩ := h
      refine go_iadd (show decode code 474 = .ok (.iadd, 1) by decide +kernel) q163 ?_
      obtain ⟨q164, h⟩ := h
      obtain ⟨q165, h⟩ := h
      refine go_scrld (show decode code 475 = .ok (.iaload, 1) by decide +kernel) rfl q164 q165 ?_
      obtain ⟨q166, h⟩ := h
      obtain ⟨q171, h⟩ := h
      refine go_callV (d2 := d - 1) (M2 := MX9_move) (n := 7) (ci := 9) (av := [vI (sx S (a3 + 1)), vI (sx S (a3 + 2)), vI (sx S (a3 + 3)), vI (sx S (a3 + 4)), vI (sx S (a3 + 5)), vI (sx S (a3 + 6)), vI (sx S (a3 + 7))]) (st := []) (show decode code 476 = .ok (.invokevirtual 30, 3) by decide +kernel) ml_L_30 mt_X9_move min_X9_move mse_X9_move (by decide) q171 rfl (Nat.le_of_ble_eq_true rfl) (by omega) (ok_mono h (fun w167 S168 F169 G170 h => ?_))
      obtain ⟨z172, e9, h⟩ := h
      subst e9
      show Go d Mlaw 479 [some (vR a0), some (vR a1), some (vR a2), some (vI a3)] [vJ z172] S168 F169 G170 Q
      refine go_aload_n (show decode code 479 = .ok (.aload_n 2, 1) by decide +kernel) (by rfl) ?_
      refine go_aload_n (show decode code 480 = .ok (.aload_n 0, 1) by decide +kernel) (by rfl) ?_
      refine go_iload_n (show decode code 481 = .ok (.iload_n 3, 1) by decide +kernel) (by rfl) ?_
      refine go_iconst (show decode code 482 = .ok (.iconst 1, 1) by decide +kernel) (by decide) ?_
      obtain ⟨q173, h⟩ := h
      refine go_iadd (show decode code 483 = .ok (.iadd, 1) by decide +kernel) q173 ?_
      obtain ⟨q174, h⟩ := h
      obtain ⟨q175, h⟩ := h
      refine go_scrld (show decode code 484 = .ok (.iaload, 1) by decide +kernel) rfl q174 q175 ?_
      refine go_aload_n (show decode code 485 = .ok (.aload_n 0, 1) by decide +kernel) (by rfl) ?_
      refine go_iload_n (show decode code 486 = .ok (.iload_n 3, 1) by decide +kernel) (by rfl) ?_
      refine go_iconst (show decode code 487 = .ok (.iconst 2, 1) by decide +kernel) (by decide) ?_
      obtain ⟨q176, h⟩ := h
      refine go_iadd (show decode code 488 = .ok (.iadd, 1) by decide +kernel) q176 ?_
      obtain ⟨q177, h⟩ := h
      obtain ⟨q178, h⟩ := h
      refine go_scrld (show decode code 489 = .ok (.iaload, 1) by decide +kernel) rfl q177 q178 ?_
      refine go_aload_n (show decode code 490 = .ok (.aload_n 0, 1) by decide +kernel) (by rfl) ?_
      refine go_iload_n (show decode code 491 = .ok (.iload_n 3, 1) by decide +kernel) (by rfl) ?_
      refine go_iconst (show decode code 492 = .ok (.iconst 3, 1) by decide +kernel) (by decide) ?_
      obtain ⟨q179, h⟩ := h
      refine go_iadd (show decode code 493 = .ok (.iadd, 1) by decide +kernel) q179 ?_
      obtain ⟨q180, h⟩ := h
      obtain ⟨q181, h⟩ := h
      refine go_scrld (show decode code 494 = .ok (.iaload, 1) by decide +kernel) rfl q180 q181 ?_
      refine go_aload_n (show decode code 495 = .ok (.aload_n 0, 1) by decide +kernel) (by rfl) ?_
      refine go_iload_n (show decode code 496 = .ok (.iload_n 3, 1) by decide +kernel) (by rfl) ?_
      refine go_iconst (show decode code 497 = .ok (.iconst 4, 1) by decide +kernel) (by decide) ?_
      obtain ⟨q182, h⟩ := h
      refine go_iadd (show decode code 498 = .ok (.iadd, 1) by decide +kernel) q182 ?_
      obtain ⟨q183, h⟩ := h
      obtain ⟨q184, h⟩ := h
      refine go_scrld (show decode code 499 = .ok (.iaload, 1) by decide +kernel) rfl q183 q184 ?_
      refine go_aload_n (show decode code 500 = .ok (.aload_n 0, 1) by decide +kernel) (by rfl) ?_
      refine go_iload_n (show decode code 501 = .ok (.iload_n 3, 1) by decide +kernel) (by rfl) ?_
      refine go_iconst (show decode code 502 = .ok (.iconst 5, 1) by decide +kernel) (by decide) ?_
      obtain ⟨q185, h⟩ := h
      refine go_iadd (show decode code 503 = .ok (.iadd, 1) by decide +kernel) q185 ?_
      obtain ⟨q186, h⟩ := h
      obtain ⟨q187, h⟩ := h
      refine go_scrld (show decode code 504 = .ok (.iaload, 1) by decide +kernel) rfl q186 q187 ?_
      refine go_aload_n (show decode code 505 = .ok (.aload_n 0, 1) by decide +kernel) (by rfl) ?_
      refine go_iload_n (show decode code 506 = .ok (.iload_n 3, 1) by decide +kernel) (by rfl) ?_
      refine go_bipush (show decode code 507 = .ok (.bipush 6, 2) by decide +kernel) (by decide) ?_
      obtain ⟨q188, h⟩ := h
      refine go_iadd (show decode code 509 = .ok (.iadd, 1) by decide +kernel) q188 ?_
      obtain ⟨q189, h⟩ := h
      obtain ⟨q190, h⟩ := h
      refine go_scrld (show decode code 510 = .ok (.iaload, 1) by decide +kernel) rfl q189 q190 ?_
      refine go_aload_n (show decode code 511 = .ok (.aload_n 0, 1) by decide +kernel) (by rfl) ?_
      refine go_iload_n (show decode code 512 = .ok (.iload_n 3, 1) by decide +kernel) (by rfl) ?_
      refine go_bipush (show decode code 513 = .ok (.bipush 7, 2) by decide +kernel) (by decide) ?_
      obtain ⟨q191, h⟩ := h
      refine go_iadd (show decode code 515 = .ok (.iadd, 1) by decide +kernel) q191 ?_
      obtain ⟨q192, h⟩ := h
      obtain ⟨q193, h⟩ := h
      refine go_scrld (show decode code 516 = .ok (.iaload, 1) by decide +kernel) rfl q192 q193 ?_
      obtain ⟨q198, h⟩ := h
      refine go_callV (d2 := d - 1) (M2 := MX10_move) (n := 7) (ci := 10) (av := [vI (sx S168 (a3 + 1)), vI (sx S168 (a3 + 2)), vI (sx S168 (a3 + 3)), vI (sx S168 (a3 + 4)), vI (sx S168 (a3 + 5)), vI (sx S168 (a3 + 6)), vI (sx S168 (a3 + 7))]) (st := [vJ z172]) (show decode code 517 = .ok (.invokevirtual 34, 3) by decide +kernel) ml_L_34 mt_X10_move min_X10_move mse_X10_move (by decide) q198 rfl (Nat.le_of_ble_eq_true rfl) (by omega) (ok_mono h (fun w194 S195 F196 G197 h => ?_))
      obtain ⟨z199, e9, h⟩ := h
      subst e9
      show Go d Mlaw 520 [some (vR a0), some (vR a1), some (vR a2), some (vI a3)] [vJ z199, vJ z172] S195 F196 G197 Q
      obtain ⟨ht, hf⟩ := h
      refine go_jeq (tgt := 2110) (show decode code 520 = .ok (.lcmp, 1) by decide +kernel) (show decode code 521 = .ok (.ifCond .eq 1589, 3) by decide +kernel) (by decide) (fun hc => ?_) (fun hc => ?_)
      · have h := ht hc
        exact R_law_2110 h
      · have h := hf hc
        refine go_iconst (show decode code 524 = .ok (.iconst 0, 1) by decide +kernel) (by decide) ?_
        exact go_zret (show decode code 525 = .ok (.ireturn, 1) by decide +kernel) rfl (by decide) h
    by_cases hc4 : bAnd (sx S a3) 63 = 4
    · have h := h_4 hc4
      refine go_swIn (tgt := 526) (show decode code 33 = .ok (.tableswitch 2077 0 32 #[147, 221, 297, 405, 493, 557, 665, 699, 712, 725, 738, 801, 824, 847, 911, 955, 1031, 1085, 1161, 1269, 1377, 1401, 1477, 1551, 1659, 1767, 1821, 1855, 1909, 1953, 1986, 2019, 2053], 147) by decide +kernel) (by omega) (by omega) (by rw [hc4]; rfl) (by decide) ?_
      refine go_aload_n (show decode code 526 = .ok (.aload_n 1, 1) by decide +kernel) (by rfl) ?_
      refine go_aload_n (show decode code 527 = .ok (.aload_n 0, 1) by decide +kernel) (by rfl) ?_
      refine go_iload_n (show decode code 528 = .ok (.iload_n 3, 1) by decide +kernel) (by rfl) ?_
      refine go_iconst (show decode code 529 = .ok (.iconst 1, 1) by decide +kernel) (by decide) ?_
      obtain ⟨q200, h⟩ := h
      refine go_iadd (show decode code 530 = .ok (.iadd, 1) by decide +kernel) q200 ?_
      obtain ⟨q201, h⟩ := h
      obtain ⟨q202, h⟩ := h
      refine go_scrld (show decode code 531 = .ok (.iaload, 1) by decide +kernel) rfl q201 q202 ?_
      refine go_aload_n (show decode code 532 = .ok (.aload_n 0, 1) by decide +kernel) (by rfl) ?_
      refine go_iload_n (show decode code 533 = .ok (.iload_n 3, 1) by decide +kernel) (by rfl) ?_
      refine go_iconst (show decode code 534 = .ok (.iconst 2, 1) by decide +kernel) (by decide) ?_
      obtain ⟨q203, h⟩ := h
      refine go_iadd (show decode code 535 = .ok (.iadd, 1) by decide +kernel) q203 ?_
      obtain ⟨q204, h⟩ := h
      obtain ⟨q205, h⟩ := h
      refine go_scrld (show decode code 536 = .ok (.iaload, 1) by decide +kernel) rfl q204 q205 ?_
      refine go_aload_n (show decode code 537 = .ok (.aload_n 0, 1) by decide +kernel) (by rfl) ?_
      refine go_iload_n (show decode code 538 = .ok (.iload_n 3, 1) by decide +kernel) (by rfl) ?_
      refine go_iconst (show decode code 539 = .ok (.iconst 3, 1) by decide +kernel) (by decide) ?_
      obtain ⟨q206, h⟩ := h
      refine go_iadd (show decode code 540 = .ok (.iadd, 1) by decide +kernel) q206 ?_
      obtain ⟨q207, h⟩ := h
      obtain ⟨q208, h⟩ := h
      refine go_scrld (show decode code 541 = .ok (.iaload, 1) by decide +kernel) rfl q207 q208 ?_
      refine go_aload_n (show decode code 542 = .ok (.aload_n 0, 1) by decide +kernel) (by rfl) ?_
      refine go_iload_n (show decode code 543 = .ok (.iload_n 3, 1) by decide +kernel) (by rfl) ?_
      refine go_iconst (show decode code 544 = .ok (.iconst 4, 1) by decide +kernel) (by decide) ?_
      obtain ⟨q209, h⟩ := h
      refine go_iadd (show decode code 545 = .ok (.iadd, 1) by decide +kernel) q209 ?_
      obtain ⟨q210, h⟩ := h
      obtain ⟨q211, h⟩ := h
      refine go_scrld (show decode code 546 = .ok (.iaload, 1) by decide +kernel) rfl q210 q211 ?_
      refine go_aload_n (show decode code 547 = .ok (.aload_n 0, 1) by decide +kernel) (by rfl) ?_
      refine go_iload_n (show decode code 548 = .ok (.iload_n 3, 1) by decide +kernel) (by rfl) ?_
      refine go_iconst (show decode code 549 = .ok (.iconst 5, 1) by decide +kernel) (by decide) ?_
      obtain ⟨q212, h⟩ := h
      refine go_iadd (show decode code 550 = .ok (.iadd, 1) by decide +kernel) q212 ?_
      obtain ⟨q213, h⟩ := h
      obtain ⟨q214, h⟩ := h
      refine go_scrld (show decode code 551 = .ok (.iaload, 1) by decide +kernel) rfl q213 q214 ?_
      obtain ⟨q215, h⟩ := h
      obtain ⟨q220, h⟩ := h
      refine go_callV (d2 := d - 1) (M2 := MX9_level) (n := 5) (ci := 9) (av := [vI (sx S (a3 + 1)), vI (sx S (a3 + 2)), vI (sx S (a3 + 3)), vI (sx S (a3 + 4)), vI (sx S (a3 + 5))]) (st := []) (show decode code 552 = .ok (.invokevirtual 35, 3) by decide +kernel) ml_L_35 mt_X9_level min_X9_level mse_X9_level (by decide) q220 rfl (Nat.le_of_ble_eq_true rfl) (by omega) (ok_mono h (fun w216 S217 F218 G219 h => ?_))
      obtain ⟨z221, e9, h⟩ := h
      subst e9
      show Go d Mlaw 555 [some (vR a0), some (vR a1), some (vR a2), some (vI a3)] [vJ z221] S217 F218 G219 Q
      refine go_aload_n (show decode code 555 = .ok (.aload_n 2, 1) by decide +kernel) (by rfl) ?_
      refine go_aload_n (show decode code 556 = .ok (.aload_n 0, 1) by decide +kernel) (by rfl) ?_
      refine go_iload_n (show decode code 557 = .ok (.iload_n 3, 1) by decide +kernel) (by rfl) ?_
      refine go_iconst (show decode code 558 = .ok (.iconst 1, 1) by decide +kernel) (by decide) ?_
      obtain ⟨q222, h⟩ := h
      refine go_iadd (show decode code 559 = .ok (.iadd, 1) by decide +kernel) q222 ?_
      obtain ⟨q223, h⟩ := h
      obtain ⟨q224, h⟩ := h
      refine go_scrld (show decode code 560 = .ok (.iaload, 1) by decide +kernel) rfl q223 q224 ?_
      refine go_aload_n (show decode code 561 = .ok (.aload_n 0, 1) by decide +kernel) (by rfl) ?_
      refine go_iload_n (show decode code 562 = .ok (.iload_n 3, 1) by decide +kernel) (by rfl) ?_
      refine go_iconst (show decode code 563 = .ok (.iconst 2, 1) by decide +kernel) (by decide) ?_
      obtain ⟨q225, h⟩ := h
      refine go_iadd (show decode code 564 = .ok (.iadd, 1) by decide +kernel) q225 ?_
      obtain ⟨q226, h⟩ := h
      obtain ⟨q227, h⟩ := h
      refine go_scrld (show decode code 565 = .ok (.iaload, 1) by decide +kernel) rfl q226 q227 ?_
      refine go_aload_n (show decode code 566 = .ok (.aload_n 0, 1) by decide +kernel) (by rfl) ?_
      refine go_iload_n (show decode code 567 = .ok (.iload_n 3, 1) by decide +kernel) (by rfl) ?_
      refine go_iconst (show decode code 568 = .ok (.iconst 3, 1) by decide +kernel) (by decide) ?_
      obtain ⟨q228, h⟩ := h
      refine go_iadd (show decode code 569 = .ok (.iadd, 1) by decide +kernel) q228 ?_
      obtain ⟨q229, h⟩ := h
      obtain ⟨q230, h⟩ := h
      refine go_scrld (show decode code 570 = .ok (.iaload, 1) by decide +kernel) rfl q229 q230 ?_
      refine go_aload_n (show decode code 571 = .ok (.aload_n 0, 1) by decide +kernel) (by rfl) ?_
      refine go_iload_n (show decode code 572 = .ok (.iload_n 3, 1) by decide +kernel) (by rfl) ?_
      refine go_iconst (show decode code 573 = .ok (.iconst 4, 1) by decide +kernel) (by decide) ?_
      obtain ⟨q231, h⟩ := h
      refine go_iadd (show decode code 574 = .ok (.iadd, 1) by decide +kernel) q231 ?_
      obtain ⟨q232, h⟩ := h
      obtain ⟨q233, h⟩ := h
      refine go_scrld (show decode code 575 = .ok (.iaload, 1) by decide +kernel) rfl q232 q233 ?_
      refine go_aload_n (show decode code 576 = .ok (.aload_n 0, 1) by decide +kernel) (by rfl) ?_
      refine go_iload_n (show decode code 577 = .ok (.iload_n 3, 1) by decide +kernel) (by rfl) ?_
      refine go_iconst (show decode code 578 = .ok (.iconst 5, 1) by decide +kernel) (by decide) ?_
      obtain ⟨q234, h⟩ := h
      refine go_iadd (show decode code 579 = .ok (.iadd, 1) by decide +kernel) q234 ?_
      obtain ⟨q235, h⟩ := h
      obtain ⟨q236, h⟩ := h
      refine go_scrld (show decode code 580 = .ok (.iaload, 1) by decide +kernel) rfl q235 q236 ?_
      obtain ⟨q241, h⟩ := h
      refine go_callV (d2 := d - 1) (M2 := MX10_level) (n := 5) (ci := 10) (av := [vI (sx S217 (a3 + 1)), vI (sx S217 (a3 + 2)), vI (sx S217 (a3 + 3)), vI (sx S217 (a3 + 4)), vI (sx S217 (a3 + 5))]) (st := [vJ z221]) (show decode code 581 = .ok (.invokevirtual 39, 3) by decide +kernel) ml_L_39 mt_X10_level min_X10_level mse_X10_level (by decide) q241 rfl (Nat.le_of_ble_eq_true rfl) (by omega) (ok_mono h (fun w237 S238 F239 G240 h => ?_))
      obtain ⟨z242, e9, h⟩ := h
      subst e9
      show Go d Mlaw 584 [some (vR a0), some (vR a1), some (vR a2), some (vI a3)] [vJ z242, vJ z221] S238 F239 G240 Q
      obtain ⟨ht, hf⟩ := h
      refine go_jeq (tgt := 2110) (show decode code 584 = .ok (.lcmp, 1) by decide +kernel) (show decode code 585 = .ok (.ifCond .eq 1525, 3) by decide +kernel) (by decide) (fun hc => ?_) (fun hc => ?_)
      · have h := ht hc
        exact R_law_2110 h
      · have h := hf hc
        refine go_iconst (show decode code 588 = .ok (.iconst 0, 1) by decide +kernel) (by decide) ?_
        exact go_zret (show decode code 589 = .ok (.ireturn, 1) by decide +kernel) rfl (by decide) h
    by_cases hc5 : bAnd (sx S a3) 63 = 5
    · have h := h_5 hc5
      refine go_swIn (tgt := 590) (show decode code 33 = .ok (.tableswitch 2077 0 32 #[147, 221, 297, 405, 493, 557, 665, 699, 712, 725, 738, 801, 824, 847, 911, 955, 1031, 1085, 1161, 1269, 1377, 1401, 1477, 1551, 1659, 1767, 1821, 1855, 1909, 1953, 1986, 2019, 2053], 147) by decide +kernel) (by omega) (by omega) (by rw [hc5]; rfl) (by decide) ?_
      refine go_aload_n (show decode code 590 = .ok (.aload_n 1, 1) by decide +kernel) (by rfl) ?_
      refine go_aload_n (show decode code 591 = .ok (.aload_n 0, 1) by decide +kernel) (by rfl) ?_
      refine go_iload_n (show decode code 592 = .ok (.iload_n 3, 1) by decide +kernel) (by rfl) ?_
      refine go_iconst (show decode code 593 = .ok (.iconst 1, 1) by decide +kernel) (by decide) ?_
      obtain ⟨q243, h⟩ := h
      refine go_iadd (show decode code 594 = .ok (.iadd, 1) by decide +kernel) q243 ?_
      obtain ⟨q244, h⟩ := h
      obtain ⟨q245, h⟩ := h
      refine go_scrld (show decode code 595 = .ok (.iaload, 1) by decide +kernel) rfl q244 q245 ?_
      refine go_aload_n (show decode code 596 = .ok (.aload_n 0, 1) by decide +kernel) (by rfl) ?_
      refine go_iload_n (show decode code 597 = .ok (.iload_n 3, 1) by decide +kernel) (by rfl) ?_
      refine go_iconst (show decode code 598 = .ok (.iconst 2, 1) by decide +kernel) (by decide) ?_
      obtain ⟨q246, h⟩ := h
      refine go_iadd (show decode code 599 = .ok (.iadd, 1) by decide +kernel) q246 ?_
      obtain ⟨q247, h⟩ := h
      obtain ⟨q248, h⟩ := h
      refine go_scrld (show decode code 600 = .ok (.iaload, 1) by decide +kernel) rfl q247 q248 ?_
      refine go_aload_n (show decode code 601 = .ok (.aload_n 0, 1) by decide +kernel) (by rfl) ?_
      refine go_iload_n (show decode code 602 = .ok (.iload_n 3, 1) by decide +kernel) (by rfl) ?_
      refine go_iconst (show decode code 603 = .ok (.iconst 3, 1) by decide +kernel) (by decide) ?_
      obtain ⟨q249, h⟩ := h
      refine go_iadd (show decode code 604 = .ok (.iadd, 1) by decide +kernel) q249 ?_
      obtain ⟨q250, h⟩ := h
      obtain ⟨q251, h⟩ := h
      refine go_scrld (show decode code 605 = .ok (.iaload, 1) by decide +kernel) rfl q250 q251 ?_
      refine go_aload_n (show decode code 606 = .ok (.aload_n 0, 1) by decide +kernel) (by rfl) ?_
      refine go_iload_n (show decode code 607 = .ok (.iload_n 3, 1) by decide +kernel) (by rfl) ?_
      refine go_iconst (show decode code 608 = .ok (.iconst 4, 1) by decide +kernel) (by decide) ?_
      obtain ⟨q252, h⟩ := h
      refine go_iadd (show decode code 609 = .ok (.iadd, 1) by decide +kernel) q252 ?_
      obtain ⟨q253, h⟩ := h
      obtain ⟨q254, h⟩ := h
      refine go_scrld (show decode code 610 = .ok (.iaload, 1) by decide +kernel) rfl q253 q254 ?_
      refine go_aload_n (show decode code 611 = .ok (.aload_n 0, 1) by decide +kernel) (by rfl) ?_
      refine go_iload_n (show decode code 612 = .ok (.iload_n 3, 1) by decide +kernel) (by rfl) ?_
      refine go_iconst (show decode code 613 = .ok (.iconst 5, 1) by decide +kernel) (by decide) ?_
      obtain ⟨q255, h⟩ := h
      refine go_iadd (show decode code 614 = .ok (.iadd, 1) by decide +kernel) q255 ?_
      obtain ⟨q256, h⟩ := h
      obtain ⟨q257, h⟩ := h
      refine go_scrld (show decode code 615 = .ok (.iaload, 1) by decide +kernel) rfl q256 q257 ?_
      refine go_aload_n (show decode code 616 = .ok (.aload_n 0, 1) by decide +kernel) (by rfl) ?_
      refine go_iload_n (show decode code 617 = .ok (.iload_n 3, 1) by decide +kernel) (by rfl) ?_
      refine go_bipush (show decode code 618 = .ok (.bipush 6, 2) by decide +kernel) (by decide) ?_
      obtain ⟨q258, h⟩ := h
      refine go_iadd (show decode code 620 = .ok (.iadd, 1) by decide +kernel) q258 ?_
      obtain ⟨q259, h⟩ := h
      obtain ⟨q260, h⟩ := h
      refine go_scrld (show decode code 621 = .ok (.iaload, 1) by decide +kernel) rfl q259 q260 ?_
      refine go_i2l (show decode code 622 = .ok (.i2l, 1) by decide +kernel) ?_
      refine go_bipush (show decode code 623 = .ok (.bipush 32, 2) by decide +kernel) (by decide) ?_
      refine go_lshl (show decode code 625 = .ok (.lshl, 1) by decide +kernel) ?_
      refine go_aload_n (show decode code 626 = .ok (.aload_n 0, 1) by decide +kernel) (by rfl) ?_
      refine go_iload_n (show decode code 627 = .ok (.iload_n 3, 1) by decide +kernel) (by rfl) ?_
      refine go_bipush (show decode code 628 = .ok (.bipush 7, 2) by decide +kernel) (by decide) ?_
      obtain ⟨q261, h⟩ := h
      refine go_iadd (show decode code 630 = .ok (.iadd, 1) by decide +kernel) q261 ?_
      obtain ⟨q262, h⟩ := h
      obtain ⟨q263, h⟩ := h
      refine go_scrld (show decode code 631 = .ok (.iaload, 1) by decide +kernel) rfl q262 q263 ?_
      refine go_i2l (show decode code 632 = .ok (.i2l, 1) by decide +kernel) ?_
      refine go_ldc2 (show decode code 633 = .ok (.ldc2_w 13, 3) by decide +kernel) lc_L_13 (by decide) ?_
      refine go_land (show decode code 636 = .ok (.land, 1) by decide +kernel) ?_
      refine go_lor (show decode code 637 = .ok (.lor, 1) by decide +kernel) ?_
      obtain ⟨q264, h⟩ := h
      obtain ⟨q269, h⟩ := h
      refine go_callV (d2 := d - 1) (M2 := MX9_zone) (n := 6) (ci := 9) (av := [vI (sx S (a3 + 1)), vI (sx S (a3 + 2)), vI (sx S (a3 + 3)), vI (sx S (a3 + 4)), vI (sx S (a3 + 5)), vJ (jOr (jShl (sx S (a3 + 6)) 32) (jAnd (sx S (a3 + 7)) 4294967295))]) (st := []) (show decode code 638 = .ok (.invokevirtual 40, 3) by decide +kernel) ml_L_40 mt_X9_zone min_X9_zone mse_X9_zone (by decide) q269 rfl (Nat.le_of_ble_eq_true rfl) (by omega) (ok_mono h (fun w265 S266 F267 G268 h => ?_))
      obtain ⟨z270, e9, h⟩ := h
      subst e9
      show Go d Mlaw 641 [some (vR a0), some (vR a1), some (vR a2), some (vI a3)] [vJ z270] S266 F267 G268 Q
      refine go_aload_n (show decode code 641 = .ok (.aload_n 2, 1) by decide +kernel) (by rfl) ?_
      refine go_aload_n (show decode code 642 = .ok (.aload_n 0, 1) by decide +kernel) (by rfl) ?_
      refine go_iload_n (show decode code 643 = .ok (.iload_n 3, 1) by decide +kernel) (by rfl) ?_
      refine go_iconst (show decode code 644 = .ok (.iconst 1, 1) by decide +kernel) (by decide) ?_
      obtain ⟨q271, h⟩ := h
      refine go_iadd (show decode code 645 = .ok (.iadd, 1) by decide +kernel) q271 ?_
      obtain ⟨q272, h⟩ := h
      obtain ⟨q273, h⟩ := h
      refine go_scrld (show decode code 646 = .ok (.iaload, 1) by decide +kernel) rfl q272 q273 ?_
      refine go_aload_n (show decode code 647 = .ok (.aload_n 0, 1) by decide +kernel) (by rfl) ?_
      refine go_iload_n (show decode code 648 = .ok (.iload_n 3, 1) by decide +kernel) (by rfl) ?_
      refine go_iconst (show decode code 649 = .ok (.iconst 2, 1) by decide +kernel) (by decide) ?_
      obtain ⟨q274, h⟩ := h
      refine go_iadd (show decode code 650 = .ok (.iadd, 1) by decide +kernel) q274 ?_
      obtain ⟨q275, h⟩ := h
      obtain ⟨q276, h⟩ := h
      refine go_scrld (show decode code 651 = .ok (.iaload, 1) by decide +kernel) rfl q275 q276 ?_
      refine go_aload_n (show decode code 652 = .ok (.aload_n 0, 1) by decide +kernel) (by rfl) ?_
      refine go_iload_n (show decode code 653 = .ok (.iload_n 3, 1) by decide +kernel) (by rfl) ?_
      refine go_iconst (show decode code 654 = .ok (.iconst 3, 1) by decide +kernel) (by decide) ?_
      obtain ⟨q277, h⟩ := h
      refine go_iadd (show decode code 655 = .ok (.iadd, 1) by decide +kernel) q277 ?_
      obtain ⟨q278, h⟩ := h
      obtain ⟨q279, h⟩ := h
      refine go_scrld (show decode code 656 = .ok (.iaload, 1) by decide +kernel) rfl q278 q279 ?_
      refine go_aload_n (show decode code 657 = .ok (.aload_n 0, 1) by decide +kernel) (by rfl) ?_
      refine go_iload_n (show decode code 658 = .ok (.iload_n 3, 1) by decide +kernel) (by rfl) ?_
      refine go_iconst (show decode code 659 = .ok (.iconst 4, 1) by decide +kernel) (by decide) ?_
      obtain ⟨q280, h⟩ := h
      refine go_iadd (show decode code 660 = .ok (.iadd, 1) by decide +kernel) q280 ?_
      obtain ⟨q281, h⟩ := h
      obtain ⟨q282, h⟩ := h
      refine go_scrld (show decode code 661 = .ok (.iaload, 1) by decide +kernel) rfl q281 q282 ?_
      refine go_aload_n (show decode code 662 = .ok (.aload_n 0, 1) by decide +kernel) (by rfl) ?_
      refine go_iload_n (show decode code 663 = .ok (.iload_n 3, 1) by decide +kernel) (by rfl) ?_
      refine go_iconst (show decode code 664 = .ok (.iconst 5, 1) by decide +kernel) (by decide) ?_
      obtain ⟨q283, h⟩ := h
      refine go_iadd (show decode code 665 = .ok (.iadd, 1) by decide +kernel) q283 ?_
      obtain ⟨q284, h⟩ := h
      obtain ⟨q285, h⟩ := h
      refine go_scrld (show decode code 666 = .ok (.iaload, 1) by decide +kernel) rfl q284 q285 ?_
      refine go_aload_n (show decode code 667 = .ok (.aload_n 0, 1) by decide +kernel) (by rfl) ?_
      refine go_iload_n (show decode code 668 = .ok (.iload_n 3, 1) by decide +kernel) (by rfl) ?_
      refine go_bipush (show decode code 669 = .ok (.bipush 6, 2) by decide +kernel) (by decide) ?_
      obtain ⟨q286, h⟩ := h
      refine go_iadd (show decode code 671 = .ok (.iadd, 1) by decide +kernel) q286 ?_
      obtain ⟨q287, h⟩ := h
      obtain ⟨q288, h⟩ := h
      refine go_scrld (show decode code 672 = .ok (.iaload, 1) by decide +kernel) rfl q287 q288 ?_
      refine go_i2l (show decode code 673 = .ok (.i2l, 1) by decide +kernel) ?_
      refine go_bipush (show decode code 674 = .ok (.bipush 32, 2) by decide +kernel) (by decide) ?_
      refine go_lshl (show decode code 676 = .ok (.lshl, 1) by decide +kernel) ?_
      refine go_aload_n (show decode code 677 = .ok (.aload_n 0, 1) by decide +kernel) (by rfl) ?_
      refine go_iload_n (show decode code 678 = .ok (.iload_n 3, 1) by decide +kernel) (by rfl) ?_
      refine go_bipush (show decode code 679 = .ok (.bipush 7, 2) by decide +kernel) (by decide) ?_
      obtain ⟨q289, h⟩ := h
      refine go_iadd (show decode code 681 = .ok (.iadd, 1) by decide +kernel) q289 ?_
      obtain ⟨q290, h⟩ := h
      obtain ⟨q291, h⟩ := h
      refine go_scrld (show decode code 682 = .ok (.iaload, 1) by decide +kernel) rfl q290 q291 ?_
      refine go_i2l (show decode code 683 = .ok (.i2l, 1) by decide +kernel) ?_
      refine go_ldc2 (show decode code 684 = .ok (.ldc2_w 13, 3) by decide +kernel) lc_L_13 (by decide) ?_
      refine go_land (show decode code 687 = .ok (.land, 1) by decide +kernel) ?_
      refine go_lor (show decode code 688 = .ok (.lor, 1) by decide +kernel) ?_
      obtain ⟨q296, h⟩ := h
      refine go_callV (d2 := d - 1) (M2 := MX10_zone) (n := 6) (ci := 10) (av := [vI (sx S266 (a3 + 1)), vI (sx S266 (a3 + 2)), vI (sx S266 (a3 + 3)), vI (sx S266 (a3 + 4)), vI (sx S266 (a3 + 5)), vJ (jOr (jShl (sx S266 (a3 + 6)) 32) (jAnd (sx S266 (a3 + 7)) 4294967295))]) (st := [vJ z270]) (show decode code 689 = .ok (.invokevirtual 43, 3) by decide +kernel) ml_L_43 mt_X10_zone min_X10_zone mse_X10_zone (by decide) q296 rfl (Nat.le_of_ble_eq_true rfl) (by omega) (ok_mono h (fun w292 S293 F294 G295 h => ?_))
      obtain ⟨z297, e9, h⟩ := h
      subst e9
      show Go d Mlaw 692 [some (vR a0), some (vR a1), some (vR a2), some (vI a3)] [vJ z297, vJ z270] S293 F294 G295 Q
      obtain ⟨ht, hf⟩ := h
      refine go_jeq (tgt := 2110) (show decode code 692 = .ok (.lcmp, 1) by decide +kernel) (show decode code 693 = .ok (.ifCond .eq 1417, 3) by decide +kernel) (by decide) (fun hc => ?_) (fun hc => ?_)
      · have h := ht hc
        exact R_law_2110 h
      · have h := hf hc
        refine go_iconst (show decode code 696 = .ok (.iconst 0, 1) by decide +kernel) (by decide) ?_
        exact go_zret (show decode code 697 = .ok (.ireturn, 1) by decide +kernel) rfl (by decide) h
    by_cases hc6 : bAnd (sx S a3) 63 = 6
    · have h := h_6 hc6
      refine go_swIn (tgt := 698) (show decode code 33 = .ok (.tableswitch 2077 0 32 #[147, 221, 297, 405, 493, 557, 665, 699, 712, 725, 738, 801, 824, 847, 911, 955, 1031, 1085, 1161, 1269, 1377, 1401, 1477, 1551, 1659, 1767, 1821, 1855, 1909, 1953, 1986, 2019, 2053], 147) by decide +kernel) (by omega) (by omega) (by rw [hc6]; rfl) (by decide) ?_
      refine go_aload_n (show decode code 698 = .ok (.aload_n 1, 1) by decide +kernel) (by rfl) ?_
      refine go_aload_n (show decode code 699 = .ok (.aload_n 0, 1) by decide +kernel) (by rfl) ?_
      refine go_iload_n (show decode code 700 = .ok (.iload_n 3, 1) by decide +kernel) (by rfl) ?_
      refine go_iconst (show decode code 701 = .ok (.iconst 1, 1) by decide +kernel) (by decide) ?_
      obtain ⟨q298, h⟩ := h
      refine go_iadd (show decode code 702 = .ok (.iadd, 1) by decide +kernel) q298 ?_
      obtain ⟨q299, h⟩ := h
      obtain ⟨q300, h⟩ := h
      refine go_scrld (show decode code 703 = .ok (.iaload, 1) by decide +kernel) rfl q299 q300 ?_
      refine go_aload_n (show decode code 704 = .ok (.aload_n 0, 1) by decide +kernel) (by rfl) ?_
      refine go_iload_n (show decode code 705 = .ok (.iload_n 3, 1) by decide +kernel) (by rfl) ?_
      refine go_iconst (show decode code 706 = .ok (.iconst 2, 1) by decide +kernel) (by decide) ?_
      obtain ⟨q301, h⟩ := h
      refine go_iadd (show decode code 707 = .ok (.iadd, 1) by decide +kernel) q301 ?_
      obtain ⟨q302, h⟩ := h
      obtain ⟨q303, h⟩ := h
      refine go_scrld (show decode code 708 = .ok (.iaload, 1) by decide +kernel) rfl q302 q303 ?_
      obtain ⟨q304, h⟩ := h
      obtain ⟨q309, h⟩ := h
      refine go_callV (d2 := d - 1) (M2 := MX9_zoneAt) (n := 2) (ci := 9) (av := [vI (sx S (a3 + 1)), vI (sx S (a3 + 2))]) (st := []) (show decode code 709 = .ok (.invokevirtual 44, 3) by decide +kernel) ml_L_44 mt_X9_zoneAt min_X9_zoneAt mse_X9_zoneAt (by decide) q309 rfl (Nat.le_of_ble_eq_true rfl) (by omega) (ok_mono h (fun w305 S306 F307 G308 h => ?_))
      obtain ⟨z310, e9, h⟩ := h
      subst e9
      show Go d Mlaw 712 [some (vR a0), some (vR a1), some (vR a2), some (vI a3)] [vJ z310] S306 F307 G308 Q
      refine go_aload_n (show decode code 712 = .ok (.aload_n 2, 1) by decide +kernel) (by rfl) ?_
      refine go_aload_n (show decode code 713 = .ok (.aload_n 0, 1) by decide +kernel) (by rfl) ?_
      refine go_iload_n (show decode code 714 = .ok (.iload_n 3, 1) by decide +kernel) (by rfl) ?_
      refine go_iconst (show decode code 715 = .ok (.iconst 1, 1) by decide +kernel) (by decide) ?_
      obtain ⟨q311, h⟩ := h
      refine go_iadd (show decode code 716 = .ok (.iadd, 1) by decide +kernel) q311 ?_
      obtain ⟨q312, h⟩ := h
      obtain ⟨q313, h⟩ := h
      refine go_scrld (show decode code 717 = .ok (.iaload, 1) by decide +kernel) rfl q312 q313 ?_
      refine go_aload_n (show decode code 718 = .ok (.aload_n 0, 1) by decide +kernel) (by rfl) ?_
      refine go_iload_n (show decode code 719 = .ok (.iload_n 3, 1) by decide +kernel) (by rfl) ?_
      refine go_iconst (show decode code 720 = .ok (.iconst 2, 1) by decide +kernel) (by decide) ?_
      obtain ⟨q314, h⟩ := h
      refine go_iadd (show decode code 721 = .ok (.iadd, 1) by decide +kernel) q314 ?_
      obtain ⟨q315, h⟩ := h
      obtain ⟨q316, h⟩ := h
      refine go_scrld (show decode code 722 = .ok (.iaload, 1) by decide +kernel) rfl q315 q316 ?_
      obtain ⟨q321, h⟩ := h
      refine go_callV (d2 := d - 1) (M2 := MX10_zoneAt) (n := 2) (ci := 10) (av := [vI (sx S306 (a3 + 1)), vI (sx S306 (a3 + 2))]) (st := [vJ z310]) (show decode code 723 = .ok (.invokevirtual 48, 3) by decide +kernel) ml_L_48 mt_X10_zoneAt min_X10_zoneAt mse_X10_zoneAt (by decide) q321 rfl (Nat.le_of_ble_eq_true rfl) (by omega) (ok_mono h (fun w317 S318 F319 G320 h => ?_))
      obtain ⟨z322, e9, h⟩ := h
      subst e9
      show Go d Mlaw 726 [some (vR a0), some (vR a1), some (vR a2), some (vI a3)] [vJ z322, vJ z310] S318 F319 G320 Q
      obtain ⟨ht, hf⟩ := h
      refine go_jeq (tgt := 2110) (show decode code 726 = .ok (.lcmp, 1) by decide +kernel) (show decode code 727 = .ok (.ifCond .eq 1383, 3) by decide +kernel) (by decide) (fun hc => ?_) (fun hc => ?_)
      · have h := ht hc
        exact R_law_2110 h
      · have h := hf hc
        refine go_iconst (show decode code 730 = .ok (.iconst 0, 1) by decide +kernel) (by decide) ?_
        exact go_zret (show decode code 731 = .ok (.ireturn, 1) by decide +kernel) rfl (by decide) h
    by_cases hc7 : bAnd (sx S a3) 63 = 7
    · have h := h_7 hc7
      refine go_swIn (tgt := 732) (show decode code 33 = .ok (.tableswitch 2077 0 32 #[147, 221, 297, 405, 493, 557, 665, 699, 712, 725, 738, 801, 824, 847, 911, 955, 1031, 1085, 1161, 1269, 1377, 1401, 1477, 1551, 1659, 1767, 1821, 1855, 1909, 1953, 1986, 2019, 2053], 147) by decide +kernel) (by omega) (by omega) (by rw [hc7]; rfl) (by decide) ?_
      refine go_aload_n (show decode code 732 = .ok (.aload_n 1, 1) by decide +kernel) (by rfl) ?_
      obtain ⟨q323, h⟩ := h
      obtain ⟨q328, h⟩ := h
      refine go_callV (d2 := d - 1) (M2 := MX9_begin) (n := 0) (ci := 9) (av := []) (st := []) (show decode code 733 = .ok (.invokevirtual 49, 3) by decide +kernel) ml_L_49 mt_X9_begin min_X9_begin mse_X9_begin (by decide) q328 rfl (Nat.le_of_ble_eq_true rfl) (by omega) (ok_mono h (fun w324 S325 F326 G327 h => ?_))
      obtain ⟨z329, e9, h⟩ := h
      subst e9
      show Go d Mlaw 736 [some (vR a0), some (vR a1), some (vR a2), some (vI a3)] [vI z329] S325 F326 G327 Q
      refine go_aload_n (show decode code 736 = .ok (.aload_n 2, 1) by decide +kernel) (by rfl) ?_
      obtain ⟨q334, h⟩ := h
      refine go_callV (d2 := d - 1) (M2 := MX10_begin) (n := 0) (ci := 10) (av := []) (st := [vI z329]) (show decode code 737 = .ok (.invokevirtual 53, 3) by decide +kernel) ml_L_53 mt_X10_begin min_X10_begin mse_X10_begin (by decide) q334 rfl (Nat.le_of_ble_eq_true rfl) (by omega) (ok_mono h (fun w330 S331 F332 G333 h => ?_))
      obtain ⟨z335, e9, h⟩ := h
      subst e9
      show Go d Mlaw 740 [some (vR a0), some (vR a1), some (vR a2), some (vI a3)] [vI z335, vI z329] S331 F332 G333 Q
      obtain ⟨ht, hf⟩ := h
      refine go_icmpeq (tgt := 2110) (show decode code 740 = .ok (.if_icmp .eq 1370, 3) by decide +kernel) (by decide) (fun hc => ?_) (fun hc => ?_)
      · have h := ht hc
        exact R_law_2110 h
      · have h := hf hc
        refine go_iconst (show decode code 743 = .ok (.iconst 0, 1) by decide +kernel) (by decide) ?_
        exact go_zret (show decode code 744 = .ok (.ireturn, 1) by decide +kernel) rfl (by decide) h
    by_cases hc8 : bAnd (sx S a3) 63 = 8
    · have h := h_8 hc8
      refine go_swIn (tgt := 745) (show decode code 33 = .ok (.tableswitch 2077 0 32 #[147, 221, 297, 405, 493, 557, 665, 699, 712, 725, 738, 801, 824, 847, 911, 955, 1031, 1085, 1161, 1269, 1377, 1401, 1477, 1551, 1659, 1767, 1821, 1855, 1909, 1953, 1986, 2019, 2053], 147) by decide +kernel) (by omega) (by omega) (by rw [hc8]; rfl) (by decide) ?_
      refine go_aload_n (show decode code 745 = .ok (.aload_n 1, 1) by decide +kernel) (by rfl) ?_
      obtain ⟨q336, h⟩ := h
      obtain ⟨q341, h⟩ := h
      refine go_callV (d2 := d - 1) (M2 := MX9_commit) (n := 0) (ci := 9) (av := []) (st := []) (show decode code 746 = .ok (.invokevirtual 54, 3) by decide +kernel) ml_L_54 mt_X9_commit min_X9_commit mse_X9_commit (by decide) q341 rfl (Nat.le_of_ble_eq_true rfl) (by omega) (ok_mono h (fun w337 S338 F339 G340 h => ?_))
      obtain ⟨z342, e9, h⟩ := h
      subst e9
      show Go d Mlaw 749 [some (vR a0), some (vR a1), some (vR a2), some (vI a3)] [vI z342] S338 F339 G340 Q
      refine go_aload_n (show decode code 749 = .ok (.aload_n 2, 1) by decide +kernel) (by rfl) ?_
      obtain ⟨q347, h⟩ := h
      refine go_callV (d2 := d - 1) (M2 := MX10_commit) (n := 0) (ci := 10) (av := []) (st := [vI z342]) (show decode code 750 = .ok (.invokevirtual 57, 3) by decide +kernel) ml_L_57 mt_X10_commit min_X10_commit mse_X10_commit (by decide) q347 rfl (Nat.le_of_ble_eq_true rfl) (by omega) (ok_mono h (fun w343 S344 F345 G346 h => ?_))
      obtain ⟨z348, e9, h⟩ := h
      subst e9
      show Go d Mlaw 753 [some (vR a0), some (vR a1), some (vR a2), some (vI a3)] [vI z348, vI z342] S344 F345 G346 Q
      obtain ⟨ht, hf⟩ := h
      refine go_icmpeq (tgt := 2110) (show decode code 753 = .ok (.if_icmp .eq 1357, 3) by decide +kernel) (by decide) (fun hc => ?_) (fun hc => ?_)
      · have h := ht hc
        exact R_law_2110 h
      · have h := hf hc
        refine go_iconst (show decode code 756 = .ok (.iconst 0, 1) by decide +kernel) (by decide) ?_
        exact go_zret (show decode code 757 = .ok (.ireturn, 1) by decide +kernel) rfl (by decide) h
    by_cases hc9 : bAnd (sx S a3) 63 = 9
    · have h := h_9 hc9
      refine go_swIn (tgt := 758) (show decode code 33 = .ok (.tableswitch 2077 0 32 #[147, 221, 297, 405, 493, 557, 665, 699, 712, 725, 738, 801, 824, 847, 911, 955, 1031, 1085, 1161, 1269, 1377, 1401, 1477, 1551, 1659, 1767, 1821, 1855, 1909, 1953, 1986, 2019, 2053], 147) by decide +kernel) (by omega) (by omega) (by rw [hc9]; rfl) (by decide) ?_
      refine go_aload_n (show decode code 758 = .ok (.aload_n 1, 1) by decide +kernel) (by rfl) ?_
      obtain ⟨q349, h⟩ := h
      obtain ⟨q354, h⟩ := h
      refine go_callV (d2 := d - 1) (M2 := MX9_cancel) (n := 0) (ci := 9) (av := []) (st := []) (show decode code 759 = .ok (.invokevirtual 58, 3) by decide +kernel) ml_L_58 mt_X9_cancel min_X9_cancel mse_X9_cancel (by decide) q354 rfl (Nat.le_of_ble_eq_true rfl) (by omega) (ok_mono h (fun w350 S351 F352 G353 h => ?_))
      obtain ⟨z355, e9, h⟩ := h
      subst e9
      show Go d Mlaw 762 [some (vR a0), some (vR a1), some (vR a2), some (vI a3)] [vI z355] S351 F352 G353 Q
      refine go_aload_n (show decode code 762 = .ok (.aload_n 2, 1) by decide +kernel) (by rfl) ?_
      obtain ⟨q360, h⟩ := h
      refine go_callV (d2 := d - 1) (M2 := MX10_cancel) (n := 0) (ci := 10) (av := []) (st := [vI z355]) (show decode code 763 = .ok (.invokevirtual 61, 3) by decide +kernel) ml_L_61 mt_X10_cancel min_X10_cancel mse_X10_cancel (by decide) q360 rfl (Nat.le_of_ble_eq_true rfl) (by omega) (ok_mono h (fun w356 S357 F358 G359 h => ?_))
      obtain ⟨z361, e9, h⟩ := h
      subst e9
      show Go d Mlaw 766 [some (vR a0), some (vR a1), some (vR a2), some (vI a3)] [vI z361, vI z355] S357 F358 G359 Q
      obtain ⟨ht, hf⟩ := h
      refine go_icmpeq (tgt := 2110) (show decode code 766 = .ok (.if_icmp .eq 1344, 3) by decide +kernel) (by decide) (fun hc => ?_) (fun hc => ?_)
      · have h := ht hc
        exact R_law_2110 h
      · have h := hf hc
        refine go_iconst (show decode code 769 = .ok (.iconst 0, 1) by decide +kernel) (by decide) ?_
        exact go_zret (show decode code 770 = .ok (.ireturn, 1) by decide +kernel) rfl (by decide) h
    by_cases hc10 : bAnd (sx S a3) 63 = 10
    · have h := h_10 hc10
      refine go_swIn (tgt := 771) (show decode code 33 = .ok (.tableswitch 2077 0 32 #[147, 221, 297, 405, 493, 557, 665, 699, 712, 725, 738, 801, 824, 847, 911, 955, 1031, 1085, 1161, 1269, 1377, 1401, 1477, 1551, 1659, 1767, 1821, 1855, 1909, 1953, 1986, 2019, 2053], 147) by decide +kernel) (by omega) (by omega) (by rw [hc10]; rfl) (by decide) ?_
      refine go_aload_n (show decode code 771 = .ok (.aload_n 1, 1) by decide +kernel) (by rfl) ?_
      refine go_aload_n (show decode code 772 = .ok (.aload_n 0, 1) by decide +kernel) (by rfl) ?_
      refine go_iload_n (show decode code 773 = .ok (.iload_n 3, 1) by decide +kernel) (by rfl) ?_
      refine go_iconst (show decode code 774 = .ok (.iconst 1, 1) by decide +kernel) (by decide) ?_
      obtain ⟨q362, h⟩ := h
      refine go_iadd (show decode code 775 = .ok (.iadd, 1) by decide +kernel) q362 ?_
      obtain ⟨q363, h⟩ := h
      obtain ⟨q364, h⟩ := h
      refine go_scrld (show decode code 776 = .ok (.iaload, 1) by decide +kernel) rfl q363 q364 ?_
      refine go_aload_n (show decode code 777 = .ok (.aload_n 0, 1) by decide +kernel) (by rfl) ?_
      refine go_iload_n (show decode code 778 = .ok (.iload_n 3, 1) by decide +kernel) (by rfl) ?_
      refine go_iconst (show decode code 779 = .ok (.iconst 2, 1) by decide +kernel) (by decide) ?_
      obtain ⟨q365, h⟩ := h
      refine go_iadd (show decode code 780 = .ok (.iadd, 1) by decide +kernel) q365 ?_
      obtain ⟨q366, h⟩ := h
      obtain ⟨q367, h⟩ := h
      refine go_scrld (show decode code 781 = .ok (.iaload, 1) by decide +kernel) rfl q366 q367 ?_
      refine go_aload_n (show decode code 782 = .ok (.aload_n 0, 1) by decide +kernel) (by rfl) ?_
      refine go_iload_n (show decode code 783 = .ok (.iload_n 3, 1) by decide +kernel) (by rfl) ?_
      refine go_iconst (show decode code 784 = .ok (.iconst 3, 1) by decide +kernel) (by decide) ?_
      obtain ⟨q368, h⟩ := h
      refine go_iadd (show decode code 785 = .ok (.iadd, 1) by decide +kernel) q368 ?_
      obtain ⟨q369, h⟩ := h
      obtain ⟨q370, h⟩ := h
      refine go_scrld (show decode code 786 = .ok (.iaload, 1) by decide +kernel) rfl q369 q370 ?_
      refine go_aload_n (show decode code 787 = .ok (.aload_n 0, 1) by decide +kernel) (by rfl) ?_
      refine go_iload_n (show decode code 788 = .ok (.iload_n 3, 1) by decide +kernel) (by rfl) ?_
      refine go_iconst (show decode code 789 = .ok (.iconst 4, 1) by decide +kernel) (by decide) ?_
      obtain ⟨q371, h⟩ := h
      refine go_iadd (show decode code 790 = .ok (.iadd, 1) by decide +kernel) q371 ?_
      obtain ⟨q372, h⟩ := h
      obtain ⟨q373, h⟩ := h
      refine go_scrld (show decode code 791 = .ok (.iaload, 1) by decide +kernel) rfl q372 q373 ?_
      refine go_aload_n (show decode code 792 = .ok (.aload_n 0, 1) by decide +kernel) (by rfl) ?_
      refine go_iload_n (show decode code 793 = .ok (.iload_n 3, 1) by decide +kernel) (by rfl) ?_
      refine go_iconst (show decode code 794 = .ok (.iconst 5, 1) by decide +kernel) (by decide) ?_
      obtain ⟨q374, h⟩ := h
      refine go_iadd (show decode code 795 = .ok (.iadd, 1) by decide +kernel) q374 ?_
      obtain ⟨q375, h⟩ := h
      obtain ⟨q376, h⟩ := h
      refine go_scrld (show decode code 796 = .ok (.iaload, 1) by decide +kernel) rfl q375 q376 ?_
      obtain ⟨q377, h⟩ := h
      obtain ⟨q382, h⟩ := h
      refine go_callV (d2 := d - 1) (M2 := MX9_feed) (n := 5) (ci := 9) (av := [vI (sx S (a3 + 1)), vI (sx S (a3 + 2)), vI (sx S (a3 + 3)), vI (sx S (a3 + 4)), vI (sx S (a3 + 5))]) (st := []) (show decode code 797 = .ok (.invokevirtual 62, 3) by decide +kernel) ml_L_62 mt_X9_feed min_X9_feed mse_X9_feed (by decide) q382 rfl (Nat.le_of_ble_eq_true rfl) (by omega) (ok_mono h (fun w378 S379 F380 G381 h => ?_))
      obtain ⟨z383, e9, h⟩ := h
      subst e9
      show Go d Mlaw 800 [some (vR a0), some (vR a1), some (vR a2), some (vI a3)] [vI z383] S379 F380 G381 Q
      refine go_aload_n (show decode code 800 = .ok (.aload_n 2, 1) by decide +kernel) (by rfl) ?_
      refine go_aload_n (show decode code 801 = .ok (.aload_n 0, 1) by decide +kernel) (by rfl) ?_
      refine go_iload_n (show decode code 802 = .ok (.iload_n 3, 1) by decide +kernel) (by rfl) ?_
      refine go_iconst (show decode code 803 = .ok (.iconst 1, 1) by decide +kernel) (by decide) ?_
      obtain ⟨q384, h⟩ := h
      refine go_iadd (show decode code 804 = .ok (.iadd, 1) by decide +kernel) q384 ?_
      obtain ⟨q385, h⟩ := h
      obtain ⟨q386, h⟩ := h
      refine go_scrld (show decode code 805 = .ok (.iaload, 1) by decide +kernel) rfl q385 q386 ?_
      refine go_aload_n (show decode code 806 = .ok (.aload_n 0, 1) by decide +kernel) (by rfl) ?_
      refine go_iload_n (show decode code 807 = .ok (.iload_n 3, 1) by decide +kernel) (by rfl) ?_
      refine go_iconst (show decode code 808 = .ok (.iconst 2, 1) by decide +kernel) (by decide) ?_
      obtain ⟨q387, h⟩ := h
      refine go_iadd (show decode code 809 = .ok (.iadd, 1) by decide +kernel) q387 ?_
      obtain ⟨q388, h⟩ := h
      obtain ⟨q389, h⟩ := h
      refine go_scrld (show decode code 810 = .ok (.iaload, 1) by decide +kernel) rfl q388 q389 ?_
      refine go_aload_n (show decode code 811 = .ok (.aload_n 0, 1) by decide +kernel) (by rfl) ?_
      refine go_iload_n (show decode code 812 = .ok (.iload_n 3, 1) by decide +kernel) (by rfl) ?_
      refine go_iconst (show decode code 813 = .ok (.iconst 3, 1) by decide +kernel) (by decide) ?_
      obtain ⟨q390, h⟩ := h
      refine go_iadd (show decode code 814 = .ok (.iadd, 1) by decide +kernel) q390 ?_
      obtain ⟨q391, h⟩ := h
      obtain ⟨q392, h⟩ := h
      refine go_scrld (show decode code 815 = .ok (.iaload, 1) by decide +kernel) rfl q391 q392 ?_
      refine go_aload_n (show decode code 816 = .ok (.aload_n 0, 1) by decide +kernel) (by rfl) ?_
      refine go_iload_n (show decode code 817 = .ok (.iload_n 3, 1) by decide +kernel) (by rfl) ?_
      refine go_iconst (show decode code 818 = .ok (.iconst 4, 1) by decide +kernel) (by decide) ?_
      obtain ⟨q393, h⟩ := h
      refine go_iadd (show decode code 819 = .ok (.iadd, 1) by decide +kernel) q393 ?_
      obtain ⟨q394, h⟩ := h
      obtain ⟨q395, h⟩ := h
      refine go_scrld (show decode code 820 = .ok (.iaload, 1) by decide +kernel) rfl q394 q395 ?_
      refine go_aload_n (show decode code 821 = .ok (.aload_n 0, 1) by decide +kernel) (by rfl) ?_
      refine go_iload_n (show decode code 822 = .ok (.iload_n 3, 1) by decide +kernel) (by rfl) ?_
      refine go_iconst (show decode code 823 = .ok (.iconst 5, 1) by decide +kernel) (by decide) ?_
      obtain ⟨q396, h⟩ := h
      refine go_iadd (show decode code 824 = .ok (.iadd, 1) by decide +kernel) q396 ?_
      obtain ⟨q397, h⟩ := h
      obtain ⟨q398, h⟩ := h
      refine go_scrld (show decode code 825 = .ok (.iaload, 1) by decide +kernel) rfl q397 q398 ?_
      obtain ⟨q403, h⟩ := h
      refine go_callV (d2 := d - 1) (M2 := MX10_feed) (n := 5) (ci := 10) (av := [vI (sx S379 (a3 + 1)), vI (sx S379 (a3 + 2)), vI (sx S379 (a3 + 3)), vI (sx S379 (a3 + 4)), vI (sx S379 (a3 + 5))]) (st := [vI z383]) (show decode code 826 = .ok (.invokevirtual 66, 3) by decide +kernel) ml_L_66 mt_X10_feed min_X10_feed mse_X10_feed (by decide) q403 rfl (Nat.le_of_ble_eq_true rfl) (by omega) (ok_mono h (fun w399 S400 F401 G402 h => ?_))
      obtain ⟨z404, e9, h⟩ := h
      subst e9
      show Go d Mlaw 829 [some (vR a0), some (vR a1), some (vR a2), some (vI a3)] [vI z404, vI z383] S400 F401 G402 Q
      obtain ⟨ht, hf⟩ := h
      refine go_icmpeq (tgt := 2110) (show decode code 829 = .ok (.if_icmp .eq 1281, 3) by decide +kernel) (by decide) (fun hc => ?_) (fun hc => ?_)
      · have h := ht hc
        exact R_law_2110 h
      · have h := hf hc
        refine go_iconst (show decode code 832 = .ok (.iconst 0, 1) by decide +kernel) (by decide) ?_
        exact go_zret (show decode code 833 = .ok (.ireturn, 1) by decide +kernel) rfl (by decide) h
    by_cases hc11 : bAnd (sx S a3) 63 = 11
    · have h := h_11 hc11
      refine go_swIn (tgt := 834) (show decode code 33 = .ok (.tableswitch 2077 0 32 #[147, 221, 297, 405, 493, 557, 665, 699, 712, 725, 738, 801, 824, 847, 911, 955, 1031, 1085, 1161, 1269, 1377, 1401, 1477, 1551, 1659, 1767, 1821, 1855, 1909, 1953, 1986, 2019, 2053], 147) by decide +kernel) (by omega) (by omega) (by rw [hc11]; rfl) (by decide) ?_
      refine go_aload_n (show decode code 834 = .ok (.aload_n 1, 1) by decide +kernel) (by rfl) ?_
      refine go_aload_n (show decode code 835 = .ok (.aload_n 0, 1) by decide +kernel) (by rfl) ?_
      refine go_iload_n (show decode code 836 = .ok (.iload_n 3, 1) by decide +kernel) (by rfl) ?_
      refine go_iconst (show decode code 837 = .ok (.iconst 1, 1) by decide +kernel) (by decide) ?_
      obtain ⟨q405, h⟩ := h
      refine go_iadd (show decode code 838 = .ok (.iadd, 1) by decide +kernel) q405 ?_
      obtain ⟨q406, h⟩ := h
      obtain ⟨q407, h⟩ := h
      refine go_scrld (show decode code 839 = .ok (.iaload, 1) by decide +kernel) rfl q406 q407 ?_
      obtain ⟨q408, h⟩ := h
      obtain ⟨q413, h⟩ := h
      refine go_callV (d2 := d - 1) (M2 := MX9_run) (n := 1) (ci := 9) (av := [vI (sx S (a3 + 1))]) (st := []) (show decode code 840 = .ok (.invokevirtual 67, 3) by decide +kernel) ml_L_67 mt_X9_run min_X9_run mse_X9_run (by decide) q413 rfl (Nat.le_of_ble_eq_true rfl) (by omega) (ok_mono h (fun w409 S410 F411 G412 h => ?_))
      obtain ⟨z414, e9, h⟩ := h
      subst e9
      show Go d Mlaw 843 [some (vR a0), some (vR a1), some (vR a2), some (vI a3)] [vI z414] S410 F411 G412 Q
      refine go_aload_n (show decode code 843 = .ok (.aload_n 2, 1) by decide +kernel) (by rfl) ?_
      refine go_aload_n (show decode code 844 = .ok (.aload_n 0, 1) by decide +kernel) (by rfl) ?_
      refine go_iload_n (show decode code 845 = .ok (.iload_n 3, 1) by decide +kernel) (by rfl) ?_
      refine go_iconst (show decode code 846 = .ok (.iconst 1, 1) by decide +kernel) (by decide) ?_
      obtain ⟨q415, h⟩ := h
      refine go_iadd (show decode code 847 = .ok (.iadd, 1) by decide +kernel) q415 ?_
      obtain ⟨q416, h⟩ := h
      obtain ⟨q417, h⟩ := h
      refine go_scrld (show decode code 848 = .ok (.iaload, 1) by decide +kernel) rfl q416 q417 ?_
      obtain ⟨q422, h⟩ := h
      refine go_callV (d2 := d - 1) (M2 := MX10_run) (n := 1) (ci := 10) (av := [vI (sx S410 (a3 + 1))]) (st := [vI z414]) (show decode code 849 = .ok (.invokevirtual 71, 3) by decide +kernel) ml_L_71 mt_X10_run min_X10_run mse_X10_run (by decide) q422 rfl (Nat.le_of_ble_eq_true rfl) (by omega) (ok_mono h (fun w418 S419 F420 G421 h => ?_))
      obtain ⟨z423, e9, h⟩ := h
      subst e9
      show Go d Mlaw 852 [some (vR a0), some (vR a1), some (vR a2), some (vI a3)] [vI z423, vI z414] S419 F420 G421 Q
      obtain ⟨ht, hf⟩ := h
      refine go_icmpeq (tgt := 2110) (show decode code 852 = .ok (.if_icmp .eq 1258, 3) by decide +kernel) (by decide) (fun hc => ?_) (fun hc => ?_)
      · have h := ht hc
        exact R_law_2110 h
      · have h := hf hc
        refine go_iconst (show decode code 855 = .ok (.iconst 0, 1) by decide +kernel) (by decide) ?_
        exact go_zret (show decode code 856 = .ok (.ireturn, 1) by decide +kernel) rfl (by decide) h
    by_cases hc12 : bAnd (sx S a3) 63 = 12
    · have h := h_12 hc12
      refine go_swIn (tgt := 857) (show decode code 33 = .ok (.tableswitch 2077 0 32 #[147, 221, 297, 405, 493, 557, 665, 699, 712, 725, 738, 801, 824, 847, 911, 955, 1031, 1085, 1161, 1269, 1377, 1401, 1477, 1551, 1659, 1767, 1821, 1855, 1909, 1953, 1986, 2019, 2053], 147) by decide +kernel) (by omega) (by omega) (by rw [hc12]; rfl) (by decide) ?_
      refine go_aload_n (show decode code 857 = .ok (.aload_n 1, 1) by decide +kernel) (by rfl) ?_
      refine go_aload_n (show decode code 858 = .ok (.aload_n 0, 1) by decide +kernel) (by rfl) ?_
      refine go_iload_n (show decode code 859 = .ok (.iload_n 3, 1) by decide +kernel) (by rfl) ?_
      refine go_iconst (show decode code 860 = .ok (.iconst 1, 1) by decide +kernel) (by decide) ?_
      obtain ⟨q424, h⟩ := h
      refine go_iadd (show decode code 861 = .ok (.iadd, 1) by decide +kernel) q424 ?_
      obtain ⟨q425, h⟩ := h
      obtain ⟨q426, h⟩ := h
      refine go_scrld (show decode code 862 = .ok (.iaload, 1) by decide +kernel) rfl q425 q426 ?_
      obtain ⟨q427, h⟩ := h
      obtain ⟨q432, h⟩ := h
      refine go_callV (d2 := d - 1) (M2 := MX9_fault) (n := 1) (ci := 9) (av := [vI (sx S (a3 + 1))]) (st := []) (show decode code 863 = .ok (.invokevirtual 72, 3) by decide +kernel) ml_L_72 mt_X9_fault min_X9_fault mse_X9_fault (by decide) q432 rfl (Nat.le_of_ble_eq_true rfl) (by omega) (ok_mono h (fun w428 S429 F430 G431 h => ?_))
      obtain ⟨z433, e9, h⟩ := h
      subst e9
      show Go d Mlaw 866 [some (vR a0), some (vR a1), some (vR a2), some (vI a3)] [vI z433] S429 F430 G431 Q
      refine go_aload_n (show decode code 866 = .ok (.aload_n 2, 1) by decide +kernel) (by rfl) ?_
      refine go_aload_n (show decode code 867 = .ok (.aload_n 0, 1) by decide +kernel) (by rfl) ?_
      refine go_iload_n (show decode code 868 = .ok (.iload_n 3, 1) by decide +kernel) (by rfl) ?_
      refine go_iconst (show decode code 869 = .ok (.iconst 1, 1) by decide +kernel) (by decide) ?_
      obtain ⟨q434, h⟩ := h
      refine go_iadd (show decode code 870 = .ok (.iadd, 1) by decide +kernel) q434 ?_
      obtain ⟨q435, h⟩ := h
      obtain ⟨q436, h⟩ := h
      refine go_scrld (show decode code 871 = .ok (.iaload, 1) by decide +kernel) rfl q435 q436 ?_
      obtain ⟨q441, h⟩ := h
      refine go_callV (d2 := d - 1) (M2 := MX10_fault) (n := 1) (ci := 10) (av := [vI (sx S429 (a3 + 1))]) (st := [vI z433]) (show decode code 872 = .ok (.invokevirtual 75, 3) by decide +kernel) ml_L_75 mt_X10_fault min_X10_fault mse_X10_fault (by decide) q441 rfl (Nat.le_of_ble_eq_true rfl) (by omega) (ok_mono h (fun w437 S438 F439 G440 h => ?_))
      obtain ⟨z442, e9, h⟩ := h
      subst e9
      show Go d Mlaw 875 [some (vR a0), some (vR a1), some (vR a2), some (vI a3)] [vI z442, vI z433] S438 F439 G440 Q
      obtain ⟨ht, hf⟩ := h
      refine go_icmpeq (tgt := 2110) (show decode code 875 = .ok (.if_icmp .eq 1235, 3) by decide +kernel) (by decide) (fun hc => ?_) (fun hc => ?_)
      · have h := ht hc
        exact R_law_2110 h
      · have h := hf hc
        refine go_iconst (show decode code 878 = .ok (.iconst 0, 1) by decide +kernel) (by decide) ?_
        exact go_zret (show decode code 879 = .ok (.ireturn, 1) by decide +kernel) rfl (by decide) h
    by_cases hc13 : bAnd (sx S a3) 63 = 13
    · have h := h_13 hc13
      refine go_swIn (tgt := 880) (show decode code 33 = .ok (.tableswitch 2077 0 32 #[147, 221, 297, 405, 493, 557, 665, 699, 712, 725, 738, 801, 824, 847, 911, 955, 1031, 1085, 1161, 1269, 1377, 1401, 1477, 1551, 1659, 1767, 1821, 1855, 1909, 1953, 1986, 2019, 2053], 147) by decide +kernel) (by omega) (by omega) (by rw [hc13]; rfl) (by decide) ?_
      refine go_aload_n (show decode code 880 = .ok (.aload_n 1, 1) by decide +kernel) (by rfl) ?_
      refine go_aload_n (show decode code 881 = .ok (.aload_n 0, 1) by decide +kernel) (by rfl) ?_
      refine go_iload_n (show decode code 882 = .ok (.iload_n 3, 1) by decide +kernel) (by rfl) ?_
      refine go_iconst (show decode code 883 = .ok (.iconst 1, 1) by decide +kernel) (by decide) ?_
      obtain ⟨q443, h⟩ := h
      refine go_iadd (show decode code 884 = .ok (.iadd, 1) by decide +kernel) q443 ?_
      obtain ⟨q444, h⟩ := h
      obtain ⟨q445, h⟩ := h
      refine go_scrld (show decode code 885 = .ok (.iaload, 1) by decide +kernel) rfl q444 q445 ?_
      refine go_aload_n (show decode code 886 = .ok (.aload_n 0, 1) by decide +kernel) (by rfl) ?_
      refine go_iload_n (show decode code 887 = .ok (.iload_n 3, 1) by decide +kernel) (by rfl) ?_
      refine go_iconst (show decode code 888 = .ok (.iconst 2, 1) by decide +kernel) (by decide) ?_
      obtain ⟨q446, h⟩ := h
      refine go_iadd (show decode code 889 = .ok (.iadd, 1) by decide +kernel) q446 ?_
      obtain ⟨q447, h⟩ := h
      obtain ⟨q448, h⟩ := h
      refine go_scrld (show decode code 890 = .ok (.iaload, 1) by decide +kernel) rfl q447 q448 ?_
      refine go_aload_n (show decode code 891 = .ok (.aload_n 0, 1) by decide +kernel) (by rfl) ?_
      refine go_iload_n (show decode code 892 = .ok (.iload_n 3, 1) by decide +kernel) (by rfl) ?_
      refine go_iconst (show decode code 893 = .ok (.iconst 3, 1) by decide +kernel) (by decide) ?_
      obtain ⟨q449, h⟩ := h
      refine go_iadd (show decode code 894 = .ok (.iadd, 1) by decide +kernel) q449 ?_
      obtain ⟨q450, h⟩ := h
      obtain ⟨q451, h⟩ := h
      refine go_scrld (show decode code 895 = .ok (.iaload, 1) by decide +kernel) rfl q450 q451 ?_
      refine go_aload_n (show decode code 896 = .ok (.aload_n 0, 1) by decide +kernel) (by rfl) ?_
      refine go_iload_n (show decode code 897 = .ok (.iload_n 3, 1) by decide +kernel) (by rfl) ?_
      refine go_iconst (show decode code 898 = .ok (.iconst 4, 1) by decide +kernel) (by decide) ?_
      obtain ⟨q452, h⟩ := h
      refine go_iadd (show decode code 899 = .ok (.iadd, 1) by decide +kernel) q452 ?_
      obtain ⟨q453, h⟩ := h
      obtain ⟨q454, h⟩ := h
      refine go_scrld (show decode code 900 = .ok (.iaload, 1) by decide +kernel) rfl q453 q454 ?_
      refine go_aload_n (show decode code 901 = .ok (.aload_n 0, 1) by decide +kernel) (by rfl) ?_
      refine go_iload_n (show decode code 902 = .ok (.iload_n 3, 1) by decide +kernel) (by rfl) ?_
      refine go_iconst (show decode code 903 = .ok (.iconst 5, 1) by decide +kernel) (by decide) ?_
      obtain ⟨q455, h⟩ := h
      refine go_iadd (show decode code 904 = .ok (.iadd, 1) by decide +kernel) q455 ?_
      obtain ⟨q456, h⟩ := h
      obtain ⟨q457, h⟩ := h
      refine go_scrld (show decode code 905 = .ok (.iaload, 1) by decide +kernel) rfl q456 q457 ?_
      obtain ⟨q458, h⟩ := h
      obtain ⟨q463, h⟩ := h
      refine go_callV (d2 := d - 1) (M2 := MX9_sum) (n := 5) (ci := 9) (av := [vI (sx S (a3 + 1)), vI (sx S (a3 + 2)), vI (sx S (a3 + 3)), vI (sx S (a3 + 4)), vI (sx S (a3 + 5))]) (st := []) (show decode code 906 = .ok (.invokevirtual 76, 3) by decide +kernel) ml_L_76 mt_X9_sum min_X9_sum mse_X9_sum (by decide) q463 rfl (Nat.le_of_ble_eq_true rfl) (by omega) (ok_mono h (fun w459 S460 F461 G462 h => ?_))
      obtain ⟨z464, e9, h⟩ := h
      subst e9
      show Go d Mlaw 909 [some (vR a0), some (vR a1), some (vR a2), some (vI a3)] [vJ z464] S460 F461 G462 Q
      refine go_aload_n (show decode code 909 = .ok (.aload_n 2, 1) by decide +kernel) (by rfl) ?_
      refine go_aload_n (show decode code 910 = .ok (.aload_n 0, 1) by decide +kernel) (by rfl) ?_
      refine go_iload_n (show decode code 911 = .ok (.iload_n 3, 1) by decide +kernel) (by rfl) ?_
      refine go_iconst (show decode code 912 = .ok (.iconst 1, 1) by decide +kernel) (by decide) ?_
      obtain ⟨q465, h⟩ := h
      refine go_iadd (show decode code 913 = .ok (.iadd, 1) by decide +kernel) q465 ?_
      obtain ⟨q466, h⟩ := h
      obtain ⟨q467, h⟩ := h
      refine go_scrld (show decode code 914 = .ok (.iaload, 1) by decide +kernel) rfl q466 q467 ?_
      refine go_aload_n (show decode code 915 = .ok (.aload_n 0, 1) by decide +kernel) (by rfl) ?_
      refine go_iload_n (show decode code 916 = .ok (.iload_n 3, 1) by decide +kernel) (by rfl) ?_
      refine go_iconst (show decode code 917 = .ok (.iconst 2, 1) by decide +kernel) (by decide) ?_
      obtain ⟨q468, h⟩ := h
      refine go_iadd (show decode code 918 = .ok (.iadd, 1) by decide +kernel) q468 ?_
      obtain ⟨q469, h⟩ := h
      obtain ⟨q470, h⟩ := h
      refine go_scrld (show decode code 919 = .ok (.iaload, 1) by decide +kernel) rfl q469 q470 ?_
      refine go_aload_n (show decode code 920 = .ok (.aload_n 0, 1) by decide +kernel) (by rfl) ?_
      refine go_iload_n (show decode code 921 = .ok (.iload_n 3, 1) by decide +kernel) (by rfl) ?_
      refine go_iconst (show decode code 922 = .ok (.iconst 3, 1) by decide +kernel) (by decide) ?_
      obtain ⟨q471, h⟩ := h
      refine go_iadd (show decode code 923 = .ok (.iadd, 1) by decide +kernel) q471 ?_
      obtain ⟨q472, h⟩ := h
      obtain ⟨q473, h⟩ := h
      refine go_scrld (show decode code 924 = .ok (.iaload, 1) by decide +kernel) rfl q472 q473 ?_
      refine go_aload_n (show decode code 925 = .ok (.aload_n 0, 1) by decide +kernel) (by rfl) ?_
      refine go_iload_n (show decode code 926 = .ok (.iload_n 3, 1) by decide +kernel) (by rfl) ?_
      refine go_iconst (show decode code 927 = .ok (.iconst 4, 1) by decide +kernel) (by decide) ?_
      obtain ⟨q474, h⟩ := h
      refine go_iadd (show decode code 928 = .ok (.iadd, 1) by decide +kernel) q474 ?_
      obtain ⟨q475, h⟩ := h
      obtain ⟨q476, h⟩ := h
      refine go_scrld (show decode code 929 = .ok (.iaload, 1) by decide +kernel) rfl q475 q476 ?_
      refine go_aload_n (show decode code 930 = .ok (.aload_n 0, 1) by decide +kernel) (by rfl) ?_
      refine go_iload_n (show decode code 931 = .ok (.iload_n 3, 1) by decide +kernel) (by rfl) ?_
      refine go_iconst (show decode code 932 = .ok (.iconst 5, 1) by decide +kernel) (by decide) ?_
      obtain ⟨q477, h⟩ := h
      refine go_iadd (show decode code 933 = .ok (.iadd, 1) by decide +kernel) q477 ?_
      obtain ⟨q478, h⟩ := h
      obtain ⟨q479, h⟩ := h
      refine go_scrld (show decode code 934 = .ok (.iaload, 1) by decide +kernel) rfl q478 q479 ?_
      obtain ⟨q484, h⟩ := h
      refine go_callV (d2 := d - 1) (M2 := MX10_sum) (n := 5) (ci := 10) (av := [vI (sx S460 (a3 + 1)), vI (sx S460 (a3 + 2)), vI (sx S460 (a3 + 3)), vI (sx S460 (a3 + 4)), vI (sx S460 (a3 + 5))]) (st := [vJ z464]) (show decode code 935 = .ok (.invokevirtual 79, 3) by decide +kernel) ml_L_79 mt_X10_sum min_X10_sum mse_X10_sum (by decide) q484 rfl (Nat.le_of_ble_eq_true rfl) (by omega) (ok_mono h (fun w480 S481 F482 G483 h => ?_))
      obtain ⟨z485, e9, h⟩ := h
      subst e9
      show Go d Mlaw 938 [some (vR a0), some (vR a1), some (vR a2), some (vI a3)] [vJ z485, vJ z464] S481 F482 G483 Q
      obtain ⟨ht, hf⟩ := h
      refine go_jeq (tgt := 2110) (show decode code 938 = .ok (.lcmp, 1) by decide +kernel) (show decode code 939 = .ok (.ifCond .eq 1171, 3) by decide +kernel) (by decide) (fun hc => ?_) (fun hc => ?_)
      · have h := ht hc
        exact R_law_2110 h
      · have h := hf hc
        refine go_iconst (show decode code 942 = .ok (.iconst 0, 1) by decide +kernel) (by decide) ?_
        exact go_zret (show decode code 943 = .ok (.ireturn, 1) by decide +kernel) rfl (by decide) h
    by_cases hc14 : bAnd (sx S a3) 63 = 14
    · have h := h_14 hc14
      refine go_swIn (tgt := 944) (show decode code 33 = .ok (.tableswitch 2077 0 32 #[147, 221, 297, 405, 493, 557, 665, 699, 712, 725, 738, 801, 824, 847, 911, 955, 1031, 1085, 1161, 1269, 1377, 1401, 1477, 1551, 1659, 1767, 1821, 1855, 1909, 1953, 1986, 2019, 2053], 147) by decide +kernel) (by omega) (by omega) (by rw [hc14]; rfl) (by decide) ?_
      refine go_aload_n (show decode code 944 = .ok (.aload_n 1, 1) by decide +kernel) (by rfl) ?_
      refine go_aload_n (show decode code 945 = .ok (.aload_n 0, 1) by decide +kernel) (by rfl) ?_
      refine go_iload_n (show decode code 946 = .ok (.iload_n 3, 1) by decide +kernel) (by rfl) ?_
      refine go_iconst (show decode code 947 = .ok (.iconst 1, 1) by decide +kernel) (by decide) ?_
      obtain ⟨q486, h⟩ := h
      refine go_iadd (show decode code 948 = .ok (.iadd, 1) by decide +kernel) q486 ?_
      obtain ⟨q487, h⟩ := h
      obtain ⟨q488, h⟩ := h
      refine go_scrld (show decode code 949 = .ok (.iaload, 1) by decide +kernel) rfl q487 q488 ?_
      refine go_aload_n (show decode code 950 = .ok (.aload_n 0, 1) by decide +kernel) (by rfl) ?_
      refine go_iload_n (show decode code 951 = .ok (.iload_n 3, 1) by decide +kernel) (by rfl) ?_
      refine go_iconst (show decode code 952 = .ok (.iconst 2, 1) by decide +kernel) (by decide) ?_
      obtain ⟨q489, h⟩ := h
      refine go_iadd (show decode code 953 = .ok (.iadd, 1) by decide +kernel) q489 ?_
      obtain ⟨q490, h⟩ := h
      obtain ⟨q491, h⟩ := h
      refine go_scrld (show decode code 954 = .ok (.iaload, 1) by decide +kernel) rfl q490 q491 ?_
      refine go_aload_n (show decode code 955 = .ok (.aload_n 0, 1) by decide +kernel) (by rfl) ?_
      refine go_iload_n (show decode code 956 = .ok (.iload_n 3, 1) by decide +kernel) (by rfl) ?_
      refine go_iconst (show decode code 957 = .ok (.iconst 3, 1) by decide +kernel) (by decide) ?_
      obtain ⟨q492, h⟩ := h
      refine go_iadd (show decode code 958 = .ok (.iadd, 1) by decide +kernel) q492 ?_
      obtain ⟨q493, h⟩ := h
      obtain ⟨q494, h⟩ := h
      refine go_scrld (show decode code 959 = .ok (.iaload, 1) by decide +kernel) rfl q493 q494 ?_
      obtain ⟨q495, h⟩ := h
      obtain ⟨q500, h⟩ := h
      refine go_callV (d2 := d - 1) (M2 := MX9_at) (n := 3) (ci := 9) (av := [vI (sx S (a3 + 1)), vI (sx S (a3 + 2)), vI (sx S (a3 + 3))]) (st := []) (show decode code 960 = .ok (.invokevirtual 80, 3) by decide +kernel) ml_L_80 mt_X9_at min_X9_at mse_X9_at (by decide) q500 rfl (Nat.le_of_ble_eq_true rfl) (by omega) (ok_mono h (fun w496 S497 F498 G499 h => ?_))
      obtain ⟨z501, e9, h⟩ := h
      subst e9
      show Go d Mlaw 963 [some (vR a0), some (vR a1), some (vR a2), some (vI a3)] [vJ z501] S497 F498 G499 Q
      refine go_aload_n (show decode code 963 = .ok (.aload_n 2, 1) by decide +kernel) (by rfl) ?_
      refine go_aload_n (show decode code 964 = .ok (.aload_n 0, 1) by decide +kernel) (by rfl) ?_
      refine go_iload_n (show decode code 965 = .ok (.iload_n 3, 1) by decide +kernel) (by rfl) ?_
      refine go_iconst (show decode code 966 = .ok (.iconst 1, 1) by decide +kernel) (by decide) ?_
      obtain ⟨q502, h⟩ := h
      refine go_iadd (show decode code 967 = .ok (.iadd, 1) by decide +kernel) q502 ?_
      obtain ⟨q503, h⟩ := h
      obtain ⟨q504, h⟩ := h
      refine go_scrld (show decode code 968 = .ok (.iaload, 1) by decide +kernel) rfl q503 q504 ?_
      refine go_aload_n (show decode code 969 = .ok (.aload_n 0, 1) by decide +kernel) (by rfl) ?_
      refine go_iload_n (show decode code 970 = .ok (.iload_n 3, 1) by decide +kernel) (by rfl) ?_
      refine go_iconst (show decode code 971 = .ok (.iconst 2, 1) by decide +kernel) (by decide) ?_
      obtain ⟨q505, h⟩ := h
      refine go_iadd (show decode code 972 = .ok (.iadd, 1) by decide +kernel) q505 ?_
      obtain ⟨q506, h⟩ := h
      obtain ⟨q507, h⟩ := h
      refine go_scrld (show decode code 973 = .ok (.iaload, 1) by decide +kernel) rfl q506 q507 ?_
      refine go_aload_n (show decode code 974 = .ok (.aload_n 0, 1) by decide +kernel) (by rfl) ?_
      refine go_iload_n (show decode code 975 = .ok (.iload_n 3, 1) by decide +kernel) (by rfl) ?_
      refine go_iconst (show decode code 976 = .ok (.iconst 3, 1) by decide +kernel) (by decide) ?_
      obtain ⟨q508, h⟩ := h
      refine go_iadd (show decode code 977 = .ok (.iadd, 1) by decide +kernel) q508 ?_
      obtain ⟨q509, h⟩ := h
      obtain ⟨q510, h⟩ := h
      refine go_scrld (show decode code 978 = .ok (.iaload, 1) by decide +kernel) rfl q509 q510 ?_
      obtain ⟨q515, h⟩ := h
      refine go_callV (d2 := d - 1) (M2 := MX10_at) (n := 3) (ci := 10) (av := [vI (sx S497 (a3 + 1)), vI (sx S497 (a3 + 2)), vI (sx S497 (a3 + 3))]) (st := [vJ z501]) (show decode code 979 = .ok (.invokevirtual 84, 3) by decide +kernel) ml_L_84 mt_X10_at min_X10_at mse_X10_at (by decide) q515 rfl (Nat.le_of_ble_eq_true rfl) (by omega) (ok_mono h (fun w511 S512 F513 G514 h => ?_))
      obtain ⟨z516, e9, h⟩ := h
      subst e9
      show Go d Mlaw 982 [some (vR a0), some (vR a1), some (vR a2), some (vI a3)] [vJ z516, vJ z501] S512 F513 G514 Q
      obtain ⟨ht, hf⟩ := h
      refine go_jeq (tgt := 2110) (show decode code 982 = .ok (.lcmp, 1) by decide +kernel) (show decode code 983 = .ok (.ifCond .eq 1127, 3) by decide +kernel) (by decide) (fun hc => ?_) (fun hc => ?_)
      · have h := ht hc
        exact R_law_2110 h
      · have h := hf hc
        refine go_iconst (show decode code 986 = .ok (.iconst 0, 1) by decide +kernel) (by decide) ?_
        exact go_zret (show decode code 987 = .ok (.ireturn, 1) by decide +kernel) rfl (by decide) h
    by_cases hc15 : bAnd (sx S a3) 63 = 15
    · have h := h_15 hc15
      refine go_swIn (tgt := 988) (show decode code 33 = .ok (.tableswitch 2077 0 32 #[147, 221, 297, 405, 493, 557, 665, 699, 712, 725, 738, 801, 824, 847, 911, 955, 1031, 1085, 1161, 1269, 1377, 1401, 1477, 1551, 1659, 1767, 1821, 1855, 1909, 1953, 1986, 2019, 2053], 147) by decide +kernel) (by omega) (by omega) (by rw [hc15]; rfl) (by decide) ?_
      refine go_aload_n (show decode code 988 = .ok (.aload_n 1, 1) by decide +kernel) (by rfl) ?_
      refine go_aload_n (show decode code 989 = .ok (.aload_n 0, 1) by decide +kernel) (by rfl) ?_
      refine go_iload_n (show decode code 990 = .ok (.iload_n 3, 1) by decide +kernel) (by rfl) ?_
      refine go_iconst (show decode code 991 = .ok (.iconst 1, 1) by decide +kernel) (by decide) ?_
      obtain ⟨q517, h⟩ := h
      refine go_iadd (show decode code 992 = .ok (.iadd, 1) by decide +kernel) q517 ?_
      obtain ⟨q518, h⟩ := h
      obtain ⟨q519, h⟩ := h
      refine go_scrld (show decode code 993 = .ok (.iaload, 1) by decide +kernel) rfl q518 q519 ?_
      refine go_aload_n (show decode code 994 = .ok (.aload_n 0, 1) by decide +kernel) (by rfl) ?_
      refine go_iload_n (show decode code 995 = .ok (.iload_n 3, 1) by decide +kernel) (by rfl) ?_
      refine go_iconst (show decode code 996 = .ok (.iconst 2, 1) by decide +kernel) (by decide) ?_
      obtain ⟨q520, h⟩ := h
      refine go_iadd (show decode code 997 = .ok (.iadd, 1) by decide +kernel) q520 ?_
      obtain ⟨q521, h⟩ := h
      obtain ⟨q522, h⟩ := h
      refine go_scrld (show decode code 998 = .ok (.iaload, 1) by decide +kernel) rfl q521 q522 ?_
      refine go_aload_n (show decode code 999 = .ok (.aload_n 0, 1) by decide +kernel) (by rfl) ?_
      refine go_iload_n (show decode code 1000 = .ok (.iload_n 3, 1) by decide +kernel) (by rfl) ?_
      refine go_iconst (show decode code 1001 = .ok (.iconst 3, 1) by decide +kernel) (by decide) ?_
      obtain ⟨q523, h⟩ := h
      refine go_iadd (show decode code 1002 = .ok (.iadd, 1) by decide +kernel) q523 ?_
      obtain ⟨q524, h⟩ := h
      obtain ⟨q525, h⟩ := h
      refine go_scrld (show decode code 1003 = .ok (.iaload, 1) by decide +kernel) rfl q524 q525 ?_
      refine go_aload_n (show decode code 1004 = .ok (.aload_n 0, 1) by decide +kernel) (by rfl) ?_
      refine go_iload_n (show decode code 1005 = .ok (.iload_n 3, 1) by decide +kernel) (by rfl) ?_
      refine go_iconst (show decode code 1006 = .ok (.iconst 4, 1) by decide +kernel) (by decide) ?_
      obtain ⟨q526, h⟩ := h
      refine go_iadd (show decode code 1007 = .ok (.iadd, 1) by decide +kernel) q526 ?_
      obtain ⟨q527, h⟩ := h
      obtain ⟨q528, h⟩ := h
      refine go_scrld (show decode code 1008 = .ok (.iaload, 1) by decide +kernel) rfl q527 q528 ?_
      refine go_aload_n (show decode code 1009 = .ok (.aload_n 0, 1) by decide +kernel) (by rfl) ?_
      refine go_iload_n (show decode code 1010 = .ok (.iload_n 3, 1) by decide +kernel) (by rfl) ?_
      refine go_iconst (show decode code 1011 = .ok (.iconst 5, 1) by decide +kernel) (by decide) ?_
      obtain ⟨q529, h⟩ := h
      refine go_iadd (show decode code 1012 = .ok (.iadd, 1) by decide +kernel) q529 ?_
      obtain ⟨q530, h⟩ := h
      obtain ⟨q531, h⟩ := h
      refine go_scrld (show decode code 1013 = .ok (.iaload, 1) by decide +kernel) rfl q530 q531 ?_
      refine go_aload_n (show decode code 1014 = .ok (.aload_n 0, 1) by decide +kernel) (by rfl) ?_
      refine go_iload_n (show decode code 1015 = .ok (.iload_n 3, 1) by decide +kernel) (by rfl) ?_
      refine go_bipush (show decode code 1016 = .ok (.bipush 6, 2) by decide +kernel) (by decide) ?_
      obtain ⟨q532, h⟩ := h
      refine go_iadd (show decode code 1018 = .ok (.iadd, 1) by decide +kernel) q532 ?_
      obtain ⟨q533, h⟩ := h
      obtain ⟨q534, h⟩ := h
      refine go_scrld (show decode code 1019 = .ok (.iaload, 1) by decide +kernel) rfl q533 q534 ?_
      obtain ⟨q535, h⟩ := h
      obtain ⟨q540, h⟩ := h
      refine go_callV (d2 := d - 1) (M2 := MX9_bound) (n := 6) (ci := 9) (av := [vI (sx S (a3 + 1)), vI (sx S (a3 + 2)), vI (sx S (a3 + 3)), vI (sx S (a3 + 4)), vI (sx S (a3 + 5)), vI (sx S (a3 + 6))]) (st := []) (show decode code 1020 = .ok (.invokevirtual 85, 3) by decide +kernel) ml_L_85 mt_X9_bound min_X9_bound mse_X9_bound (by decide) q540 rfl (Nat.le_of_ble_eq_true rfl) (by omega) (ok_mono h (fun w536 S537 F538 G539 h => ?_))
      obtain ⟨z541, e9, h⟩ := h
      subst e9
      show Go d Mlaw 1023 [some (vR a0), some (vR a1), some (vR a2), some (vI a3)] [vJ z541] S537 F538 G539 Q
      refine go_aload_n (show decode code 1023 = .ok (.aload_n 2, 1) by decide +kernel) (by rfl) ?_
      refine go_aload_n (show decode code 1024 = .ok (.aload_n 0, 1) by decide +kernel) (by rfl) ?_
      refine go_iload_n (show decode code 1025 = .ok (.iload_n 3, 1) by decide +kernel) (by rfl) ?_
      refine go_iconst (show decode code 1026 = .ok (.iconst 1, 1) by decide +kernel) (by decide) ?_
      obtain ⟨q542, h⟩ := h
      refine go_iadd (show decode code 1027 = .ok (.iadd, 1) by decide +kernel) q542 ?_
      obtain ⟨q543, h⟩ := h
      obtain ⟨q544, h⟩ := h
      refine go_scrld (show decode code 1028 = .ok (.iaload, 1) by decide +kernel) rfl q543 q544 ?_
      refine go_aload_n (show decode code 1029 = .ok (.aload_n 0, 1) by decide +kernel) (by rfl) ?_
      refine go_iload_n (show decode code 1030 = .ok (.iload_n 3, 1) by decide +kernel) (by rfl) ?_
      refine go_iconst (show decode code 1031 = .ok (.iconst 2, 1) by decide +kernel) (by decide) ?_
      obtain ⟨q545, h⟩ := h
      refine go_iadd (show decode code 1032 = .ok (.iadd, 1) by decide +kernel) q545 ?_
      obtain ⟨q546, h⟩ := h
      obtain ⟨q547, h⟩ := h
      refine go_scrld (show decode code 1033 = .ok (.iaload, 1) by decide +kernel) rfl q546 q547 ?_
      refine go_aload_n (show decode code 1034 = .ok (.aload_n 0, 1) by decide +kernel) (by rfl) ?_
      refine go_iload_n (show decode code 1035 = .ok (.iload_n 3, 1) by decide +kernel) (by rfl) ?_
      refine go_iconst (show decode code 1036 = .ok (.iconst 3, 1) by decide +kernel) (by decide) ?_
      obtain ⟨q548, h⟩ := h
      refine go_iadd (show decode code 1037 = .ok (.iadd, 1) by decide +kernel) q548 ?_
      obtain ⟨q549, h⟩ := h
      obtain ⟨q550, h⟩ := h
      refine go_scrld (show decode code 1038 = .ok (.iaload, 1) by decide +kernel) rfl q549 q550 ?_
      refine go_aload_n (show decode code 1039 = .ok (.aload_n 0, 1) by decide +kernel) (by rfl) ?_
      refine go_iload_n (show decode code 1040 = .ok (.iload_n 3, 1) by decide +kernel) (by rfl) ?_
      refine go_iconst (show decode code 1041 = .ok (.iconst 4, 1) by decide +kernel) (by decide) ?_
      obtain ⟨q551, h⟩ := h
      refine go_iadd (show decode code 1042 = .ok (.iadd, 1) by decide +kernel) q551 ?_
      obtain ⟨q552, h⟩ := h
      obtain ⟨q553, h⟩ := h
      refine go_scrld (show decode code 1043 = .ok (.iaload, 1) by decide +kernel) rfl q552 q553 ?_
      refine go_aload_n (show decode code 1044 = .ok (.aload_n 0, 1) by decide +kernel) (by rfl) ?_
      refine go_iload_n (show decode code 1045 = .ok (.iload_n 3, 1) by decide +kernel) (by rfl) ?_
      refine go_iconst (show decode code 1046 = .ok (.iconst 5, 1) by decide +kernel) (by decide) ?_
      obtain ⟨q554, h⟩ := h
      refine go_iadd (show decode code 1047 = .ok (.iadd, 1) by decide +kernel) q554 ?_
      obtain ⟨q555, h⟩ := h
      obtain ⟨q556, h⟩ := h
      refine go_scrld (show decode code 1048 = .ok (.iaload, 1) by decide +kernel) rfl q555 q556 ?_
      refine go_aload_n (show decode code 1049 = .ok (.aload_n 0, 1) by decide +kernel) (by rfl) ?_
      refine go_iload_n (show decode code 1050 = .ok (.iload_n 3, 1) by decide +kernel) (by rfl) ?_
      refine go_bipush (show decode code 1051 = .ok (.bipush 6, 2) by decide +kernel) (by decide) ?_
      obtain ⟨q557, h⟩ := h
      refine go_iadd (show decode code 1053 = .ok (.iadd, 1) by decide +kernel) q557 ?_
      obtain ⟨q558, h⟩ := h
      obtain ⟨q559, h⟩ := h
      refine go_scrld (show decode code 1054 = .ok (.iaload, 1) by decide +kernel) rfl q558 q559 ?_
      obtain ⟨q564, h⟩ := h
      refine go_callV (d2 := d - 1) (M2 := MX10_bound) (n := 6) (ci := 10) (av := [vI (sx S537 (a3 + 1)), vI (sx S537 (a3 + 2)), vI (sx S537 (a3 + 3)), vI (sx S537 (a3 + 4)), vI (sx S537 (a3 + 5)), vI (sx S537 (a3 + 6))]) (st := [vJ z541]) (show decode code 1055 = .ok (.invokevirtual 88, 3) by decide +kernel) ml_L_88 mt_X10_bound min_X10_bound mse_X10_bound (by decide) q564 rfl (Nat.le_of_ble_eq_true rfl) (by omega) (ok_mono h (fun w560 S561 F562 G563 h => ?_))
      obtain ⟨z565, e9, h⟩ := h
      subst e9
      show Go d Mlaw 1058 [some (vR a0), some (vR a1), some (vR a2), some (vI a3)] [vJ z565, vJ z541] S561 F562 G563 Q
      obtain ⟨ht, hf⟩ := h
      refine go_jeq (tgt := 2110) (show decode code 1058 = .ok (.lcmp, 1) by decide +kernel) (show decode code 1059 = .ok (.ifCond .eq 1051, 3) by decide +kernel) (by decide) (fun hc => ?_) (fun hc => ?_)
      · have h := ht hc
        exact R_law_2110 h
      · have h := hf hc
        refine go_iconst (show decode code 1062 = .ok (.iconst 0, 1) by decide +kernel) (by decide) ?_
        exact go_zret (show decode code 1063 = .ok (.ireturn, 1) by decide +kernel) rfl (by decide) h
    by_cases hc16 : bAnd (sx S a3) 63 = 16
    · have h := h_16 hc16
      refine go_swIn (tgt := 1064) (show decode code 33 = .ok (.tableswitch 2077 0 32 #[147, 221, 297, 405, 493, 557, 665, 699, 712, 725, 738, 801, 824, 847, 911, 955, 1031, 1085, 1161, 1269, 1377, 1401, 1477, 1551, 1659, 1767, 1821, 1855, 1909, 1953, 1986, 2019, 2053], 147) by decide +kernel) (by omega) (by omega) (by rw [hc16]; rfl) (by decide) ?_
      refine go_aload_n (show decode code 1064 = .ok (.aload_n 1, 1) by decide +kernel) (by rfl) ?_
      refine go_aload_n (show decode code 1065 = .ok (.aload_n 0, 1) by decide +kernel) (by rfl) ?_
      refine go_iload_n (show decode code 1066 = .ok (.iload_n 3, 1) by decide +kernel) (by rfl) ?_
      refine go_iconst (show decode code 1067 = .ok (.iconst 1, 1) by decide +kernel) (by decide) ?_
      obtain ⟨q566, h⟩ := h
      refine go_iadd (show decode code 1068 = .ok (.iadd, 1) by decide +kernel) q566 ?_
      obtain ⟨q567, h⟩ := h
      obtain ⟨q568, h⟩ := h
      refine go_scrld (show decode code 1069 = .ok (.iaload, 1) by decide +kernel) rfl q567 q568 ?_
      refine go_aload_n (show decode code 1070 = .ok (.aload_n 0, 1) by decide +kernel) (by rfl) ?_
      refine go_iload_n (show decode code 1071 = .ok (.iload_n 3, 1) by decide +kernel) (by rfl) ?_
      refine go_iconst (show decode code 1072 = .ok (.iconst 2, 1) by decide +kernel) (by decide) ?_
      obtain ⟨q569, h⟩ := h
      refine go_iadd (show decode code 1073 = .ok (.iadd, 1) by decide +kernel) q569 ?_
      obtain ⟨q570, h⟩ := h
      obtain ⟨q571, h⟩ := h
      refine go_scrld (show decode code 1074 = .ok (.iaload, 1) by decide +kernel) rfl q570 q571 ?_
      refine go_aload_n (show decode code 1075 = .ok (.aload_n 0, 1) by decide +kernel) (by rfl) ?_
      refine go_iload_n (show decode code 1076 = .ok (.iload_n 3, 1) by decide +kernel) (by rfl) ?_
      refine go_iconst (show decode code 1077 = .ok (.iconst 3, 1) by decide +kernel) (by decide) ?_
      obtain ⟨q572, h⟩ := h
      refine go_iadd (show decode code 1078 = .ok (.iadd, 1) by decide +kernel) q572 ?_
      obtain ⟨q573, h⟩ := h
      obtain ⟨q574, h⟩ := h
      refine go_scrld (show decode code 1079 = .ok (.iaload, 1) by decide +kernel) rfl q573 q574 ?_
      refine go_aload_n (show decode code 1080 = .ok (.aload_n 0, 1) by decide +kernel) (by rfl) ?_
      refine go_iload_n (show decode code 1081 = .ok (.iload_n 3, 1) by decide +kernel) (by rfl) ?_
      refine go_iconst (show decode code 1082 = .ok (.iconst 4, 1) by decide +kernel) (by decide) ?_
      obtain ⟨q575, h⟩ := h
      refine go_iadd (show decode code 1083 = .ok (.iadd, 1) by decide +kernel) q575 ?_
      obtain ⟨q576, h⟩ := h
      obtain ⟨q577, h⟩ := h
      refine go_scrld (show decode code 1084 = .ok (.iaload, 1) by decide +kernel) rfl q576 q577 ?_
      obtain ⟨q578, h⟩ := h
      obtain ⟨q583, h⟩ := h
      refine go_callV (d2 := d - 1) (M2 := MX9_empty) (n := 4) (ci := 9) (av := [vI (sx S (a3 + 1)), vI (sx S (a3 + 2)), vI (sx S (a3 + 3)), vI (sx S (a3 + 4))]) (st := []) (show decode code 1085 = .ok (.invokevirtual 89, 3) by decide +kernel) ml_L_89 mt_X9_empty min_X9_empty mse_X9_empty (by decide) q583 rfl (Nat.le_of_ble_eq_true rfl) (by omega) (ok_mono h (fun w579 S580 F581 G582 h => ?_))
      obtain ⟨z584, e9, h⟩ := h
      subst e9
      show Go d Mlaw 1088 [some (vR a0), some (vR a1), some (vR a2), some (vI a3)] [vJ z584] S580 F581 G582 Q
      refine go_aload_n (show decode code 1088 = .ok (.aload_n 2, 1) by decide +kernel) (by rfl) ?_
      refine go_aload_n (show decode code 1089 = .ok (.aload_n 0, 1) by decide +kernel) (by rfl) ?_
      refine go_iload_n (show decode code 1090 = .ok (.iload_n 3, 1) by decide +kernel) (by rfl) ?_
      refine go_iconst (show decode code 1091 = .ok (.iconst 1, 1) by decide +kernel) (by decide) ?_
      obtain ⟨q585, h⟩ := h
      refine go_iadd (show decode code 1092 = .ok (.iadd, 1) by decide +kernel) q585 ?_
      obtain ⟨q586, h⟩ := h
      obtain ⟨q587, h⟩ := h
      refine go_scrld (show decode code 1093 = .ok (.iaload, 1) by decide +kernel) rfl q586 q587 ?_
      refine go_aload_n (show decode code 1094 = .ok (.aload_n 0, 1) by decide +kernel) (by rfl) ?_
      refine go_iload_n (show decode code 1095 = .ok (.iload_n 3, 1) by decide +kernel) (by rfl) ?_
      refine go_iconst (show decode code 1096 = .ok (.iconst 2, 1) by decide +kernel) (by decide) ?_
      obtain ⟨q588, h⟩ := h
      refine go_iadd (show decode code 1097 = .ok (.iadd, 1) by decide +kernel) q588 ?_
      obtain ⟨q589, h⟩ := h
      obtain ⟨q590, h⟩ := h
      refine go_scrld (show decode code 1098 = .ok (.iaload, 1) by decide +kernel) rfl q589 q590 ?_
      refine go_aload_n (show decode code 1099 = .ok (.aload_n 0, 1) by decide +kernel) (by rfl) ?_
      refine go_iload_n (show decode code 1100 = .ok (.iload_n 3, 1) by decide +kernel) (by rfl) ?_
      refine go_iconst (show decode code 1101 = .ok (.iconst 3, 1) by decide +kernel) (by decide) ?_
      obtain ⟨q591, h⟩ := h
      refine go_iadd (show decode code 1102 = .ok (.iadd, 1) by decide +kernel) q591 ?_
      obtain ⟨q592, h⟩ := h
      obtain ⟨q593, h⟩ := h
      refine go_scrld (show decode code 1103 = .ok (.iaload, 1) by decide +kernel) rfl q592 q593 ?_
      refine go_aload_n (show decode code 1104 = .ok (.aload_n 0, 1) by decide +kernel) (by rfl) ?_
      refine go_iload_n (show decode code 1105 = .ok (.iload_n 3, 1) by decide +kernel) (by rfl) ?_
      refine go_iconst (show decode code 1106 = .ok (.iconst 4, 1) by decide +kernel) (by decide) ?_
      obtain ⟨q594, h⟩ := h
      refine go_iadd (show decode code 1107 = .ok (.iadd, 1) by decide +kernel) q594 ?_
      obtain ⟨q595, h⟩ := h
      obtain ⟨q596, h⟩ := h
      refine go_scrld (show decode code 1108 = .ok (.iaload, 1) by decide +kernel) rfl q595 q596 ?_
      obtain ⟨q601, h⟩ := h
      refine go_callV (d2 := d - 1) (M2 := MX10_empty) (n := 4) (ci := 10) (av := [vI (sx S580 (a3 + 1)), vI (sx S580 (a3 + 2)), vI (sx S580 (a3 + 3)), vI (sx S580 (a3 + 4))]) (st := [vJ z584]) (show decode code 1109 = .ok (.invokevirtual 93, 3) by decide +kernel) ml_L_93 mt_X10_empty min_X10_empty mse_X10_empty (by decide) q601 rfl (Nat.le_of_ble_eq_true rfl) (by omega) (ok_mono h (fun w597 S598 F599 G600 h => ?_))
      obtain ⟨z602, e9, h⟩ := h
      subst e9
      show Go d Mlaw 1112 [some (vR a0), some (vR a1), some (vR a2), some (vI a3)] [vJ z602, vJ z584] S598 F599 G600 Q
      obtain ⟨ht, hf⟩ := h
      refine go_jeq (tgt := 2110) (show decode code 1112 = .ok (.lcmp, 1) by decide +kernel) (show decode code 1113 = .ok (.ifCond .eq 997, 3) by decide +kernel) (by decide) (fun hc => ?_) (fun hc => ?_)
      · have h := ht hc
        exact R_law_2110 h
      · have h := hf hc
        refine go_iconst (show decode code 1116 = .ok (.iconst 0, 1) by decide +kernel) (by decide) ?_
        exact go_zret (show decode code 1117 = .ok (.ireturn, 1) by decide +kernel) rfl (by decide) h
    by_cases hc17 : bAnd (sx S a3) 63 = 17
    · have h := h_17 hc17
      refine go_swIn (tgt := 1118) (show decode code 33 = .ok (.tableswitch 2077 0 32 #[147, 221, 297, 405, 493, 557, 665, 699, 712, 725, 738, 801, 824, 847, 911, 955, 1031, 1085, 1161, 1269, 1377, 1401, 1477, 1551, 1659, 1767, 1821, 1855, 1909, 1953, 1986, 2019, 2053], 147) by decide +kernel) (by omega) (by omega) (by rw [hc17]; rfl) (by decide) ?_
      refine go_aload_n (show decode code 1118 = .ok (.aload_n 1, 1) by decide +kernel) (by rfl) ?_
      refine go_aload_n (show decode code 1119 = .ok (.aload_n 0, 1) by decide +kernel) (by rfl) ?_
      refine go_iload_n (show decode code 1120 = .ok (.iload_n 3, 1) by decide +kernel) (by rfl) ?_
      refine go_iconst (show decode code 1121 = .ok (.iconst 1, 1) by decide +kernel) (by decide) ?_
      obtain ⟨q603, h⟩ := h
      refine go_iadd (show decode code 1122 = .ok (.iadd, 1) by decide +kernel) q603 ?_
      obtain ⟨q604, h⟩ := h
      obtain ⟨q605, h⟩ := h
      refine go_scrld (show decode code 1123 = .ok (.iaload, 1) by decide +kernel) rfl q604 q605 ?_
      refine go_aload_n (show decode code 1124 = .ok (.aload_n 0, 1) by decide +kernel) (by rfl) ?_
      refine go_iload_n (show decode code 1125 = .ok (.iload_n 3, 1) by decide +kernel) (by rfl) ?_
      refine go_iconst (show decode code 1126 = .ok (.iconst 2, 1) by decide +kernel) (by decide) ?_
      obtain ⟨q606, h⟩ := h
      refine go_iadd (show decode code 1127 = .ok (.iadd, 1) by decide +kernel) q606 ?_
      obtain ⟨q607, h⟩ := h
      obtain ⟨q608, h⟩ := h
      refine go_scrld (show decode code 1128 = .ok (.iaload, 1) by decide +kernel) rfl q607 q608 ?_
      refine go_aload_n (show decode code 1129 = .ok (.aload_n 0, 1) by decide +kernel) (by rfl) ?_
      refine go_iload_n (show decode code 1130 = .ok (.iload_n 3, 1) by decide +kernel) (by rfl) ?_
      refine go_iconst (show decode code 1131 = .ok (.iconst 3, 1) by decide +kernel) (by decide) ?_
      obtain ⟨q609, h⟩ := h
      refine go_iadd (show decode code 1132 = .ok (.iadd, 1) by decide +kernel) q609 ?_
      obtain ⟨q610, h⟩ := h
      obtain ⟨q611, h⟩ := h
      refine go_scrld (show decode code 1133 = .ok (.iaload, 1) by decide +kernel) rfl q610 q611 ?_
      refine go_aload_n (show decode code 1134 = .ok (.aload_n 0, 1) by decide +kernel) (by rfl) ?_
      refine go_iload_n (show decode code 1135 = .ok (.iload_n 3, 1) by decide +kernel) (by rfl) ?_
      refine go_iconst (show decode code 1136 = .ok (.iconst 4, 1) by decide +kernel) (by decide) ?_
      obtain ⟨q612, h⟩ := h
      refine go_iadd (show decode code 1137 = .ok (.iadd, 1) by decide +kernel) q612 ?_
      obtain ⟨q613, h⟩ := h
      obtain ⟨q614, h⟩ := h
      refine go_scrld (show decode code 1138 = .ok (.iaload, 1) by decide +kernel) rfl q613 q614 ?_
      refine go_aload_n (show decode code 1139 = .ok (.aload_n 0, 1) by decide +kernel) (by rfl) ?_
      refine go_iload_n (show decode code 1140 = .ok (.iload_n 3, 1) by decide +kernel) (by rfl) ?_
      refine go_iconst (show decode code 1141 = .ok (.iconst 5, 1) by decide +kernel) (by decide) ?_
      obtain ⟨q615, h⟩ := h
      refine go_iadd (show decode code 1142 = .ok (.iadd, 1) by decide +kernel) q615 ?_
      obtain ⟨q616, h⟩ := h
      obtain ⟨q617, h⟩ := h
      refine go_scrld (show decode code 1143 = .ok (.iaload, 1) by decide +kernel) rfl q616 q617 ?_
      refine go_aload_n (show decode code 1144 = .ok (.aload_n 0, 1) by decide +kernel) (by rfl) ?_
      refine go_iload_n (show decode code 1145 = .ok (.iload_n 3, 1) by decide +kernel) (by rfl) ?_
      refine go_bipush (show decode code 1146 = .ok (.bipush 6, 2) by decide +kernel) (by decide) ?_
      obtain ⟨q618, h⟩ := h
      refine go_iadd (show decode code 1148 = .ok (.iadd, 1) by decide +kernel) q618 ?_
      obtain ⟨q619, h⟩ := h
      obtain ⟨q620, h⟩ := h
      refine go_scrld (show decode code 1149 = .ok (.iaload, 1) by decide +kernel) rfl q619 q620 ?_
      obtain ⟨q621, h⟩ := h
      obtain ⟨q626, h⟩ := h
      refine go_callV (d2 := d - 1) (M2 := MX9_share) (n := 6) (ci := 9) (av := [vI (sx S (a3 + 1)), vI (sx S (a3 + 2)), vI (sx S (a3 + 3)), vI (sx S (a3 + 4)), vI (sx S (a3 + 5)), vI (sx S (a3 + 6))]) (st := []) (show decode code 1150 = .ok (.invokevirtual 94, 3) by decide +kernel) ml_L_94 mt_X9_share min_X9_share mse_X9_share (by decide) q626 rfl (Nat.le_of_ble_eq_true rfl) (by omega) (ok_mono h (fun w622 S623 F624 G625 h => ?_))
      obtain ⟨z627, e9, h⟩ := h
      subst e9
      show Go d Mlaw 1153 [some (vR a0), some (vR a1), some (vR a2), some (vI a3)] [vJ z627] S623 F624 G625 Q
      refine go_aload_n (show decode code 1153 = .ok (.aload_n 2, 1) by decide +kernel) (by rfl) ?_
      refine go_aload_n (show decode code 1154 = .ok (.aload_n 0, 1) by decide +kernel) (by rfl) ?_
      refine go_iload_n (show decode code 1155 = .ok (.iload_n 3, 1) by decide +kernel) (by rfl) ?_
      refine go_iconst (show decode code 1156 = .ok (.iconst 1, 1) by decide +kernel) (by decide) ?_
      obtain ⟨q628, h⟩ := h
      refine go_iadd (show decode code 1157 = .ok (.iadd, 1) by decide +kernel) q628 ?_
      obtain ⟨q629, h⟩ := h
      obtain ⟨q630, h⟩ := h
      refine go_scrld (show decode code 1158 = .ok (.iaload, 1) by decide +kernel) rfl q629 q630 ?_
      refine go_aload_n (show decode code 1159 = .ok (.aload_n 0, 1) by decide +kernel) (by rfl) ?_
      refine go_iload_n (show decode code 1160 = .ok (.iload_n 3, 1) by decide +kernel) (by rfl) ?_
      refine go_iconst (show decode code 1161 = .ok (.iconst 2, 1) by decide +kernel) (by decide) ?_
      obtain ⟨q631, h⟩ := h
      refine go_iadd (show decode code 1162 = .ok (.iadd, 1) by decide +kernel) q631 ?_
      obtain ⟨q632, h⟩ := h
      obtain ⟨q633, h⟩ := h
      refine go_scrld (show decode code 1163 = .ok (.iaload, 1) by decide +kernel) rfl q632 q633 ?_
      refine go_aload_n (show decode code 1164 = .ok (.aload_n 0, 1) by decide +kernel) (by rfl) ?_
      refine go_iload_n (show decode code 1165 = .ok (.iload_n 3, 1) by decide +kernel) (by rfl) ?_
      refine go_iconst (show decode code 1166 = .ok (.iconst 3, 1) by decide +kernel) (by decide) ?_
      obtain ⟨q634, h⟩ := h
      refine go_iadd (show decode code 1167 = .ok (.iadd, 1) by decide +kernel) q634 ?_
      obtain ⟨q635, h⟩ := h
      obtain ⟨q636, h⟩ := h
      refine go_scrld (show decode code 1168 = .ok (.iaload, 1) by decide +kernel) rfl q635 q636 ?_
      refine go_aload_n (show decode code 1169 = .ok (.aload_n 0, 1) by decide +kernel) (by rfl) ?_
      refine go_iload_n (show decode code 1170 = .ok (.iload_n 3, 1) by decide +kernel) (by rfl) ?_
      refine go_iconst (show decode code 1171 = .ok (.iconst 4, 1) by decide +kernel) (by decide) ?_
      obtain ⟨q637, h⟩ := h
      refine go_iadd (show decode code 1172 = .ok (.iadd, 1) by decide +kernel) q637 ?_
      obtain ⟨q638, h⟩ := h
      obtain ⟨q639, h⟩ := h
      refine go_scrld (show decode code 1173 = .ok (.iaload, 1) by decide +kernel) rfl q638 q639 ?_
      refine go_aload_n (show decode code 1174 = .ok (.aload_n 0, 1) by decide +kernel) (by rfl) ?_
      refine go_iload_n (show decode code 1175 = .ok (.iload_n 3, 1) by decide +kernel) (by rfl) ?_
      refine go_iconst (show decode code 1176 = .ok (.iconst 5, 1) by decide +kernel) (by decide) ?_
      obtain ⟨q640, h⟩ := h
      refine go_iadd (show decode code 1177 = .ok (.iadd, 1) by decide +kernel) q640 ?_
      obtain ⟨q641, h⟩ := h
      obtain ⟨q642, h⟩ := h
      refine go_scrld (show decode code 1178 = .ok (.iaload, 1) by decide +kernel) rfl q641 q642 ?_
      refine go_aload_n (show decode code 1179 = .ok (.aload_n 0, 1) by decide +kernel) (by rfl) ?_
      refine go_iload_n (show decode code 1180 = .ok (.iload_n 3, 1) by decide +kernel) (by rfl) ?_
      refine go_bipush (show decode code 1181 = .ok (.bipush 6, 2) by decide +kernel) (by decide) ?_
      obtain ⟨q643, h⟩ := h
      refine go_iadd (show decode code 1183 = .ok (.iadd, 1) by decide +kernel) q643 ?_
      obtain ⟨q644, h⟩ := h
      obtain ⟨q645, h⟩ := h
      refine go_scrld (show decode code 1184 = .ok (.iaload, 1) by decide +kernel) rfl q644 q645 ?_
      obtain ⟨q650, h⟩ := h
      refine go_callV (d2 := d - 1) (M2 := MX10_share) (n := 6) (ci := 10) (av := [vI (sx S623 (a3 + 1)), vI (sx S623 (a3 + 2)), vI (sx S623 (a3 + 3)), vI (sx S623 (a3 + 4)), vI (sx S623 (a3 + 5)), vI (sx S623 (a3 + 6))]) (st := [vJ z627]) (show decode code 1185 = .ok (.invokevirtual 97, 3) by decide +kernel) ml_L_97 mt_X10_share min_X10_share mse_X10_share (by decide) q650 rfl (Nat.le_of_ble_eq_true rfl) (by omega) (ok_mono h (fun w646 S647 F648 G649 h => ?_))
      obtain ⟨z651, e9, h⟩ := h
      subst e9
      show Go d Mlaw 1188 [some (vR a0), some (vR a1), some (vR a2), some (vI a3)] [vJ z651, vJ z627] S647 F648 G649 Q
      obtain ⟨ht, hf⟩ := h
      refine go_jeq (tgt := 2110) (show decode code 1188 = .ok (.lcmp, 1) by decide +kernel) (show decode code 1189 = .ok (.ifCond .eq 921, 3) by decide +kernel) (by decide) (fun hc => ?_) (fun hc => ?_)
      · have h := ht hc
        exact R_law_2110 h
      · have h := hf hc
        refine go_iconst (show decode code 1192 = .ok (.iconst 0, 1) by decide +kernel) (by decide) ?_
        exact go_zret (show decode code 1193 = .ok (.ireturn, 1) by decide +kernel) rfl (by decide) h
    by_cases hc18 : bAnd (sx S a3) 63 = 18
    · have h := h_18 hc18
      refine go_swIn (tgt := 1194) (show decode code 33 = .ok (.tableswitch 2077 0 32 #[147, 221, 297, 405, 493, 557, 665, 699, 712, 725, 738, 801, 824, 847, 911, 955, 1031, 1085, 1161, 1269, 1377, 1401, 1477, 1551, 1659, 1767, 1821, 1855, 1909, 1953, 1986, 2019, 2053], 147) by decide +kernel) (by omega) (by omega) (by rw [hc18]; rfl) (by decide) ?_
      refine go_aload_n (show decode code 1194 = .ok (.aload_n 1, 1) by decide +kernel) (by rfl) ?_
      refine go_aload_n (show decode code 1195 = .ok (.aload_n 0, 1) by decide +kernel) (by rfl) ?_
      refine go_iload_n (show decode code 1196 = .ok (.iload_n 3, 1) by decide +kernel) (by rfl) ?_
      refine go_iconst (show decode code 1197 = .ok (.iconst 1, 1) by decide +kernel) (by decide) ?_
      obtain ⟨q652, h⟩ := h
      refine go_iadd (show decode code 1198 = .ok (.iadd, 1) by decide +kernel) q652 ?_
      obtain ⟨q653, h⟩ := h
      obtain ⟨q654, h⟩ := h
      refine go_scrld (show decode code 1199 = .ok (.iaload, 1) by decide +kernel) rfl q653 q654 ?_
      refine go_aload_n (show decode code 1200 = .ok (.aload_n 0, 1) by decide +kernel) (by rfl) ?_
      refine go_iload_n (show decode code 1201 = .ok (.iload_n 3, 1) by decide +kernel) (by rfl) ?_
      refine go_iconst (show decode code 1202 = .ok (.iconst 2, 1) by decide +kernel) (by decide) ?_
      obtain ⟨q655, h⟩ := h
      refine go_iadd (show decode code 1203 = .ok (.iadd, 1) by decide +kernel) q655 ?_
      obtain ⟨q656, h⟩ := h
      obtain ⟨q657, h⟩ := h
      refine go_scrld (show decode code 1204 = .ok (.iaload, 1) by decide +kernel) rfl q656 q657 ?_
      refine go_aload_n (show decode code 1205 = .ok (.aload_n 0, 1) by decide +kernel) (by rfl) ?_
      refine go_iload_n (show decode code 1206 = .ok (.iload_n 3, 1) by decide +kernel) (by rfl) ?_
      refine go_iconst (show decode code 1207 = .ok (.iconst 3, 1) by decide +kernel) (by decide) ?_
      obtain ⟨q658, h⟩ := h
      refine go_iadd (show decode code 1208 = .ok (.iadd, 1) by decide +kernel) q658 ?_
      obtain ⟨q659, h⟩ := h
      obtain ⟨q660, h⟩ := h
      refine go_scrld (show decode code 1209 = .ok (.iaload, 1) by decide +kernel) rfl q659 q660 ?_
      refine go_aload_n (show decode code 1210 = .ok (.aload_n 0, 1) by decide +kernel) (by rfl) ?_
      refine go_iload_n (show decode code 1211 = .ok (.iload_n 3, 1) by decide +kernel) (by rfl) ?_
      refine go_iconst (show decode code 1212 = .ok (.iconst 4, 1) by decide +kernel) (by decide) ?_
      obtain ⟨q661, h⟩ := h
      refine go_iadd (show decode code 1213 = .ok (.iadd, 1) by decide +kernel) q661 ?_
      obtain ⟨q662, h⟩ := h
      obtain ⟨q663, h⟩ := h
      refine go_scrld (show decode code 1214 = .ok (.iaload, 1) by decide +kernel) rfl q662 q663 ?_
      refine go_aload_n (show decode code 1215 = .ok (.aload_n 0, 1) by decide +kernel) (by rfl) ?_
      refine go_iload_n (show decode code 1216 = .ok (.iload_n 3, 1) by decide +kernel) (by rfl) ?_
      refine go_iconst (show decode code 1217 = .ok (.iconst 5, 1) by decide +kernel) (by decide) ?_
      obtain ⟨q664, h⟩ := h
      refine go_iadd (show decode code 1218 = .ok (.iadd, 1) by decide +kernel) q664 ?_
      obtain ⟨q665, h⟩ := h
      obtain ⟨q666, h⟩ := h
      refine go_scrld (show decode code 1219 = .ok (.iaload, 1) by decide +kernel) rfl q665 q666 ?_
      refine go_aload_n (show decode code 1220 = .ok (.aload_n 0, 1) by decide +kernel) (by rfl) ?_
      refine go_iload_n (show decode code 1221 = .ok (.iload_n 3, 1) by decide +kernel) (by rfl) ?_
      refine go_bipush (show decode code 1222 = .ok (.bipush 6, 2) by decide +kernel) (by decide) ?_
      obtain ⟨q667, h⟩ := h
      refine go_iadd (show decode code 1224 = .ok (.iadd, 1) by decide +kernel) q667 ?_
      obtain ⟨q668, h⟩ := h
      obtain ⟨q669, h⟩ := h
      refine go_scrld (show decode code 1225 = .ok (.iaload, 1) by decide +kernel) rfl q668 q669 ?_
      refine go_i2l (show decode code 1226 = .ok (.i2l, 1) by decide +kernel) ?_
      refine go_bipush (show decode code 1227 = .ok (.bipush 32, 2) by decide +kernel) (by decide) ?_
      refine go_lshl (show decode code 1229 = .ok (.lshl, 1) by decide +kernel) ?_
      refine go_aload_n (show decode code 1230 = .ok (.aload_n 0, 1) by decide +kernel) (by rfl) ?_
      refine go_iload_n (show decode code 1231 = .ok (.iload_n 3, 1) by decide +kernel) (by rfl) ?_
      refine go_bipush (show decode code 1232 = .ok (.bipush 7, 2) by decide +kernel) (by decide) ?_
      obtain ⟨q670, h⟩ := h
      refine go_iadd (show decode code 1234 = .ok (.iadd, 1) by decide +kernel) q670 ?_
      obtain ⟨q671, h⟩ := h
      obtain ⟨q672, h⟩ := h
      refine go_scrld (show decode code 1235 = .ok (.iaload, 1) by decide +kernel) rfl q671 q672 ?_
      refine go_i2l (show decode code 1236 = .ok (.i2l, 1) by decide +kernel) ?_
      refine go_ldc2 (show decode code 1237 = .ok (.ldc2_w 13, 3) by decide +kernel) lc_L_13 (by decide) ?_
      refine go_land (show decode code 1240 = .ok (.land, 1) by decide +kernel) ?_
      refine go_lor (show decode code 1241 = .ok (.lor, 1) by decide +kernel) ?_
      obtain ⟨q673, h⟩ := h
      obtain ⟨q678, h⟩ := h
      refine go_callV (d2 := d - 1) (M2 := MX9_atLeast) (n := 6) (ci := 9) (av := [vI (sx S (a3 + 1)), vI (sx S (a3 + 2)), vI (sx S (a3 + 3)), vI (sx S (a3 + 4)), vI (sx S (a3 + 5)), vJ (jOr (jShl (sx S (a3 + 6)) 32) (jAnd (sx S (a3 + 7)) 4294967295))]) (st := []) (show decode code 1242 = .ok (.invokevirtual 98, 3) by decide +kernel) ml_L_98 mt_X9_atLeast min_X9_atLeast mse_X9_atLeast (by decide) q678 rfl (Nat.le_of_ble_eq_true rfl) (by omega) (ok_mono h (fun w674 S675 F676 G677 h => ?_))
      obtain ⟨z679, e9, h⟩ := h
      subst e9
      show Go d Mlaw 1245 [some (vR a0), some (vR a1), some (vR a2), some (vI a3)] [vJ z679] S675 F676 G677 Q
      refine go_aload_n (show decode code 1245 = .ok (.aload_n 2, 1) by decide +kernel) (by rfl) ?_
      refine go_aload_n (show decode code 1246 = .ok (.aload_n 0, 1) by decide +kernel) (by rfl) ?_
      refine go_iload_n (show decode code 1247 = .ok (.iload_n 3, 1) by decide +kernel) (by rfl) ?_
      refine go_iconst (show decode code 1248 = .ok (.iconst 1, 1) by decide +kernel) (by decide) ?_
      obtain ⟨q680, h⟩ := h
      refine go_iadd (show decode code 1249 = .ok (.iadd, 1) by decide +kernel) q680 ?_
      obtain ⟨q681, h⟩ := h
      obtain ⟨q682, h⟩ := h
      refine go_scrld (show decode code 1250 = .ok (.iaload, 1) by decide +kernel) rfl q681 q682 ?_
      refine go_aload_n (show decode code 1251 = .ok (.aload_n 0, 1) by decide +kernel) (by rfl) ?_
      refine go_iload_n (show decode code 1252 = .ok (.iload_n 3, 1) by decide +kernel) (by rfl) ?_
      refine go_iconst (show decode code 1253 = .ok (.iconst 2, 1) by decide +kernel) (by decide) ?_
      obtain ⟨q683, h⟩ := h
      refine go_iadd (show decode code 1254 = .ok (.iadd, 1) by decide +kernel) q683 ?_
      obtain ⟨q684, h⟩ := h
      obtain ⟨q685, h⟩ := h
      refine go_scrld (show decode code 1255 = .ok (.iaload, 1) by decide +kernel) rfl q684 q685 ?_
      refine go_aload_n (show decode code 1256 = .ok (.aload_n 0, 1) by decide +kernel) (by rfl) ?_
      refine go_iload_n (show decode code 1257 = .ok (.iload_n 3, 1) by decide +kernel) (by rfl) ?_
      refine go_iconst (show decode code 1258 = .ok (.iconst 3, 1) by decide +kernel) (by decide) ?_
      obtain ⟨q686, h⟩ := h
      refine go_iadd (show decode code 1259 = .ok (.iadd, 1) by decide +kernel) q686 ?_
      obtain ⟨q687, h⟩ := h
      obtain ⟨q688, h⟩ := h
      refine go_scrld (show decode code 1260 = .ok (.iaload, 1) by decide +kernel) rfl q687 q688 ?_
      refine go_aload_n (show decode code 1261 = .ok (.aload_n 0, 1) by decide +kernel) (by rfl) ?_
      refine go_iload_n (show decode code 1262 = .ok (.iload_n 3, 1) by decide +kernel) (by rfl) ?_
      refine go_iconst (show decode code 1263 = .ok (.iconst 4, 1) by decide +kernel) (by decide) ?_
      obtain ⟨q689, h⟩ := h
      refine go_iadd (show decode code 1264 = .ok (.iadd, 1) by decide +kernel) q689 ?_
      obtain ⟨q690, h⟩ := h
      obtain ⟨q691, h⟩ := h
      refine go_scrld (show decode code 1265 = .ok (.iaload, 1) by decide +kernel) rfl q690 q691 ?_
      refine go_aload_n (show decode code 1266 = .ok (.aload_n 0, 1) by decide +kernel) (by rfl) ?_
      refine go_iload_n (show decode code 1267 = .ok (.iload_n 3, 1) by decide +kernel) (by rfl) ?_
      refine go_iconst (show decode code 1268 = .ok (.iconst 5, 1) by decide +kernel) (by decide) ?_
      obtain ⟨q692, h⟩ := h
      refine go_iadd (show decode code 1269 = .ok (.iadd, 1) by decide +kernel) q692 ?_
      obtain ⟨q693, h⟩ := h
      obtain ⟨q694, h⟩ := h
      refine go_scrld (show decode code 1270 = .ok (.iaload, 1) by decide +kernel) rfl q693 q694 ?_
      refine go_aload_n (show decode code 1271 = .ok (.aload_n 0, 1) by decide +kernel) (by rfl) ?_
      refine go_iload_n (show decode code 1272 = .ok (.iload_n 3, 1) by decide +kernel) (by rfl) ?_
      refine go_bipush (show decode code 1273 = .ok (.bipush 6, 2) by decide +kernel) (by decide) ?_
      obtain ⟨q695, h⟩ := h
      refine go_iadd (show decode code 1275 = .ok (.iadd, 1) by decide +kernel) q695 ?_
      obtain ⟨q696, h⟩ := h
      obtain ⟨q697, h⟩ := h
      refine go_scrld (show decode code 1276 = .ok (.iaload, 1) by decide +kernel) rfl q696 q697 ?_
      refine go_i2l (show decode code 1277 = .ok (.i2l, 1) by decide +kernel) ?_
      refine go_bipush (show decode code 1278 = .ok (.bipush 32, 2) by decide +kernel) (by decide) ?_
      refine go_lshl (show decode code 1280 = .ok (.lshl, 1) by decide +kernel) ?_
      refine go_aload_n (show decode code 1281 = .ok (.aload_n 0, 1) by decide +kernel) (by rfl) ?_
      refine go_iload_n (show decode code 1282 = .ok (.iload_n 3, 1) by decide +kernel) (by rfl) ?_
      refine go_bipush (show decode code 1283 = .ok (.bipush 7, 2) by decide +kernel) (by decide) ?_
      obtain ⟨q698, h⟩ := h
      refine go_iadd (show decode code 1285 = .ok (.iadd, 1) by decide +kernel) q698 ?_
      obtain ⟨q699, h⟩ := h
      obtain ⟨q700, h⟩ := h
      refine go_scrld (show decode code 1286 = .ok (.iaload, 1) by decide +kernel) rfl q699 q700 ?_
      refine go_i2l (show decode code 1287 = .ok (.i2l, 1) by decide +kernel) ?_
      refine go_ldc2 (show decode code 1288 = .ok (.ldc2_w 13, 3) by decide +kernel) lc_L_13 (by decide) ?_
      refine go_land (show decode code 1291 = .ok (.land, 1) by decide +kernel) ?_
      refine go_lor (show decode code 1292 = .ok (.lor, 1) by decide +kernel) ?_
      obtain ⟨q705, h⟩ := h
      refine go_callV (d2 := d - 1) (M2 := MX10_atLeast) (n := 6) (ci := 10) (av := [vI (sx S675 (a3 + 1)), vI (sx S675 (a3 + 2)), vI (sx S675 (a3 + 3)), vI (sx S675 (a3 + 4)), vI (sx S675 (a3 + 5)), vJ (jOr (jShl (sx S675 (a3 + 6)) 32) (jAnd (sx S675 (a3 + 7)) 4294967295))]) (st := [vJ z679]) (show decode code 1293 = .ok (.invokevirtual 101, 3) by decide +kernel) ml_L_101 mt_X10_atLeast min_X10_atLeast mse_X10_atLeast (by decide) q705 rfl (Nat.le_of_ble_eq_true rfl) (by omega) (ok_mono h (fun w701 S702 F703 G704 h => ?_))
      obtain ⟨z706, e9, h⟩ := h
      subst e9
      show Go d Mlaw 1296 [some (vR a0), some (vR a1), some (vR a2), some (vI a3)] [vJ z706, vJ z679] S702 F703 G704 Q
      obtain ⟨ht, hf⟩ := h
      refine go_jeq (tgt := 2110) (show decode code 1296 = .ok (.lcmp, 1) by decide +kernel) (show decode code 1297 = .ok (.ifCond .eq 813, 3) by decide +kernel) (by decide) (fun hc => ?_) (fun hc => ?_)
      · have h := ht hc
        exact R_law_2110 h
      · have h := hf hc
        refine go_iconst (show decode code 1300 = .ok (.iconst 0, 1) by decide +kernel) (by decide) ?_
        exact go_zret (show decode code 1301 = .ok (.ireturn, 1) by decide +kernel) rfl (by decide) h
    by_cases hc19 : bAnd (sx S a3) 63 = 19
    · have h := h_19 hc19
      refine go_swIn (tgt := 1302) (show decode code 33 = .ok (.tableswitch 2077 0 32 #[147, 221, 297, 405, 493, 557, 665, 699, 712, 725, 738, 801, 824, 847, 911, 955, 1031, 1085, 1161, 1269, 1377, 1401, 1477, 1551, 1659, 1767, 1821, 1855, 1909, 1953, 1986, 2019, 2053], 147) by decide +kernel) (by omega) (by omega) (by rw [hc19]; rfl) (by decide) ?_
      refine go_aload_n (show decode code 1302 = .ok (.aload_n 1, 1) by decide +kernel) (by rfl) ?_
      refine go_aload_n (show decode code 1303 = .ok (.aload_n 0, 1) by decide +kernel) (by rfl) ?_
      refine go_iload_n (show decode code 1304 = .ok (.iload_n 3, 1) by decide +kernel) (by rfl) ?_
      refine go_iconst (show decode code 1305 = .ok (.iconst 1, 1) by decide +kernel) (by decide) ?_
      obtain ⟨q707, h⟩ := h
      refine go_iadd (show decode code 1306 = .ok (.iadd, 1) by decide +kernel) q707 ?_
      obtain ⟨q708, h⟩ := h
      obtain ⟨q709, h⟩ := h
      refine go_scrld (show decode code 1307 = .ok (.iaload, 1) by decide +kernel) rfl q708 q709 ?_
      refine go_aload_n (show decode code 1308 = .ok (.aload_n 0, 1) by decide +kernel) (by rfl) ?_
      refine go_iload_n (show decode code 1309 = .ok (.iload_n 3, 1) by decide +kernel) (by rfl) ?_
      refine go_iconst (show decode code 1310 = .ok (.iconst 2, 1) by decide +kernel) (by decide) ?_
      obtain ⟨q710, h⟩ := h
      refine go_iadd (show decode code 1311 = .ok (.iadd, 1) by decide +kernel) q710 ?_
      obtain ⟨q711, h⟩ := h
      obtain ⟨q712, h⟩ := h
      refine go_scrld (show decode code 1312 = .ok (.iaload, 1) by decide +kernel) rfl q711 q712 ?_
      refine go_aload_n (show decode code 1313 = .ok (.aload_n 0, 1) by decide +kernel) (by rfl) ?_
      refine go_iload_n (show decode code 1314 = .ok (.iload_n 3, 1) by decide +kernel) (by rfl) ?_
      refine go_iconst (show decode code 1315 = .ok (.iconst 3, 1) by decide +kernel) (by decide) ?_
      obtain ⟨q713, h⟩ := h
      refine go_iadd (show decode code 1316 = .ok (.iadd, 1) by decide +kernel) q713 ?_
      obtain ⟨q714, h⟩ := h
      obtain ⟨q715, h⟩ := h
      refine go_scrld (show decode code 1317 = .ok (.iaload, 1) by decide +kernel) rfl q714 q715 ?_
      refine go_aload_n (show decode code 1318 = .ok (.aload_n 0, 1) by decide +kernel) (by rfl) ?_
      refine go_iload_n (show decode code 1319 = .ok (.iload_n 3, 1) by decide +kernel) (by rfl) ?_
      refine go_iconst (show decode code 1320 = .ok (.iconst 4, 1) by decide +kernel) (by decide) ?_
      obtain ⟨q716, h⟩ := h
      refine go_iadd (show decode code 1321 = .ok (.iadd, 1) by decide +kernel) q716 ?_
      obtain ⟨q717, h⟩ := h
      obtain ⟨q718, h⟩ := h
      refine go_scrld (show decode code 1322 = .ok (.iaload, 1) by decide +kernel) rfl q717 q718 ?_
      refine go_aload_n (show decode code 1323 = .ok (.aload_n 0, 1) by decide +kernel) (by rfl) ?_
      refine go_iload_n (show decode code 1324 = .ok (.iload_n 3, 1) by decide +kernel) (by rfl) ?_
      refine go_iconst (show decode code 1325 = .ok (.iconst 5, 1) by decide +kernel) (by decide) ?_
      obtain ⟨q719, h⟩ := h
      refine go_iadd (show decode code 1326 = .ok (.iadd, 1) by decide +kernel) q719 ?_
      obtain ⟨q720, h⟩ := h
      obtain ⟨q721, h⟩ := h
      refine go_scrld (show decode code 1327 = .ok (.iaload, 1) by decide +kernel) rfl q720 q721 ?_
      refine go_aload_n (show decode code 1328 = .ok (.aload_n 0, 1) by decide +kernel) (by rfl) ?_
      refine go_iload_n (show decode code 1329 = .ok (.iload_n 3, 1) by decide +kernel) (by rfl) ?_
      refine go_bipush (show decode code 1330 = .ok (.bipush 6, 2) by decide +kernel) (by decide) ?_
      obtain ⟨q722, h⟩ := h
      refine go_iadd (show decode code 1332 = .ok (.iadd, 1) by decide +kernel) q722 ?_
      obtain ⟨q723, h⟩ := h
      obtain ⟨q724, h⟩ := h
      refine go_scrld (show decode code 1333 = .ok (.iaload, 1) by decide +kernel) rfl q723 q724 ?_
      refine go_i2l (show decode code 1334 = .ok (.i2l, 1) by decide +kernel) ?_
      refine go_bipush (show decode code 1335 = .ok (.bipush 32, 2) by decide +kernel) (by decide) ?_
      refine go_lshl (show decode code 1337 = .ok (.lshl, 1) by decide +kernel) ?_
      refine go_aload_n (show decode code 1338 = .ok (.aload_n 0, 1) by decide +kernel) (by rfl) ?_
      refine go_iload_n (show decode code 1339 = .ok (.iload_n 3, 1) by decide +kernel) (by rfl) ?_
      refine go_bipush (show decode code 1340 = .ok (.bipush 7, 2) by decide +kernel) (by decide) ?_
      obtain ⟨q725, h⟩ := h
      refine go_iadd (show decode code 1342 = .ok (.iadd, 1) by decide +kernel) q725 ?_
      obtain ⟨q726, h⟩ := h
      obtain ⟨q727, h⟩ := h
      refine go_scrld (show decode code 1343 = .ok (.iaload, 1) by decide +kernel) rfl q726 q727 ?_
      refine go_i2l (show decode code 1344 = .ok (.i2l, 1) by decide +kernel) ?_
      refine go_ldc2 (show decode code 1345 = .ok (.ldc2_w 13, 3) by decide +kernel) lc_L_13 (by decide) ?_
      refine go_land (show decode code 1348 = .ok (.land, 1) by decide +kernel) ?_
      refine go_lor (show decode code 1349 = .ok (.lor, 1) by decide +kernel) ?_
      obtain ⟨q728, h⟩ := h
      obtain ⟨q733, h⟩ := h
      refine go_callV (d2 := d - 1) (M2 := MX9_value) (n := 6) (ci := 9) (av := [vI (sx S (a3 + 1)), vI (sx S (a3 + 2)), vI (sx S (a3 + 3)), vI (sx S (a3 + 4)), vI (sx S (a3 + 5)), vJ (jOr (jShl (sx S (a3 + 6)) 32) (jAnd (sx S (a3 + 7)) 4294967295))]) (st := []) (show decode code 1350 = .ok (.invokevirtual 102, 3) by decide +kernel) ml_L_102 mt_X9_value min_X9_value mse_X9_value (by decide) q733 rfl (Nat.le_of_ble_eq_true rfl) (by omega) (ok_mono h (fun w729 S730 F731 G732 h => ?_))
      obtain ⟨z734, e9, h⟩ := h
      subst e9
      show Go d Mlaw 1353 [some (vR a0), some (vR a1), some (vR a2), some (vI a3)] [vJ z734] S730 F731 G732 Q
      refine go_aload_n (show decode code 1353 = .ok (.aload_n 2, 1) by decide +kernel) (by rfl) ?_
      refine go_aload_n (show decode code 1354 = .ok (.aload_n 0, 1) by decide +kernel) (by rfl) ?_
      refine go_iload_n (show decode code 1355 = .ok (.iload_n 3, 1) by decide +kernel) (by rfl) ?_
      refine go_iconst (show decode code 1356 = .ok (.iconst 1, 1) by decide +kernel) (by decide) ?_
      obtain ⟨q735, h⟩ := h
      refine go_iadd (show decode code 1357 = .ok (.iadd, 1) by decide +kernel) q735 ?_
      obtain ⟨q736, h⟩ := h
      obtain ⟨q737, h⟩ := h
      refine go_scrld (show decode code 1358 = .ok (.iaload, 1) by decide +kernel) rfl q736 q737 ?_
      refine go_aload_n (show decode code 1359 = .ok (.aload_n 0, 1) by decide +kernel) (by rfl) ?_
      refine go_iload_n (show decode code 1360 = .ok (.iload_n 3, 1) by decide +kernel) (by rfl) ?_
      refine go_iconst (show decode code 1361 = .ok (.iconst 2, 1) by decide +kernel) (by decide) ?_
      obtain ⟨q738, h⟩ := h
      refine go_iadd (show decode code 1362 = .ok (.iadd, 1) by decide +kernel) q738 ?_
      obtain ⟨q739, h⟩ := h
      obtain ⟨q740, h⟩ := h
      refine go_scrld (show decode code 1363 = .ok (.iaload, 1) by decide +kernel) rfl q739 q740 ?_
      refine go_aload_n (show decode code 1364 = .ok (.aload_n 0, 1) by decide +kernel) (by rfl) ?_
      refine go_iload_n (show decode code 1365 = .ok (.iload_n 3, 1) by decide +kernel) (by rfl) ?_
      refine go_iconst (show decode code 1366 = .ok (.iconst 3, 1) by decide +kernel) (by decide) ?_
      obtain ⟨q741, h⟩ := h
      refine go_iadd (show decode code 1367 = .ok (.iadd, 1) by decide +kernel) q741 ?_
      obtain ⟨q742, h⟩ := h
      obtain ⟨q743, h⟩ := h
      refine go_scrld (show decode code 1368 = .ok (.iaload, 1) by decide +kernel) rfl q742 q743 ?_
      refine go_aload_n (show decode code 1369 = .ok (.aload_n 0, 1) by decide +kernel) (by rfl) ?_
      refine go_iload_n (show decode code 1370 = .ok (.iload_n 3, 1) by decide +kernel) (by rfl) ?_
      refine go_iconst (show decode code 1371 = .ok (.iconst 4, 1) by decide +kernel) (by decide) ?_
      obtain ⟨q744, h⟩ := h
      refine go_iadd (show decode code 1372 = .ok (.iadd, 1) by decide +kernel) q744 ?_
      obtain ⟨q745, h⟩ := h
      obtain ⟨q746, h⟩ := h
      refine go_scrld (show decode code 1373 = .ok (.iaload, 1) by decide +kernel) rfl q745 q746 ?_
      refine go_aload_n (show decode code 1374 = .ok (.aload_n 0, 1) by decide +kernel) (by rfl) ?_
      refine go_iload_n (show decode code 1375 = .ok (.iload_n 3, 1) by decide +kernel) (by rfl) ?_
      refine go_iconst (show decode code 1376 = .ok (.iconst 5, 1) by decide +kernel) (by decide) ?_
      obtain ⟨q747, h⟩ := h
      refine go_iadd (show decode code 1377 = .ok (.iadd, 1) by decide +kernel) q747 ?_
      obtain ⟨q748, h⟩ := h
      obtain ⟨q749, h⟩ := h
      refine go_scrld (show decode code 1378 = .ok (.iaload, 1) by decide +kernel) rfl q748 q749 ?_
      refine go_aload_n (show decode code 1379 = .ok (.aload_n 0, 1) by decide +kernel) (by rfl) ?_
      refine go_iload_n (show decode code 1380 = .ok (.iload_n 3, 1) by decide +kernel) (by rfl) ?_
      refine go_bipush (show decode code 1381 = .ok (.bipush 6, 2) by decide +kernel) (by decide) ?_
      obtain ⟨q750, h⟩ := h
      refine go_iadd (show decode code 1383 = .ok (.iadd, 1) by decide +kernel) q750 ?_
      obtain ⟨q751, h⟩ := h
      obtain ⟨q752, h⟩ := h
      refine go_scrld (show decode code 1384 = .ok (.iaload, 1) by decide +kernel) rfl q751 q752 ?_
      refine go_i2l (show decode code 1385 = .ok (.i2l, 1) by decide +kernel) ?_
      refine go_bipush (show decode code 1386 = .ok (.bipush 32, 2) by decide +kernel) (by decide) ?_
      refine go_lshl (show decode code 1388 = .ok (.lshl, 1) by decide +kernel) ?_
      refine go_aload_n (show decode code 1389 = .ok (.aload_n 0, 1) by decide +kernel) (by rfl) ?_
      refine go_iload_n (show decode code 1390 = .ok (.iload_n 3, 1) by decide +kernel) (by rfl) ?_
      refine go_bipush (show decode code 1391 = .ok (.bipush 7, 2) by decide +kernel) (by decide) ?_
      obtain ⟨q753, h⟩ := h
      refine go_iadd (show decode code 1393 = .ok (.iadd, 1) by decide +kernel) q753 ?_
      obtain ⟨q754, h⟩ := h
      obtain ⟨q755, h⟩ := h
      refine go_scrld (show decode code 1394 = .ok (.iaload, 1) by decide +kernel) rfl q754 q755 ?_
      refine go_i2l (show decode code 1395 = .ok (.i2l, 1) by decide +kernel) ?_
      refine go_ldc2 (show decode code 1396 = .ok (.ldc2_w 13, 3) by decide +kernel) lc_L_13 (by decide) ?_
      refine go_land (show decode code 1399 = .ok (.land, 1) by decide +kernel) ?_
      refine go_lor (show decode code 1400 = .ok (.lor, 1) by decide +kernel) ?_
      obtain ⟨q760, h⟩ := h
      refine go_callV (d2 := d - 1) (M2 := MX10_value) (n := 6) (ci := 10) (av := [vI (sx S730 (a3 + 1)), vI (sx S730 (a3 + 2)), vI (sx S730 (a3 + 3)), vI (sx S730 (a3 + 4)), vI (sx S730 (a3 + 5)), vJ (jOr (jShl (sx S730 (a3 + 6)) 32) (jAnd (sx S730 (a3 + 7)) 4294967295))]) (st := [vJ z734]) (show decode code 1401 = .ok (.invokevirtual 105, 3) by decide +kernel) ml_L_105 mt_X10_value min_X10_value mse_X10_value (by decide) q760 rfl (Nat.le_of_ble_eq_true rfl) (by omega) (ok_mono h (fun w756 S757 F758 G759 h => ?_))
      obtain ⟨z761, e9, h⟩ := h
      subst e9
      show Go d Mlaw 1404 [some (vR a0), some (vR a1), some (vR a2), some (vI a3)] [vJ z761, vJ z734] S757 F758 G759 Q
      obtain ⟨ht, hf⟩ := h
      refine go_jeq (tgt := 2110) (show decode code 1404 = .ok (.lcmp, 1) by decide +kernel) (show decode code 1405 = .ok (.ifCond .eq 705, 3) by decide +kernel) (by decide) (fun hc => ?_) (fun hc => ?_)
      · have h := ht hc
        exact R_law_2110 h
      · have h := hf hc
        refine go_iconst (show decode code 1408 = .ok (.iconst 0, 1) by decide +kernel) (by decide) ?_
        exact go_zret (show decode code 1409 = .ok (.ireturn, 1) by decide +kernel) rfl (by decide) h
    by_cases hc20 : bAnd (sx S a3) 63 = 20
    · have h := h_20 hc20
      refine go_swIn (tgt := 1410) (show decode code 33 = .ok (.tableswitch 2077 0 32 #[147, 221, 297, 405, 493, 557, 665, 699, 712, 725, 738, 801, 824, 847, 911, 955, 1031, 1085, 1161, 1269, 1377, 1401, 1477, 1551, 1659, 1767, 1821, 1855, 1909, 1953, 1986, 2019, 2053], 147) by decide +kernel) (by omega) (by omega) (by rw [hc20]; rfl) (by decide) ?_
      refine go_aload_n (show decode code 1410 = .ok (.aload_n 1, 1) by decide +kernel) (by rfl) ?_
      refine go_aload_n (show decode code 1411 = .ok (.aload_n 0, 1) by decide +kernel) (by rfl) ?_
      refine go_iload_n (show decode code 1412 = .ok (.iload_n 3, 1) by decide +kernel) (by rfl) ?_
      refine go_iconst (show decode code 1413 = .ok (.iconst 1, 1) by decide +kernel) (by decide) ?_
      obtain ⟨q762, h⟩ := h
      refine go_iadd (show decode code 1414 = .ok (.iadd, 1) by decide +kernel) q762 ?_
      obtain ⟨q763, h⟩ := h
      obtain ⟨q764, h⟩ := h
      refine go_scrld (show decode code 1415 = .ok (.iaload, 1) by decide +kernel) rfl q763 q764 ?_
      obtain ⟨q765, h⟩ := h
      obtain ⟨q770, h⟩ := h
      refine go_callV (d2 := d - 1) (M2 := MX9_hole) (n := 1) (ci := 9) (av := [vI (sx S (a3 + 1))]) (st := []) (show decode code 1416 = .ok (.invokevirtual 106, 3) by decide +kernel) ml_L_106 mt_X9_hole min_X9_hole mse_X9_hole (by decide) q770 rfl (Nat.le_of_ble_eq_true rfl) (by omega) (ok_mono h (fun w766 S767 F768 G769 h => ?_))
      obtain ⟨z771, e9, h⟩ := h
      subst e9
      show Go d Mlaw 1419 [some (vR a0), some (vR a1), some (vR a2), some (vI a3)] [vJ z771] S767 F768 G769 Q
      refine go_aload_n (show decode code 1419 = .ok (.aload_n 2, 1) by decide +kernel) (by rfl) ?_
      refine go_aload_n (show decode code 1420 = .ok (.aload_n 0, 1) by decide +kernel) (by rfl) ?_
      refine go_iload_n (show decode code 1421 = .ok (.iload_n 3, 1) by decide +kernel) (by rfl) ?_
      refine go_iconst (show decode code 1422 = .ok (.iconst 1, 1) by decide +kernel) (by decide) ?_
      obtain ⟨q772, h⟩ := h
      refine go_iadd (show decode code 1423 = .ok (.iadd, 1) by decide +kernel) q772 ?_
      obtain ⟨q773, h⟩ := h
      obtain ⟨q774, h⟩ := h
      refine go_scrld (show decode code 1424 = .ok (.iaload, 1) by decide +kernel) rfl q773 q774 ?_
      obtain ⟨q779, h⟩ := h
      refine go_callV (d2 := d - 1) (M2 := MX10_hole) (n := 1) (ci := 10) (av := [vI (sx S767 (a3 + 1))]) (st := [vJ z771]) (show decode code 1425 = .ok (.invokevirtual 110, 3) by decide +kernel) ml_L_110 mt_X10_hole min_X10_hole mse_X10_hole (by decide) q779 rfl (Nat.le_of_ble_eq_true rfl) (by omega) (ok_mono h (fun w775 S776 F777 G778 h => ?_))
      obtain ⟨z780, e9, h⟩ := h
      subst e9
      show Go d Mlaw 1428 [some (vR a0), some (vR a1), some (vR a2), some (vI a3)] [vJ z780, vJ z771] S776 F777 G778 Q
      obtain ⟨ht, hf⟩ := h
      refine go_jeq (tgt := 2110) (show decode code 1428 = .ok (.lcmp, 1) by decide +kernel) (show decode code 1429 = .ok (.ifCond .eq 681, 3) by decide +kernel) (by decide) (fun hc => ?_) (fun hc => ?_)
      · have h := ht hc
        exact R_law_2110 h
      · have h := hf hc
        refine go_iconst (show decode code 1432 = .ok (.iconst 0, 1) by decide +kernel) (by decide) ?_
        exact go_zret (show decode code 1433 = .ok (.ireturn, 1) by decide +kernel) rfl (by decide) h
    by_cases hc21 : bAnd (sx S a3) 63 = 21
    · have h := h_21 hc21
      refine go_swIn (tgt := 1434) (show decode code 33 = .ok (.tableswitch 2077 0 32 #[147, 221, 297, 405, 493, 557, 665, 699, 712, 725, 738, 801, 824, 847, 911, 955, 1031, 1085, 1161, 1269, 1377, 1401, 1477, 1551, 1659, 1767, 1821, 1855, 1909, 1953, 1986, 2019, 2053], 147) by decide +kernel) (by omega) (by omega) (by rw [hc21]; rfl) (by decide) ?_
      refine go_aload_n (show decode code 1434 = .ok (.aload_n 1, 1) by decide +kernel) (by rfl) ?_
      refine go_aload_n (show decode code 1435 = .ok (.aload_n 0, 1) by decide +kernel) (by rfl) ?_
      refine go_iload_n (show decode code 1436 = .ok (.iload_n 3, 1) by decide +kernel) (by rfl) ?_
      refine go_iconst (show decode code 1437 = .ok (.iconst 1, 1) by decide +kernel) (by decide) ?_
      obtain ⟨q781, h⟩ := h
      refine go_iadd (show decode code 1438 = .ok (.iadd, 1) by decide +kernel) q781 ?_
      obtain ⟨q782, h⟩ := h
      obtain ⟨q783, h⟩ := h
      refine go_scrld (show decode code 1439 = .ok (.iaload, 1) by decide +kernel) rfl q782 q783 ?_
      refine go_aload_n (show decode code 1440 = .ok (.aload_n 0, 1) by decide +kernel) (by rfl) ?_
      refine go_iload_n (show decode code 1441 = .ok (.iload_n 3, 1) by decide +kernel) (by rfl) ?_
      refine go_iconst (show decode code 1442 = .ok (.iconst 2, 1) by decide +kernel) (by decide) ?_
      obtain ⟨q784, h⟩ := h
      refine go_iadd (show decode code 1443 = .ok (.iadd, 1) by decide +kernel) q784 ?_
      obtain ⟨q785, h⟩ := h
      obtain ⟨q786, h⟩ := h
      refine go_scrld (show decode code 1444 = .ok (.iaload, 1) by decide +kernel) rfl q785 q786 ?_
      refine go_aload_n (show decode code 1445 = .ok (.aload_n 0, 1) by decide +kernel) (by rfl) ?_
      refine go_iload_n (show decode code 1446 = .ok (.iload_n 3, 1) by decide +kernel) (by rfl) ?_
      refine go_iconst (show decode code 1447 = .ok (.iconst 3, 1) by decide +kernel) (by decide) ?_
      obtain ⟨q787, h⟩ := h
      refine go_iadd (show decode code 1448 = .ok (.iadd, 1) by decide +kernel) q787 ?_
      obtain ⟨q788, h⟩ := h
      obtain ⟨q789, h⟩ := h
      refine go_scrld (show decode code 1449 = .ok (.iaload, 1) by decide +kernel) rfl q788 q789 ?_
      refine go_aload_n (show decode code 1450 = .ok (.aload_n 0, 1) by decide +kernel) (by rfl) ?_
      refine go_iload_n (show decode code 1451 = .ok (.iload_n 3, 1) by decide +kernel) (by rfl) ?_
      refine go_iconst (show decode code 1452 = .ok (.iconst 4, 1) by decide +kernel) (by decide) ?_
      obtain ⟨q790, h⟩ := h
      refine go_iadd (show decode code 1453 = .ok (.iadd, 1) by decide +kernel) q790 ?_
      obtain ⟨q791, h⟩ := h
      obtain ⟨q792, h⟩ := h
      refine go_scrld (show decode code 1454 = .ok (.iaload, 1) by decide +kernel) rfl q791 q792 ?_
      refine go_aload_n (show decode code 1455 = .ok (.aload_n 0, 1) by decide +kernel) (by rfl) ?_
      refine go_iload_n (show decode code 1456 = .ok (.iload_n 3, 1) by decide +kernel) (by rfl) ?_
      refine go_iconst (show decode code 1457 = .ok (.iconst 5, 1) by decide +kernel) (by decide) ?_
      obtain ⟨q793, h⟩ := h
      refine go_iadd (show decode code 1458 = .ok (.iadd, 1) by decide +kernel) q793 ?_
      obtain ⟨q794, h⟩ := h
      obtain ⟨q795, h⟩ := h
      refine go_scrld (show decode code 1459 = .ok (.iaload, 1) by decide +kernel) rfl q794 q795 ?_
      refine go_aload_n (show decode code 1460 = .ok (.aload_n 0, 1) by decide +kernel) (by rfl) ?_
      refine go_iload_n (show decode code 1461 = .ok (.iload_n 3, 1) by decide +kernel) (by rfl) ?_
      refine go_bipush (show decode code 1462 = .ok (.bipush 6, 2) by decide +kernel) (by decide) ?_
      obtain ⟨q796, h⟩ := h
      refine go_iadd (show decode code 1464 = .ok (.iadd, 1) by decide +kernel) q796 ?_
      obtain ⟨q797, h⟩ := h
      obtain ⟨q798, h⟩ := h
      refine go_scrld (show decode code 1465 = .ok (.iaload, 1) by decide +kernel) rfl q797 q798 ?_
      obtain ⟨q799, h⟩ := h
      obtain ⟨q804, h⟩ := h
      refine go_callV (d2 := d - 1) (M2 := MX9_before) (n := 6) (ci := 9) (av := [vI (sx S (a3 + 1)), vI (sx S (a3 + 2)), vI (sx S (a3 + 3)), vI (sx S (a3 + 4)), vI (sx S (a3 + 5)), vI (sx S (a3 + 6))]) (st := []) (show decode code 1466 = .ok (.invokevirtual 111, 3) by decide +kernel) ml_L_111 mt_X9_before min_X9_before mse_X9_before (by decide) q804 rfl (Nat.le_of_ble_eq_true rfl) (by omega) (ok_mono h (fun w800 S801 F802 G803 h => ?_))
      obtain ⟨z805, e9, h⟩ := h
      subst e9
      show Go d Mlaw 1469 [some (vR a0), some (vR a1), some (vR a2), some (vI a3)] [vJ z805] S801 F802 G803 Q
      refine go_aload_n (show decode code 1469 = .ok (.aload_n 2, 1) by decide +kernel) (by rfl) ?_
      refine go_aload_n (show decode code 1470 = .ok (.aload_n 0, 1) by decide +kernel) (by rfl) ?_
      refine go_iload_n (show decode code 1471 = .ok (.iload_n 3, 1) by decide +kernel) (by rfl) ?_
      refine go_iconst (show decode code 1472 = .ok (.iconst 1, 1) by decide +kernel) (by decide) ?_
      obtain ⟨q806, h⟩ := h
      refine go_iadd (show decode code 1473 = .ok (.iadd, 1) by decide +kernel) q806 ?_
      obtain ⟨q807, h⟩ := h
      obtain ⟨q808, h⟩ := h
      refine go_scrld (show decode code 1474 = .ok (.iaload, 1) by decide +kernel) rfl q807 q808 ?_
      refine go_aload_n (show decode code 1475 = .ok (.aload_n 0, 1) by decide +kernel) (by rfl) ?_
      refine go_iload_n (show decode code 1476 = .ok (.iload_n 3, 1) by decide +kernel) (by rfl) ?_
      refine go_iconst (show decode code 1477 = .ok (.iconst 2, 1) by decide +kernel) (by decide) ?_
      obtain ⟨q809, h⟩ := h
      refine go_iadd (show decode code 1478 = .ok (.iadd, 1) by decide +kernel) q809 ?_
      obtain ⟨q810, h⟩ := h
      obtain ⟨q811, h⟩ := h
      refine go_scrld (show decode code 1479 = .ok (.iaload, 1) by decide +kernel) rfl q810 q811 ?_
      refine go_aload_n (show decode code 1480 = .ok (.aload_n 0, 1) by decide +kernel) (by rfl) ?_
      refine go_iload_n (show decode code 1481 = .ok (.iload_n 3, 1) by decide +kernel) (by rfl) ?_
      refine go_iconst (show decode code 1482 = .ok (.iconst 3, 1) by decide +kernel) (by decide) ?_
      obtain ⟨q812, h⟩ := h
      refine go_iadd (show decode code 1483 = .ok (.iadd, 1) by decide +kernel) q812 ?_
      obtain ⟨q813, h⟩ := h
      obtain ⟨q814, h⟩ := h
      refine go_scrld (show decode code 1484 = .ok (.iaload, 1) by decide +kernel) rfl q813 q814 ?_
      refine go_aload_n (show decode code 1485 = .ok (.aload_n 0, 1) by decide +kernel) (by rfl) ?_
      refine go_iload_n (show decode code 1486 = .ok (.iload_n 3, 1) by decide +kernel) (by rfl) ?_
      refine go_iconst (show decode code 1487 = .ok (.iconst 4, 1) by decide +kernel) (by decide) ?_
      obtain ⟨q815, h⟩ := h
      refine go_iadd (show decode code 1488 = .ok (.iadd, 1) by decide +kernel) q815 ?_
      obtain ⟨q816, h⟩ := h
      obtain ⟨q817, h⟩ := h
      refine go_scrld (show decode code 1489 = .ok (.iaload, 1) by decide +kernel) rfl q816 q817 ?_
      refine go_aload_n (show decode code 1490 = .ok (.aload_n 0, 1) by decide +kernel) (by rfl) ?_
      refine go_iload_n (show decode code 1491 = .ok (.iload_n 3, 1) by decide +kernel) (by rfl) ?_
      refine go_iconst (show decode code 1492 = .ok (.iconst 5, 1) by decide +kernel) (by decide) ?_
      obtain ⟨q818, h⟩ := h
      refine go_iadd (show decode code 1493 = .ok (.iadd, 1) by decide +kernel) q818 ?_
      obtain ⟨q819, h⟩ := h
      obtain ⟨q820, h⟩ := h
      refine go_scrld (show decode code 1494 = .ok (.iaload, 1) by decide +kernel) rfl q819 q820 ?_
      refine go_aload_n (show decode code 1495 = .ok (.aload_n 0, 1) by decide +kernel) (by rfl) ?_
      refine go_iload_n (show decode code 1496 = .ok (.iload_n 3, 1) by decide +kernel) (by rfl) ?_
      refine go_bipush (show decode code 1497 = .ok (.bipush 6, 2) by decide +kernel) (by decide) ?_
      obtain ⟨q821, h⟩ := h
      refine go_iadd (show decode code 1499 = .ok (.iadd, 1) by decide +kernel) q821 ?_
      obtain ⟨q822, h⟩ := h
      obtain ⟨q823, h⟩ := h
      refine go_scrld (show decode code 1500 = .ok (.iaload, 1) by decide +kernel) rfl q822 q823 ?_
      obtain ⟨q828, h⟩ := h
      refine go_callV (d2 := d - 1) (M2 := MX10_before) (n := 6) (ci := 10) (av := [vI (sx S801 (a3 + 1)), vI (sx S801 (a3 + 2)), vI (sx S801 (a3 + 3)), vI (sx S801 (a3 + 4)), vI (sx S801 (a3 + 5)), vI (sx S801 (a3 + 6))]) (st := [vJ z805]) (show decode code 1501 = .ok (.invokevirtual 114, 3) by decide +kernel) ml_L_114 mt_X10_before min_X10_before mse_X10_before (by decide) q828 rfl (Nat.le_of_ble_eq_true rfl) (by omega) (ok_mono h (fun w824 S825 F826 G827 h => ?_))
      obtain ⟨z829, e9, h⟩ := h
      subst e9
      show Go d Mlaw 1504 [some (vR a0), some (vR a1), some (vR a2), some (vI a3)] [vJ z829, vJ z805] S825 F826 G827 Q
      obtain ⟨ht, hf⟩ := h
      refine go_jeq (tgt := 2110) (show decode code 1504 = .ok (.lcmp, 1) by decide +kernel) (show decode code 1505 = .ok (.ifCond .eq 605, 3) by decide +kernel) (by decide) (fun hc => ?_) (fun hc => ?_)
      · have h := ht hc
        exact R_law_2110 h
      · have h := hf hc
        refine go_iconst (show decode code 1508 = .ok (.iconst 0, 1) by decide +kernel) (by decide) ?_
        exact go_zret (show decode code 1509 = .ok (.ireturn, 1) by decide +kernel) rfl (by decide) h
    by_cases hc22 : bAnd (sx S a3) 63 = 22
    · have h := h_22 hc22
      refine go_swIn (tgt := 1510) (show decode code 33 = .ok (.tableswitch 2077 0 32 #[147, 221, 297, 405, 493, 557, 665, 699, 712, 725, 738, 801, 824, 847, 911, 955, 1031, 1085, 1161, 1269, 1377, 1401, 1477, 1551, 1659, 1767, 1821, 1855, 1909, 1953, 1986, 2019, 2053], 147) by decide +kernel) (by omega) (by omega) (by rw [hc22]; rfl) (by decide) ?_
      refine go_aload_n (show decode code 1510 = .ok (.aload_n 1, 1) by decide +kernel) (by rfl) ?_
      refine go_aload_n (show decode code 1511 = .ok (.aload_n 0, 1) by decide +kernel) (by rfl) ?_
      refine go_iload_n (show decode code 1512 = .ok (.iload_n 3, 1) by decide +kernel) (by rfl) ?_
      refine go_iconst (show decode code 1513 = .ok (.iconst 1, 1) by decide +kernel) (by decide) ?_
      obtain ⟨q830, h⟩ := h
      refine go_iadd (show decode code 1514 = .ok (.iadd, 1) by decide +kernel) q830 ?_
      obtain ⟨q831, h⟩ := h
      obtain ⟨q832, h⟩ := h
      refine go_scrld (show decode code 1515 = .ok (.iaload, 1) by decide +kernel) rfl q831 q832 ?_
      refine go_aload_n (show decode code 1516 = .ok (.aload_n 0, 1) by decide +kernel) (by rfl) ?_
      refine go_iload_n (show decode code 1517 = .ok (.iload_n 3, 1) by decide +kernel) (by rfl) ?_
      refine go_iconst (show decode code 1518 = .ok (.iconst 2, 1) by decide +kernel) (by decide) ?_
      obtain ⟨q833, h⟩ := h
      refine go_iadd (show decode code 1519 = .ok (.iadd, 1) by decide +kernel) q833 ?_
      obtain ⟨q834, h⟩ := h
      obtain ⟨q835, h⟩ := h
      refine go_scrld (show decode code 1520 = .ok (.iaload, 1) by decide +kernel) rfl q834 q835 ?_
      refine go_aload_n (show decode code 1521 = .ok (.aload_n 0, 1) by decide +kernel) (by rfl) ?_
      refine go_iload_n (show decode code 1522 = .ok (.iload_n 3, 1) by decide +kernel) (by rfl) ?_
      refine go_iconst (show decode code 1523 = .ok (.iconst 3, 1) by decide +kernel) (by decide) ?_
      obtain ⟨q836, h⟩ := h
      refine go_iadd (show decode code 1524 = .ok (.iadd, 1) by decide +kernel) q836 ?_
      obtain ⟨q837, h⟩ := h
      obtain ⟨q838, h⟩ := h
      refine go_scrld (show decode code 1525 = .ok (.iaload, 1) by decide +kernel) rfl q837 q838 ?_
      refine go_i2l (show decode code 1526 = .ok (.i2l, 1) by decide +kernel) ?_
      refine go_bipush (show decode code 1527 = .ok (.bipush 32, 2) by decide +kernel) (by decide) ?_
      refine go_lshl (show decode code 1529 = .ok (.lshl, 1) by decide +kernel) ?_
      refine go_aload_n (show decode code 1530 = .ok (.aload_n 0, 1) by decide +kernel) (by rfl) ?_
      refine go_iload_n (show decode code 1531 = .ok (.iload_n 3, 1) by decide +kernel) (by rfl) ?_
      refine go_iconst (show decode code 1532 = .ok (.iconst 4, 1) by decide +kernel) (by decide) ?_
      obtain ⟨q839, h⟩ := h
      refine go_iadd (show decode code 1533 = .ok (.iadd, 1) by decide +kernel) q839 ?_
      obtain ⟨q840, h⟩ := h
      obtain ⟨q841, h⟩ := h
      refine go_scrld (show decode code 1534 = .ok (.iaload, 1) by decide +kernel) rfl q840 q841 ?_
      refine go_i2l (show decode code 1535 = .ok (.i2l, 1) by decide +kernel) ?_
      refine go_ldc2 (show decode code 1536 = .ok (.ldc2_w 13, 3) by decide +kernel) lc_L_13 (by decide) ?_
      refine go_land (show decode code 1539 = .ok (.land, 1) by decide +kernel) ?_
      refine go_lor (show decode code 1540 = .ok (.lor, 1) by decide +kernel) ?_
      obtain ⟨q842, h⟩ := h
      obtain ⟨q847, h⟩ := h
      refine go_callV (d2 := d - 1) (M2 := MX9_find) (n := 3) (ci := 9) (av := [vI (sx S (a3 + 1)), vI (sx S (a3 + 2)), vJ (jOr (jShl (sx S (a3 + 3)) 32) (jAnd (sx S (a3 + 4)) 4294967295))]) (st := []) (show decode code 1541 = .ok (.invokevirtual 115, 3) by decide +kernel) ml_L_115 mt_X9_find min_X9_find mse_X9_find (by decide) q847 rfl (Nat.le_of_ble_eq_true rfl) (by omega) (ok_mono h (fun w843 S844 F845 G846 h => ?_))
      obtain ⟨z848, e9, h⟩ := h
      subst e9
      show Go d Mlaw 1544 [some (vR a0), some (vR a1), some (vR a2), some (vI a3)] [vJ z848] S844 F845 G846 Q
      refine go_aload_n (show decode code 1544 = .ok (.aload_n 2, 1) by decide +kernel) (by rfl) ?_
      refine go_aload_n (show decode code 1545 = .ok (.aload_n 0, 1) by decide +kernel) (by rfl) ?_
      refine go_iload_n (show decode code 1546 = .ok (.iload_n 3, 1) by decide +kernel) (by rfl) ?_
      refine go_iconst (show decode code 1547 = .ok (.iconst 1, 1) by decide +kernel) (by decide) ?_
      obtain ⟨q849, h⟩ := h
      refine go_iadd (show decode code 1548 = .ok (.iadd, 1) by decide +kernel) q849 ?_
      obtain ⟨q850, h⟩ := h
      obtain ⟨q851, h⟩ := h
      refine go_scrld (show decode code 1549 = .ok (.iaload, 1) by decide +kernel) rfl q850 q851 ?_
      refine go_aload_n (show decode code 1550 = .ok (.aload_n 0, 1) by decide +kernel) (by rfl) ?_
      refine go_iload_n (show decode code 1551 = .ok (.iload_n 3, 1) by decide +kernel) (by rfl) ?_
      refine go_iconst (show decode code 1552 = .ok (.iconst 2, 1) by decide +kernel) (by decide) ?_
      obtain ⟨q852, h⟩ := h
      refine go_iadd (show decode code 1553 = .ok (.iadd, 1) by decide +kernel) q852 ?_
      obtain ⟨q853, h⟩ := h
      obtain ⟨q854, h⟩ := h
      refine go_scrld (show decode code 1554 = .ok (.iaload, 1) by decide +kernel) rfl q853 q854 ?_
      refine go_aload_n (show decode code 1555 = .ok (.aload_n 0, 1) by decide +kernel) (by rfl) ?_
      refine go_iload_n (show decode code 1556 = .ok (.iload_n 3, 1) by decide +kernel) (by rfl) ?_
      refine go_iconst (show decode code 1557 = .ok (.iconst 3, 1) by decide +kernel) (by decide) ?_
      obtain ⟨q855, h⟩ := h
      refine go_iadd (show decode code 1558 = .ok (.iadd, 1) by decide +kernel) q855 ?_
      obtain ⟨q856, h⟩ := h
      obtain ⟨q857, h⟩ := h
      refine go_scrld (show decode code 1559 = .ok (.iaload, 1) by decide +kernel) rfl q856 q857 ?_
      refine go_i2l (show decode code 1560 = .ok (.i2l, 1) by decide +kernel) ?_
      refine go_bipush (show decode code 1561 = .ok (.bipush 32, 2) by decide +kernel) (by decide) ?_
      refine go_lshl (show decode code 1563 = .ok (.lshl, 1) by decide +kernel) ?_
      refine go_aload_n (show decode code 1564 = .ok (.aload_n 0, 1) by decide +kernel) (by rfl) ?_
      refine go_iload_n (show decode code 1565 = .ok (.iload_n 3, 1) by decide +kernel) (by rfl) ?_
      refine go_iconst (show decode code 1566 = .ok (.iconst 4, 1) by decide +kernel) (by decide) ?_
      obtain ⟨q858, h⟩ := h
      refine go_iadd (show decode code 1567 = .ok (.iadd, 1) by decide +kernel) q858 ?_
      obtain ⟨q859, h⟩ := h
      obtain ⟨q860, h⟩ := h
      refine go_scrld (show decode code 1568 = .ok (.iaload, 1) by decide +kernel) rfl q859 q860 ?_
      refine go_i2l (show decode code 1569 = .ok (.i2l, 1) by decide +kernel) ?_
      refine go_ldc2 (show decode code 1570 = .ok (.ldc2_w 13, 3) by decide +kernel) lc_L_13 (by decide) ?_
      refine go_land (show decode code 1573 = .ok (.land, 1) by decide +kernel) ?_
      refine go_lor (show decode code 1574 = .ok (.lor, 1) by decide +kernel) ?_
      obtain ⟨q865, h⟩ := h
      refine go_callV (d2 := d - 1) (M2 := MX10_find) (n := 3) (ci := 10) (av := [vI (sx S844 (a3 + 1)), vI (sx S844 (a3 + 2)), vJ (jOr (jShl (sx S844 (a3 + 3)) 32) (jAnd (sx S844 (a3 + 4)) 4294967295))]) (st := [vJ z848]) (show decode code 1575 = .ok (.invokevirtual 118, 3) by decide +kernel) ml_L_118 mt_X10_find min_X10_find mse_X10_find (by decide) q865 rfl (Nat.le_of_ble_eq_true rfl) (by omega) (ok_mono h (fun w861 S862 F863 G864 h => ?_))
      obtain ⟨z866, e9, h⟩ := h
      subst e9
      show Go d Mlaw 1578 [some (vR a0), some (vR a1), some (vR a2), some (vI a3)] [vJ z866, vJ z848] S862 F863 G864 Q
      obtain ⟨ht, hf⟩ := h
      refine go_jeq (tgt := 2110) (show decode code 1578 = .ok (.lcmp, 1) by decide +kernel) (show decode code 1579 = .ok (.ifCond .eq 531, 3) by decide +kernel) (by decide) (fun hc => ?_) (fun hc => ?_)
      · have h := ht hc
        exact R_law_2110 h
      · have h := hf hc
        refine go_iconst (show decode code 1582 = .ok (.iconst 0, 1) by decide +kernel) (by decide) ?_
        exact go_zret (show decode code 1583 = .ok (.ireturn, 1) by decide +kernel) rfl (by decide) h
    by_cases hc23 : bAnd (sx S a3) 63 = 23
    · have h := h_23 hc23
      refine go_swIn (tgt := 1584) (show decode code 33 = .ok (.tableswitch 2077 0 32 #[147, 221, 297, 405, 493, 557, 665, 699, 712, 725, 738, 801, 824, 847, 911, 955, 1031, 1085, 1161, 1269, 1377, 1401, 1477, 1551, 1659, 1767, 1821, 1855, 1909, 1953, 1986, 2019, 2053], 147) by decide +kernel) (by omega) (by omega) (by rw [hc23]; rfl) (by decide) ?_
      refine go_aload_n (show decode code 1584 = .ok (.aload_n 1, 1) by decide +kernel) (by rfl) ?_
      refine go_aload_n (show decode code 1585 = .ok (.aload_n 0, 1) by decide +kernel) (by rfl) ?_
      refine go_iload_n (show decode code 1586 = .ok (.iload_n 3, 1) by decide +kernel) (by rfl) ?_
      refine go_iconst (show decode code 1587 = .ok (.iconst 1, 1) by decide +kernel) (by decide) ?_
      obtain ⟨q867, h⟩ := h
      refine go_iadd (show decode code 1588 = .ok (.iadd, 1) by decide +kernel) q867 ?_
      obtain ⟨q868, h⟩ := h
      obtain ⟨q869, h⟩ := h
      refine go_scrld (show decode code 1589 = .ok (.iaload, 1) by decide +kernel) rfl q868 q869 ?_
      refine go_aload_n (show decode code 1590 = .ok (.aload_n 0, 1) by decide +kernel) (by rfl) ?_
      refine go_iload_n (show decode code 1591 = .ok (.iload_n 3, 1) by decide +kernel) (by rfl) ?_
      refine go_iconst (show decode code 1592 = .ok (.iconst 2, 1) by decide +kernel) (by decide) ?_
      obtain ⟨q870, h⟩ := h
      refine go_iadd (show decode code 1593 = .ok (.iadd, 1) by decide +kernel) q870 ?_
      obtain ⟨q871, h⟩ := h
      obtain ⟨q872, h⟩ := h
      refine go_scrld (show decode code 1594 = .ok (.iaload, 1) by decide +kernel) rfl q871 q872 ?_
      refine go_aload_n (show decode code 1595 = .ok (.aload_n 0, 1) by decide +kernel) (by rfl) ?_
      refine go_iload_n (show decode code 1596 = .ok (.iload_n 3, 1) by decide +kernel) (by rfl) ?_
      refine go_iconst (show decode code 1597 = .ok (.iconst 3, 1) by decide +kernel) (by decide) ?_
      obtain ⟨q873, h⟩ := h
      refine go_iadd (show decode code 1598 = .ok (.iadd, 1) by decide +kernel) q873 ?_
      obtain ⟨q874, h⟩ := h
      obtain ⟨q875, h⟩ := h
      refine go_scrld (show decode code 1599 = .ok (.iaload, 1) by decide +kernel) rfl q874 q875 ?_
      refine go_aload_n (show decode code 1600 = .ok (.aload_n 0, 1) by decide +kernel) (by rfl) ?_
      refine go_iload_n (show decode code 1601 = .ok (.iload_n 3, 1) by decide +kernel) (by rfl) ?_
      refine go_iconst (show decode code 1602 = .ok (.iconst 4, 1) by decide +kernel) (by decide) ?_
      obtain ⟨q876, h⟩ := h
      refine go_iadd (show decode code 1603 = .ok (.iadd, 1) by decide +kernel) q876 ?_
      obtain ⟨q877, h⟩ := h
      obtain ⟨q878, h⟩ := h
      refine go_scrld (show decode code 1604 = .ok (.iaload, 1) by decide +kernel) rfl q877 q878 ?_
      refine go_aload_n (show decode code 1605 = .ok (.aload_n 0, 1) by decide +kernel) (by rfl) ?_
      refine go_iload_n (show decode code 1606 = .ok (.iload_n 3, 1) by decide +kernel) (by rfl) ?_
      refine go_iconst (show decode code 1607 = .ok (.iconst 5, 1) by decide +kernel) (by decide) ?_
      obtain ⟨q879, h⟩ := h
      refine go_iadd (show decode code 1608 = .ok (.iadd, 1) by decide +kernel) q879 ?_
      obtain ⟨q880, h⟩ := h
      obtain ⟨q881, h⟩ := h
      refine go_scrld (show decode code 1609 = .ok (.iaload, 1) by decide +kernel) rfl q880 q881 ?_
      refine go_aload_n (show decode code 1610 = .ok (.aload_n 0, 1) by decide +kernel) (by rfl) ?_
      refine go_iload_n (show decode code 1611 = .ok (.iload_n 3, 1) by decide +kernel) (by rfl) ?_
      refine go_bipush (show decode code 1612 = .ok (.bipush 6, 2) by decide +kernel) (by decide) ?_
      obtain ⟨q882, h⟩ := h
      refine go_iadd (show decode code 1614 = .ok (.iadd, 1) by decide +kernel) q882 ?_
      obtain ⟨q883, h⟩ := h
      obtain ⟨q884, h⟩ := h
      refine go_scrld (show decode code 1615 = .ok (.iaload, 1) by decide +kernel) rfl q883 q884 ?_
      refine go_i2l (show decode code 1616 = .ok (.i2l, 1) by decide +kernel) ?_
      refine go_bipush (show decode code 1617 = .ok (.bipush 32, 2) by decide +kernel) (by decide) ?_
      refine go_lshl (show decode code 1619 = .ok (.lshl, 1) by decide +kernel) ?_
      refine go_aload_n (show decode code 1620 = .ok (.aload_n 0, 1) by decide +kernel) (by rfl) ?_
      refine go_iload_n (show decode code 1621 = .ok (.iload_n 3, 1) by decide +kernel) (by rfl) ?_
      refine go_bipush (show decode code 1622 = .ok (.bipush 7, 2) by decide +kernel) (by decide) ?_
      obtain ⟨q885, h⟩ := h
      refine go_iadd (show decode code 1624 = .ok (.iadd, 1) by decide +kernel) q885 ?_
      obtain ⟨q886, h⟩ := h
      obtain ⟨q887, h⟩ := h
      refine go_scrld (show decode code 1625 = .ok (.iaload, 1) by decide +kernel) rfl q886 q887 ?_
      refine go_i2l (show decode code 1626 = .ok (.i2l, 1) by decide +kernel) ?_
      refine go_ldc2 (show decode code 1627 = .ok (.ldc2_w 13, 3) by decide +kernel) lc_L_13 (by decide) ?_
      refine go_land (show decode code 1630 = .ok (.land, 1) by decide +kernel) ?_
      refine go_lor (show decode code 1631 = .ok (.lor, 1) by decide +kernel) ?_
      obtain ⟨q888, h⟩ := h
      obtain ⟨q893, h⟩ := h
      refine go_callV (d2 := d - 1) (M2 := MX9_findIn) (n := 6) (ci := 9) (av := [vI (sx S (a3 + 1)), vI (sx S (a3 + 2)), vI (sx S (a3 + 3)), vI (sx S (a3 + 4)), vI (sx S (a3 + 5)), vJ (jOr (jShl (sx S (a3 + 6)) 32) (jAnd (sx S (a3 + 7)) 4294967295))]) (st := []) (show decode code 1632 = .ok (.invokevirtual 119, 3) by decide +kernel) ml_L_119 mt_X9_findIn min_X9_findIn mse_X9_findIn (by decide) q893 rfl (Nat.le_of_ble_eq_true rfl) (by omega) (ok_mono h (fun w889 S890 F891 G892 h => ?_))
      obtain ⟨z894, e9, h⟩ := h
      subst e9
      show Go d Mlaw 1635 [some (vR a0), some (vR a1), some (vR a2), some (vI a3)] [vJ z894] S890 F891 G892 Q
      refine go_aload_n (show decode code 1635 = .ok (.aload_n 2, 1) by decide +kernel) (by rfl) ?_
      refine go_aload_n (show decode code 1636 = .ok (.aload_n 0, 1) by decide +kernel) (by rfl) ?_
      refine go_iload_n (show decode code 1637 = .ok (.iload_n 3, 1) by decide +kernel) (by rfl) ?_
      refine go_iconst (show decode code 1638 = .ok (.iconst 1, 1) by decide +kernel) (by decide) ?_
      obtain ⟨q895, h⟩ := h
      refine go_iadd (show decode code 1639 = .ok (.iadd, 1) by decide +kernel) q895 ?_
      obtain ⟨q896, h⟩ := h
      obtain ⟨q897, h⟩ := h
      refine go_scrld (show decode code 1640 = .ok (.iaload, 1) by decide +kernel) rfl q896 q897 ?_
      refine go_aload_n (show decode code 1641 = .ok (.aload_n 0, 1) by decide +kernel) (by rfl) ?_
      refine go_iload_n (show decode code 1642 = .ok (.iload_n 3, 1) by decide +kernel) (by rfl) ?_
      refine go_iconst (show decode code 1643 = .ok (.iconst 2, 1) by decide +kernel) (by decide) ?_
      obtain ⟨q898, h⟩ := h
      refine go_iadd (show decode code 1644 = .ok (.iadd, 1) by decide +kernel) q898 ?_
      obtain ⟨q899, h⟩ := h
      obtain ⟨q900, h⟩ := h
      refine go_scrld (show decode code 1645 = .ok (.iaload, 1) by decide +kernel) rfl q899 q900 ?_
      refine go_aload_n (show decode code 1646 = .ok (.aload_n 0, 1) by decide +kernel) (by rfl) ?_
      refine go_iload_n (show decode code 1647 = .ok (.iload_n 3, 1) by decide +kernel) (by rfl) ?_
      refine go_iconst (show decode code 1648 = .ok (.iconst 3, 1) by decide +kernel) (by decide) ?_
      obtain ⟨q901, h⟩ := h
      refine go_iadd (show decode code 1649 = .ok (.iadd, 1) by decide +kernel) q901 ?_
      obtain ⟨q902, h⟩ := h
      obtain ⟨q903, h⟩ := h
      refine go_scrld (show decode code 1650 = .ok (.iaload, 1) by decide +kernel) rfl q902 q903 ?_
      refine go_aload_n (show decode code 1651 = .ok (.aload_n 0, 1) by decide +kernel) (by rfl) ?_
      refine go_iload_n (show decode code 1652 = .ok (.iload_n 3, 1) by decide +kernel) (by rfl) ?_
      refine go_iconst (show decode code 1653 = .ok (.iconst 4, 1) by decide +kernel) (by decide) ?_
      obtain ⟨q904, h⟩ := h
      refine go_iadd (show decode code 1654 = .ok (.iadd, 1) by decide +kernel) q904 ?_
      obtain ⟨q905, h⟩ := h
      obtain ⟨q906, h⟩ := h
      refine go_scrld (show decode code 1655 = .ok (.iaload, 1) by decide +kernel) rfl q905 q906 ?_
      refine go_aload_n (show decode code 1656 = .ok (.aload_n 0, 1) by decide +kernel) (by rfl) ?_
      refine go_iload_n (show decode code 1657 = .ok (.iload_n 3, 1) by decide +kernel) (by rfl) ?_
      refine go_iconst (show decode code 1658 = .ok (.iconst 5, 1) by decide +kernel) (by decide) ?_
      obtain ⟨q907, h⟩ := h
      refine go_iadd (show decode code 1659 = .ok (.iadd, 1) by decide +kernel) q907 ?_
      obtain ⟨q908, h⟩ := h
      obtain ⟨q909, h⟩ := h
      refine go_scrld (show decode code 1660 = .ok (.iaload, 1) by decide +kernel) rfl q908 q909 ?_
      refine go_aload_n (show decode code 1661 = .ok (.aload_n 0, 1) by decide +kernel) (by rfl) ?_
      refine go_iload_n (show decode code 1662 = .ok (.iload_n 3, 1) by decide +kernel) (by rfl) ?_
      refine go_bipush (show decode code 1663 = .ok (.bipush 6, 2) by decide +kernel) (by decide) ?_
      obtain ⟨q910, h⟩ := h
      refine go_iadd (show decode code 1665 = .ok (.iadd, 1) by decide +kernel) q910 ?_
      obtain ⟨q911, h⟩ := h
      obtain ⟨q912, h⟩ := h
      refine go_scrld (show decode code 1666 = .ok (.iaload, 1) by decide +kernel) rfl q911 q912 ?_
      refine go_i2l (show decode code 1667 = .ok (.i2l, 1) by decide +kernel) ?_
      refine go_bipush (show decode code 1668 = .ok (.bipush 32, 2) by decide +kernel) (by decide) ?_
      refine go_lshl (show decode code 1670 = .ok (.lshl, 1) by decide +kernel) ?_
      refine go_aload_n (show decode code 1671 = .ok (.aload_n 0, 1) by decide +kernel) (by rfl) ?_
      refine go_iload_n (show decode code 1672 = .ok (.iload_n 3, 1) by decide +kernel) (by rfl) ?_
      refine go_bipush (show decode code 1673 = .ok (.bipush 7, 2) by decide +kernel) (by decide) ?_
      obtain ⟨q913, h⟩ := h
      refine go_iadd (show decode code 1675 = .ok (.iadd, 1) by decide +kernel) q913 ?_
      obtain ⟨q914, h⟩ := h
      obtain ⟨q915, h⟩ := h
      refine go_scrld (show decode code 1676 = .ok (.iaload, 1) by decide +kernel) rfl q914 q915 ?_
      refine go_i2l (show decode code 1677 = .ok (.i2l, 1) by decide +kernel) ?_
      refine go_ldc2 (show decode code 1678 = .ok (.ldc2_w 13, 3) by decide +kernel) lc_L_13 (by decide) ?_
      refine go_land (show decode code 1681 = .ok (.land, 1) by decide +kernel) ?_
      refine go_lor (show decode code 1682 = .ok (.lor, 1) by decide +kernel) ?_
      obtain ⟨q920, h⟩ := h
      refine go_callV (d2 := d - 1) (M2 := MX10_findIn) (n := 6) (ci := 10) (av := [vI (sx S890 (a3 + 1)), vI (sx S890 (a3 + 2)), vI (sx S890 (a3 + 3)), vI (sx S890 (a3 + 4)), vI (sx S890 (a3 + 5)), vJ (jOr (jShl (sx S890 (a3 + 6)) 32) (jAnd (sx S890 (a3 + 7)) 4294967295))]) (st := [vJ z894]) (show decode code 1683 = .ok (.invokevirtual 122, 3) by decide +kernel) ml_L_122 mt_X10_findIn min_X10_findIn mse_X10_findIn (by decide) q920 rfl (Nat.le_of_ble_eq_true rfl) (by omega) (ok_mono h (fun w916 S917 F918 G919 h => ?_))
      obtain ⟨z921, e9, h⟩ := h
      subst e9
      show Go d Mlaw 1686 [some (vR a0), some (vR a1), some (vR a2), some (vI a3)] [vJ z921, vJ z894] S917 F918 G919 Q
      obtain ⟨ht, hf⟩ := h
      refine go_jeq (tgt := 2110) (show decode code 1686 = .ok (.lcmp, 1) by decide +kernel) (show decode code 1687 = .ok (.ifCond .eq 423, 3) by decide +kernel) (by decide) (fun hc => ?_) (fun hc => ?_)
      · have h := ht hc
        exact R_law_2110 h
      · have h := hf hc
        refine go_iconst (show decode code 1690 = .ok (.iconst 0, 1) by decide +kernel) (by decide) ?_
        exact go_zret (show decode code 1691 = .ok (.ireturn, 1) by decide +kernel) rfl (by decide) h
    by_cases hc24 : bAnd (sx S a3) 63 = 24
    · have h := h_24 hc24
      refine go_swIn (tgt := 1692) (show decode code 33 = .ok (.tableswitch 2077 0 32 #[147, 221, 297, 405, 493, 557, 665, 699, 712, 725, 738, 801, 824, 847, 911, 955, 1031, 1085, 1161, 1269, 1377, 1401, 1477, 1551, 1659, 1767, 1821, 1855, 1909, 1953, 1986, 2019, 2053], 147) by decide +kernel) (by omega) (by omega) (by rw [hc24]; rfl) (by decide) ?_
      refine go_aload_n (show decode code 1692 = .ok (.aload_n 1, 1) by decide +kernel) (by rfl) ?_
      refine go_aload_n (show decode code 1693 = .ok (.aload_n 0, 1) by decide +kernel) (by rfl) ?_
      refine go_iload_n (show decode code 1694 = .ok (.iload_n 3, 1) by decide +kernel) (by rfl) ?_
      refine go_iconst (show decode code 1695 = .ok (.iconst 1, 1) by decide +kernel) (by decide) ?_
      obtain ⟨q922, h⟩ := h
      refine go_iadd (show decode code 1696 = .ok (.iadd, 1) by decide +kernel) q922 ?_
      obtain ⟨q923, h⟩ := h
      obtain ⟨q924, h⟩ := h
      refine go_scrld (show decode code 1697 = .ok (.iaload, 1) by decide +kernel) rfl q923 q924 ?_
      refine go_aload_n (show decode code 1698 = .ok (.aload_n 0, 1) by decide +kernel) (by rfl) ?_
      refine go_iload_n (show decode code 1699 = .ok (.iload_n 3, 1) by decide +kernel) (by rfl) ?_
      refine go_iconst (show decode code 1700 = .ok (.iconst 2, 1) by decide +kernel) (by decide) ?_
      obtain ⟨q925, h⟩ := h
      refine go_iadd (show decode code 1701 = .ok (.iadd, 1) by decide +kernel) q925 ?_
      obtain ⟨q926, h⟩ := h
      obtain ⟨q927, h⟩ := h
      refine go_scrld (show decode code 1702 = .ok (.iaload, 1) by decide +kernel) rfl q926 q927 ?_
      refine go_aload_n (show decode code 1703 = .ok (.aload_n 0, 1) by decide +kernel) (by rfl) ?_
      refine go_iload_n (show decode code 1704 = .ok (.iload_n 3, 1) by decide +kernel) (by rfl) ?_
      refine go_iconst (show decode code 1705 = .ok (.iconst 3, 1) by decide +kernel) (by decide) ?_
      obtain ⟨q928, h⟩ := h
      refine go_iadd (show decode code 1706 = .ok (.iadd, 1) by decide +kernel) q928 ?_
      obtain ⟨q929, h⟩ := h
      obtain ⟨q930, h⟩ := h
      refine go_scrld (show decode code 1707 = .ok (.iaload, 1) by decide +kernel) rfl q929 q930 ?_
      refine go_aload_n (show decode code 1708 = .ok (.aload_n 0, 1) by decide +kernel) (by rfl) ?_
      refine go_iload_n (show decode code 1709 = .ok (.iload_n 3, 1) by decide +kernel) (by rfl) ?_
      refine go_iconst (show decode code 1710 = .ok (.iconst 4, 1) by decide +kernel) (by decide) ?_
      obtain ⟨q931, h⟩ := h
      refine go_iadd (show decode code 1711 = .ok (.iadd, 1) by decide +kernel) q931 ?_
      obtain ⟨q932, h⟩ := h
      obtain ⟨q933, h⟩ := h
      refine go_scrld (show decode code 1712 = .ok (.iaload, 1) by decide +kernel) rfl q932 q933 ?_
      refine go_aload_n (show decode code 1713 = .ok (.aload_n 0, 1) by decide +kernel) (by rfl) ?_
      refine go_iload_n (show decode code 1714 = .ok (.iload_n 3, 1) by decide +kernel) (by rfl) ?_
      refine go_iconst (show decode code 1715 = .ok (.iconst 5, 1) by decide +kernel) (by decide) ?_
      obtain ⟨q934, h⟩ := h
      refine go_iadd (show decode code 1716 = .ok (.iadd, 1) by decide +kernel) q934 ?_
      obtain ⟨q935, h⟩ := h
      obtain ⟨q936, h⟩ := h
      refine go_scrld (show decode code 1717 = .ok (.iaload, 1) by decide +kernel) rfl q935 q936 ?_
      refine go_aload_n (show decode code 1718 = .ok (.aload_n 0, 1) by decide +kernel) (by rfl) ?_
      refine go_iload_n (show decode code 1719 = .ok (.iload_n 3, 1) by decide +kernel) (by rfl) ?_
      refine go_bipush (show decode code 1720 = .ok (.bipush 6, 2) by decide +kernel) (by decide) ?_
      obtain ⟨q937, h⟩ := h
      refine go_iadd (show decode code 1722 = .ok (.iadd, 1) by decide +kernel) q937 ?_
      obtain ⟨q938, h⟩ := h
      obtain ⟨q939, h⟩ := h
      refine go_scrld (show decode code 1723 = .ok (.iaload, 1) by decide +kernel) rfl q938 q939 ?_
      refine go_i2l (show decode code 1724 = .ok (.i2l, 1) by decide +kernel) ?_
      refine go_bipush (show decode code 1725 = .ok (.bipush 32, 2) by decide +kernel) (by decide) ?_
      refine go_lshl (show decode code 1727 = .ok (.lshl, 1) by decide +kernel) ?_
      refine go_aload_n (show decode code 1728 = .ok (.aload_n 0, 1) by decide +kernel) (by rfl) ?_
      refine go_iload_n (show decode code 1729 = .ok (.iload_n 3, 1) by decide +kernel) (by rfl) ?_
      refine go_bipush (show decode code 1730 = .ok (.bipush 7, 2) by decide +kernel) (by decide) ?_
      obtain ⟨q940, h⟩ := h
      refine go_iadd (show decode code 1732 = .ok (.iadd, 1) by decide +kernel) q940 ?_
      obtain ⟨q941, h⟩ := h
      obtain ⟨q942, h⟩ := h
      refine go_scrld (show decode code 1733 = .ok (.iaload, 1) by decide +kernel) rfl q941 q942 ?_
      refine go_i2l (show decode code 1734 = .ok (.i2l, 1) by decide +kernel) ?_
      refine go_ldc2 (show decode code 1735 = .ok (.ldc2_w 13, 3) by decide +kernel) lc_L_13 (by decide) ?_
      refine go_land (show decode code 1738 = .ok (.land, 1) by decide +kernel) ?_
      refine go_lor (show decode code 1739 = .ok (.lor, 1) by decide +kernel) ?_
      obtain ⟨q943, h⟩ := h
      obtain ⟨q948, h⟩ := h
      refine go_callV (d2 := d - 1) (M2 := MX9_touched) (n := 6) (ci := 9) (av := [vI (sx S (a3 + 1)), vI (sx S (a3 + 2)), vI (sx S (a3 + 3)), vI (sx S (a3 + 4)), vI (sx S (a3 + 5)), vJ (jOr (jShl (sx S (a3 + 6)) 32) (jAnd (sx S (a3 + 7)) 4294967295))]) (st := []) (show decode code 1740 = .ok (.invokevirtual 123, 3) by decide +kernel) ml_L_123 mt_X9_touched min_X9_touched mse_X9_touched (by decide) q948 rfl (Nat.le_of_ble_eq_true rfl) (by omega) (ok_mono h (fun w944 S945 F946 G947 h => ?_))
      obtain ⟨z949, e9, h⟩ := h
      subst e9
      show Go d Mlaw 1743 [some (vR a0), some (vR a1), some (vR a2), some (vI a3)] [vJ z949] S945 F946 G947 Q
      refine go_aload_n (show decode code 1743 = .ok (.aload_n 2, 1) by decide +kernel) (by rfl) ?_
      refine go_aload_n (show decode code 1744 = .ok (.aload_n 0, 1) by decide +kernel) (by rfl) ?_
      refine go_iload_n (show decode code 1745 = .ok (.iload_n 3, 1) by decide +kernel) (by rfl) ?_
      refine go_iconst (show decode code 1746 = .ok (.iconst 1, 1) by decide +kernel) (by decide) ?_
      obtain ⟨q950, h⟩ := h
      refine go_iadd (show decode code 1747 = .ok (.iadd, 1) by decide +kernel) q950 ?_
      obtain ⟨q951, h⟩ := h
      obtain ⟨q952, h⟩ := h
      refine go_scrld (show decode code 1748 = .ok (.iaload, 1) by decide +kernel) rfl q951 q952 ?_
      refine go_aload_n (show decode code 1749 = .ok (.aload_n 0, 1) by decide +kernel) (by rfl) ?_
      refine go_iload_n (show decode code 1750 = .ok (.iload_n 3, 1) by decide +kernel) (by rfl) ?_
      refine go_iconst (show decode code 1751 = .ok (.iconst 2, 1) by decide +kernel) (by decide) ?_
      obtain ⟨q953, h⟩ := h
      refine go_iadd (show decode code 1752 = .ok (.iadd, 1) by decide +kernel) q953 ?_
      obtain ⟨q954, h⟩ := h
      obtain ⟨q955, h⟩ := h
      refine go_scrld (show decode code 1753 = .ok (.iaload, 1) by decide +kernel) rfl q954 q955 ?_
      refine go_aload_n (show decode code 1754 = .ok (.aload_n 0, 1) by decide +kernel) (by rfl) ?_
      refine go_iload_n (show decode code 1755 = .ok (.iload_n 3, 1) by decide +kernel) (by rfl) ?_
      refine go_iconst (show decode code 1756 = .ok (.iconst 3, 1) by decide +kernel) (by decide) ?_
      obtain ⟨q956, h⟩ := h
      refine go_iadd (show decode code 1757 = .ok (.iadd, 1) by decide +kernel) q956 ?_
      obtain ⟨q957, h⟩ := h
      obtain ⟨q958, h⟩ := h
      refine go_scrld (show decode code 1758 = .ok (.iaload, 1) by decide +kernel) rfl q957 q958 ?_
      refine go_aload_n (show decode code 1759 = .ok (.aload_n 0, 1) by decide +kernel) (by rfl) ?_
      refine go_iload_n (show decode code 1760 = .ok (.iload_n 3, 1) by decide +kernel) (by rfl) ?_
      refine go_iconst (show decode code 1761 = .ok (.iconst 4, 1) by decide +kernel) (by decide) ?_
      obtain ⟨q959, h⟩ := h
      refine go_iadd (show decode code 1762 = .ok (.iadd, 1) by decide +kernel) q959 ?_
      obtain ⟨q960, h⟩ := h
      obtain ⟨q961, h⟩ := h
      refine go_scrld (show decode code 1763 = .ok (.iaload, 1) by decide +kernel) rfl q960 q961 ?_
      refine go_aload_n (show decode code 1764 = .ok (.aload_n 0, 1) by decide +kernel) (by rfl) ?_
      refine go_iload_n (show decode code 1765 = .ok (.iload_n 3, 1) by decide +kernel) (by rfl) ?_
      refine go_iconst (show decode code 1766 = .ok (.iconst 5, 1) by decide +kernel) (by decide) ?_
      obtain ⟨q962, h⟩ := h
      refine go_iadd (show decode code 1767 = .ok (.iadd, 1) by decide +kernel) q962 ?_
      obtain ⟨q963, h⟩ := h
      obtain ⟨q964, h⟩ := h
      refine go_scrld (show decode code 1768 = .ok (.iaload, 1) by decide +kernel) rfl q963 q964 ?_
      refine go_aload_n (show decode code 1769 = .ok (.aload_n 0, 1) by decide +kernel) (by rfl) ?_
      refine go_iload_n (show decode code 1770 = .ok (.iload_n 3, 1) by decide +kernel) (by rfl) ?_
      refine go_bipush (show decode code 1771 = .ok (.bipush 6, 2) by decide +kernel) (by decide) ?_
      obtain ⟨q965, h⟩ := h
      refine go_iadd (show decode code 1773 = .ok (.iadd, 1) by decide +kernel) q965 ?_
      obtain ⟨q966, h⟩ := h
      obtain ⟨q967, h⟩ := h
      refine go_scrld (show decode code 1774 = .ok (.iaload, 1) by decide +kernel) rfl q966 q967 ?_
      refine go_i2l (show decode code 1775 = .ok (.i2l, 1) by decide +kernel) ?_
      refine go_bipush (show decode code 1776 = .ok (.bipush 32, 2) by decide +kernel) (by decide) ?_
      refine go_lshl (show decode code 1778 = .ok (.lshl, 1) by decide +kernel) ?_
      refine go_aload_n (show decode code 1779 = .ok (.aload_n 0, 1) by decide +kernel) (by rfl) ?_
      refine go_iload_n (show decode code 1780 = .ok (.iload_n 3, 1) by decide +kernel) (by rfl) ?_
      refine go_bipush (show decode code 1781 = .ok (.bipush 7, 2) by decide +kernel) (by decide) ?_
      obtain ⟨q968, h⟩ := h
      refine go_iadd (show decode code 1783 = .ok (.iadd, 1) by decide +kernel) q968 ?_
      obtain ⟨q969, h⟩ := h
      obtain ⟨q970, h⟩ := h
      refine go_scrld (show decode code 1784 = .ok (.iaload, 1) by decide +kernel) rfl q969 q970 ?_
      refine go_i2l (show decode code 1785 = .ok (.i2l, 1) by decide +kernel) ?_
      refine go_ldc2 (show decode code 1786 = .ok (.ldc2_w 13, 3) by decide +kernel) lc_L_13 (by decide) ?_
      refine go_land (show decode code 1789 = .ok (.land, 1) by decide +kernel) ?_
      refine go_lor (show decode code 1790 = .ok (.lor, 1) by decide +kernel) ?_
      obtain ⟨q975, h⟩ := h
      refine go_callV (d2 := d - 1) (M2 := MX10_touched) (n := 6) (ci := 10) (av := [vI (sx S945 (a3 + 1)), vI (sx S945 (a3 + 2)), vI (sx S945 (a3 + 3)), vI (sx S945 (a3 + 4)), vI (sx S945 (a3 + 5)), vJ (jOr (jShl (sx S945 (a3 + 6)) 32) (jAnd (sx S945 (a3 + 7)) 4294967295))]) (st := [vJ z949]) (show decode code 1791 = .ok (.invokevirtual 126, 3) by decide +kernel) ml_L_126 mt_X10_touched min_X10_touched mse_X10_touched (by decide) q975 rfl (Nat.le_of_ble_eq_true rfl) (by omega) (ok_mono h (fun w971 S972 F973 G974 h => ?_))
      obtain ⟨z976, e9, h⟩ := h
      subst e9
      show Go d Mlaw 1794 [some (vR a0), some (vR a1), some (vR a2), some (vI a3)] [vJ z976, vJ z949] S972 F973 G974 Q
      obtain ⟨ht, hf⟩ := h
      refine go_jeq (tgt := 2110) (show decode code 1794 = .ok (.lcmp, 1) by decide +kernel) (show decode code 1795 = .ok (.ifCond .eq 315, 3) by decide +kernel) (by decide) (fun hc => ?_) (fun hc => ?_)
      · have h := ht hc
        exact R_law_2110 h
      · have h := hf hc
        refine go_iconst (show decode code 1798 = .ok (.iconst 0, 1) by decide +kernel) (by decide) ?_
        exact go_zret (show decode code 1799 = .ok (.ireturn, 1) by decide +kernel) rfl (by decide) h
    by_cases hc25 : bAnd (sx S a3) 63 = 25
    · have h := h_25 hc25
      refine go_swIn (tgt := 1800) (show decode code 33 = .ok (.tableswitch 2077 0 32 #[147, 221, 297, 405, 493, 557, 665, 699, 712, 725, 738, 801, 824, 847, 911, 955, 1031, 1085, 1161, 1269, 1377, 1401, 1477, 1551, 1659, 1767, 1821, 1855, 1909, 1953, 1986, 2019, 2053], 147) by decide +kernel) (by omega) (by omega) (by rw [hc25]; rfl) (by decide) ?_
      refine go_aload_n (show decode code 1800 = .ok (.aload_n 1, 1) by decide +kernel) (by rfl) ?_
      refine go_aload_n (show decode code 1801 = .ok (.aload_n 0, 1) by decide +kernel) (by rfl) ?_
      refine go_iload_n (show decode code 1802 = .ok (.iload_n 3, 1) by decide +kernel) (by rfl) ?_
      refine go_iconst (show decode code 1803 = .ok (.iconst 1, 1) by decide +kernel) (by decide) ?_
      obtain ⟨q977, h⟩ := h
      refine go_iadd (show decode code 1804 = .ok (.iadd, 1) by decide +kernel) q977 ?_
      obtain ⟨q978, h⟩ := h
      obtain ⟨q979, h⟩ := h
      refine go_scrld (show decode code 1805 = .ok (.iaload, 1) by decide +kernel) rfl q978 q979 ?_
      refine go_aload_n (show decode code 1806 = .ok (.aload_n 0, 1) by decide +kernel) (by rfl) ?_
      refine go_iload_n (show decode code 1807 = .ok (.iload_n 3, 1) by decide +kernel) (by rfl) ?_
      refine go_iconst (show decode code 1808 = .ok (.iconst 2, 1) by decide +kernel) (by decide) ?_
      obtain ⟨q980, h⟩ := h
      refine go_iadd (show decode code 1809 = .ok (.iadd, 1) by decide +kernel) q980 ?_
      obtain ⟨q981, h⟩ := h
      obtain ⟨q982, h⟩ := h
      refine go_scrld (show decode code 1810 = .ok (.iaload, 1) by decide +kernel) rfl q981 q982 ?_
      refine go_aload_n (show decode code 1811 = .ok (.aload_n 0, 1) by decide +kernel) (by rfl) ?_
      refine go_iload_n (show decode code 1812 = .ok (.iload_n 3, 1) by decide +kernel) (by rfl) ?_
      refine go_iconst (show decode code 1813 = .ok (.iconst 3, 1) by decide +kernel) (by decide) ?_
      obtain ⟨q983, h⟩ := h
      refine go_iadd (show decode code 1814 = .ok (.iadd, 1) by decide +kernel) q983 ?_
      obtain ⟨q984, h⟩ := h
      obtain ⟨q985, h⟩ := h
      refine go_scrld (show decode code 1815 = .ok (.iaload, 1) by decide +kernel) rfl q984 q985 ?_
      refine go_aload_n (show decode code 1816 = .ok (.aload_n 0, 1) by decide +kernel) (by rfl) ?_
      refine go_iload_n (show decode code 1817 = .ok (.iload_n 3, 1) by decide +kernel) (by rfl) ?_
      refine go_iconst (show decode code 1818 = .ok (.iconst 4, 1) by decide +kernel) (by decide) ?_
      obtain ⟨q986, h⟩ := h
      refine go_iadd (show decode code 1819 = .ok (.iadd, 1) by decide +kernel) q986 ?_
      obtain ⟨q987, h⟩ := h
      obtain ⟨q988, h⟩ := h
      refine go_scrld (show decode code 1820 = .ok (.iaload, 1) by decide +kernel) rfl q987 q988 ?_
      obtain ⟨q989, h⟩ := h
      obtain ⟨q994, h⟩ := h
      refine go_callV (d2 := d - 1) (M2 := MX9_ahead) (n := 4) (ci := 9) (av := [vI (sx S (a3 + 1)), vI (sx S (a3 + 2)), vI (sx S (a3 + 3)), vI (sx S (a3 + 4))]) (st := []) (show decode code 1821 = .ok (.invokevirtual 127, 3) by decide +kernel) ml_L_127 mt_X9_ahead min_X9_ahead mse_X9_ahead (by decide) q994 rfl (Nat.le_of_ble_eq_true rfl) (by omega) (ok_mono h (fun w990 S991 F992 G993 h => ?_))
      obtain ⟨z995, e9, h⟩ := h
      subst e9
      show Go d Mlaw 1824 [some (vR a0), some (vR a1), some (vR a2), some (vI a3)] [vJ z995] S991 F992 G993 Q
      refine go_aload_n (show decode code 1824 = .ok (.aload_n 2, 1) by decide +kernel) (by rfl) ?_
      refine go_aload_n (show decode code 1825 = .ok (.aload_n 0, 1) by decide +kernel) (by rfl) ?_
      refine go_iload_n (show decode code 1826 = .ok (.iload_n 3, 1) by decide +kernel) (by rfl) ?_
      refine go_iconst (show decode code 1827 = .ok (.iconst 1, 1) by decide +kernel) (by decide) ?_
      obtain ⟨q996, h⟩ := h
      refine go_iadd (show decode code 1828 = .ok (.iadd, 1) by decide +kernel) q996 ?_
      obtain ⟨q997, h⟩ := h
      obtain ⟨q998, h⟩ := h
      refine go_scrld (show decode code 1829 = .ok (.iaload, 1) by decide +kernel) rfl q997 q998 ?_
      refine go_aload_n (show decode code 1830 = .ok (.aload_n 0, 1) by decide +kernel) (by rfl) ?_
      refine go_iload_n (show decode code 1831 = .ok (.iload_n 3, 1) by decide +kernel) (by rfl) ?_
      refine go_iconst (show decode code 1832 = .ok (.iconst 2, 1) by decide +kernel) (by decide) ?_
      obtain ⟨q999, h⟩ := h
      refine go_iadd (show decode code 1833 = .ok (.iadd, 1) by decide +kernel) q999 ?_
      obtain ⟨q1000, h⟩ := h
      obtain ⟨q1001, h⟩ := h
      refine go_scrld (show decode code 1834 = .ok (.iaload, 1) by decide +kernel) rfl q1000 q1001 ?_
      refine go_aload_n (show decode code 1835 = .ok (.aload_n 0, 1) by decide +kernel) (by rfl) ?_
      refine go_iload_n (show decode code 1836 = .ok (.iload_n 3, 1) by decide +kernel) (by rfl) ?_
      refine go_iconst (show decode code 1837 = .ok (.iconst 3, 1) by decide +kernel) (by decide) ?_
      obtain ⟨q1002, h⟩ := h
      refine go_iadd (show decode code 1838 = .ok (.iadd, 1) by decide +kernel) q1002 ?_
      obtain ⟨q1003, h⟩ := h
      obtain ⟨q1004, h⟩ := h
      refine go_scrld (show decode code 1839 = .ok (.iaload, 1) by decide +kernel) rfl q1003 q1004 ?_
      refine go_aload_n (show decode code 1840 = .ok (.aload_n 0, 1) by decide +kernel) (by rfl) ?_
      refine go_iload_n (show decode code 1841 = .ok (.iload_n 3, 1) by decide +kernel) (by rfl) ?_
      refine go_iconst (show decode code 1842 = .ok (.iconst 4, 1) by decide +kernel) (by decide) ?_
      obtain ⟨q1005, h⟩ := h
      refine go_iadd (show decode code 1843 = .ok (.iadd, 1) by decide +kernel) q1005 ?_
      obtain ⟨q1006, h⟩ := h
      obtain ⟨q1007, h⟩ := h
      refine go_scrld (show decode code 1844 = .ok (.iaload, 1) by decide +kernel) rfl q1006 q1007 ?_
      obtain ⟨q1012, h⟩ := h
      refine go_callV (d2 := d - 1) (M2 := MX10_ahead) (n := 4) (ci := 10) (av := [vI (sx S991 (a3 + 1)), vI (sx S991 (a3 + 2)), vI (sx S991 (a3 + 3)), vI (sx S991 (a3 + 4))]) (st := [vJ z995]) (show decode code 1845 = .ok (.invokevirtual 130, 3) by decide +kernel) ml_L_130 mt_X10_ahead min_X10_ahead mse_X10_ahead (by decide) q1012 rfl (Nat.le_of_ble_eq_true rfl) (by omega) (ok_mono h (fun w1008 S1009 F1010 G1011 h => ?_))
      obtain ⟨z1013, e9, h⟩ := h
      subst e9
      show Go d Mlaw 1848 [some (vR a0), some (vR a1), some (vR a2), some (vI a3)] [vJ z1013, vJ z995] S1009 F1010 G1011 Q
      obtain ⟨ht, hf⟩ := h
      refine go_jeq (tgt := 2110) (show decode code 1848 = .ok (.lcmp, 1) by decide +kernel) (show decode code 1849 = .ok (.ifCond .eq 261, 3) by decide +kernel) (by decide) (fun hc => ?_) (fun hc => ?_)
      · have h := ht hc
        exact R_law_2110 h
      · have h := hf hc
        refine go_iconst (show decode code 1852 = .ok (.iconst 0, 1) by decide +kernel) (by decide) ?_
        exact go_zret (show decode code 1853 = .ok (.ireturn, 1) by decide +kernel) rfl (by decide) h
    by_cases hc26 : bAnd (sx S a3) 63 = 26
    · have h := h_26 hc26
      refine go_swIn (tgt := 1854) (show decode code 33 = .ok (.tableswitch 2077 0 32 #[147, 221, 297, 405, 493, 557, 665, 699, 712, 725, 738, 801, 824, 847, 911, 955, 1031, 1085, 1161, 1269, 1377, 1401, 1477, 1551, 1659, 1767, 1821, 1855, 1909, 1953, 1986, 2019, 2053], 147) by decide +kernel) (by omega) (by omega) (by rw [hc26]; rfl) (by decide) ?_
      refine go_aload_n (show decode code 1854 = .ok (.aload_n 1, 1) by decide +kernel) (by rfl) ?_
      refine go_aload_n (show decode code 1855 = .ok (.aload_n 0, 1) by decide +kernel) (by rfl) ?_
      refine go_iload_n (show decode code 1856 = .ok (.iload_n 3, 1) by decide +kernel) (by rfl) ?_
      refine go_iconst (show decode code 1857 = .ok (.iconst 1, 1) by decide +kernel) (by decide) ?_
      obtain ⟨q1014, h⟩ := h
      refine go_iadd (show decode code 1858 = .ok (.iadd, 1) by decide +kernel) q1014 ?_
      obtain ⟨q1015, h⟩ := h
      obtain ⟨q1016, h⟩ := h
      refine go_scrld (show decode code 1859 = .ok (.iaload, 1) by decide +kernel) rfl q1015 q1016 ?_
      refine go_aload_n (show decode code 1860 = .ok (.aload_n 0, 1) by decide +kernel) (by rfl) ?_
      refine go_iload_n (show decode code 1861 = .ok (.iload_n 3, 1) by decide +kernel) (by rfl) ?_
      refine go_iconst (show decode code 1862 = .ok (.iconst 2, 1) by decide +kernel) (by decide) ?_
      obtain ⟨q1017, h⟩ := h
      refine go_iadd (show decode code 1863 = .ok (.iadd, 1) by decide +kernel) q1017 ?_
      obtain ⟨q1018, h⟩ := h
      obtain ⟨q1019, h⟩ := h
      refine go_scrld (show decode code 1864 = .ok (.iaload, 1) by decide +kernel) rfl q1018 q1019 ?_
      obtain ⟨q1020, h⟩ := h
      obtain ⟨q1025, h⟩ := h
      refine go_callV (d2 := d - 1) (M2 := MX9_depot) (n := 2) (ci := 9) (av := [vI (sx S (a3 + 1)), vI (sx S (a3 + 2))]) (st := []) (show decode code 1865 = .ok (.invokevirtual 131, 3) by decide +kernel) ml_L_131 mt_X9_depot min_X9_depot mse_X9_depot (by decide) q1025 rfl (Nat.le_of_ble_eq_true rfl) (by omega) (ok_mono h (fun w1021 S1022 F1023 G1024 h => ?_))
      obtain ⟨z1026, e9, h⟩ := h
      subst e9
      show Go d Mlaw 1868 [some (vR a0), some (vR a1), some (vR a2), some (vI a3)] [vJ z1026] S1022 F1023 G1024 Q
      refine go_aload_n (show decode code 1868 = .ok (.aload_n 2, 1) by decide +kernel) (by rfl) ?_
      refine go_aload_n (show decode code 1869 = .ok (.aload_n 0, 1) by decide +kernel) (by rfl) ?_
      refine go_iload_n (show decode code 1870 = .ok (.iload_n 3, 1) by decide +kernel) (by rfl) ?_
      refine go_iconst (show decode code 1871 = .ok (.iconst 1, 1) by decide +kernel) (by decide) ?_
      obtain ⟨q1027, h⟩ := h
      refine go_iadd (show decode code 1872 = .ok (.iadd, 1) by decide +kernel) q1027 ?_
      obtain ⟨q1028, h⟩ := h
      obtain ⟨q1029, h⟩ := h
      refine go_scrld (show decode code 1873 = .ok (.iaload, 1) by decide +kernel) rfl q1028 q1029 ?_
      refine go_aload_n (show decode code 1874 = .ok (.aload_n 0, 1) by decide +kernel) (by rfl) ?_
      refine go_iload_n (show decode code 1875 = .ok (.iload_n 3, 1) by decide +kernel) (by rfl) ?_
      refine go_iconst (show decode code 1876 = .ok (.iconst 2, 1) by decide +kernel) (by decide) ?_
      obtain ⟨q1030, h⟩ := h
      refine go_iadd (show decode code 1877 = .ok (.iadd, 1) by decide +kernel) q1030 ?_
      obtain ⟨q1031, h⟩ := h
      obtain ⟨q1032, h⟩ := h
      refine go_scrld (show decode code 1878 = .ok (.iaload, 1) by decide +kernel) rfl q1031 q1032 ?_
      obtain ⟨q1037, h⟩ := h
      refine go_callV (d2 := d - 1) (M2 := MX10_depot) (n := 2) (ci := 10) (av := [vI (sx S1022 (a3 + 1)), vI (sx S1022 (a3 + 2))]) (st := [vJ z1026]) (show decode code 1879 = .ok (.invokevirtual 134, 3) by decide +kernel) ml_L_134 mt_X10_depot min_X10_depot mse_X10_depot (by decide) q1037 rfl (Nat.le_of_ble_eq_true rfl) (by omega) (ok_mono h (fun w1033 S1034 F1035 G1036 h => ?_))
      obtain ⟨z1038, e9, h⟩ := h
      subst e9
      show Go d Mlaw 1882 [some (vR a0), some (vR a1), some (vR a2), some (vI a3)] [vJ z1038, vJ z1026] S1034 F1035 G1036 Q
      obtain ⟨ht, hf⟩ := h
      refine go_jeq (tgt := 2110) (show decode code 1882 = .ok (.lcmp, 1) by decide +kernel) (show decode code 1883 = .ok (.ifCond .eq 227, 3) by decide +kernel) (by decide) (fun hc => ?_) (fun hc => ?_)
      · have h := ht hc
        exact R_law_2110 h
      · have h := hf hc
        refine go_iconst (show decode code 1886 = .ok (.iconst 0, 1) by decide +kernel) (by decide) ?_
        exact go_zret (show decode code 1887 = .ok (.ireturn, 1) by decide +kernel) rfl (by decide) h
    by_cases hc27 : bAnd (sx S a3) 63 = 27
    · have h := h_27 hc27
      refine go_swIn (tgt := 1888) (show decode code 33 = .ok (.tableswitch 2077 0 32 #[147, 221, 297, 405, 493, 557, 665, 699, 712, 725, 738, 801, 824, 847, 911, 955, 1031, 1085, 1161, 1269, 1377, 1401, 1477, 1551, 1659, 1767, 1821, 1855, 1909, 1953, 1986, 2019, 2053], 147) by decide +kernel) (by omega) (by omega) (by rw [hc27]; rfl) (by decide) ?_
      refine go_aload_n (show decode code 1888 = .ok (.aload_n 1, 1) by decide +kernel) (by rfl) ?_
      refine go_aload_n (show decode code 1889 = .ok (.aload_n 0, 1) by decide +kernel) (by rfl) ?_
      refine go_iload_n (show decode code 1890 = .ok (.iload_n 3, 1) by decide +kernel) (by rfl) ?_
      refine go_iconst (show decode code 1891 = .ok (.iconst 1, 1) by decide +kernel) (by decide) ?_
      obtain ⟨q1039, h⟩ := h
      refine go_iadd (show decode code 1892 = .ok (.iadd, 1) by decide +kernel) q1039 ?_
      obtain ⟨q1040, h⟩ := h
      obtain ⟨q1041, h⟩ := h
      refine go_scrld (show decode code 1893 = .ok (.iaload, 1) by decide +kernel) rfl q1040 q1041 ?_
      refine go_aload_n (show decode code 1894 = .ok (.aload_n 0, 1) by decide +kernel) (by rfl) ?_
      refine go_iload_n (show decode code 1895 = .ok (.iload_n 3, 1) by decide +kernel) (by rfl) ?_
      refine go_iconst (show decode code 1896 = .ok (.iconst 2, 1) by decide +kernel) (by decide) ?_
      obtain ⟨q1042, h⟩ := h
      refine go_iadd (show decode code 1897 = .ok (.iadd, 1) by decide +kernel) q1042 ?_
      obtain ⟨q1043, h⟩ := h
      obtain ⟨q1044, h⟩ := h
      refine go_scrld (show decode code 1898 = .ok (.iaload, 1) by decide +kernel) rfl q1043 q1044 ?_
      refine go_aload_n (show decode code 1899 = .ok (.aload_n 0, 1) by decide +kernel) (by rfl) ?_
      refine go_iload_n (show decode code 1900 = .ok (.iload_n 3, 1) by decide +kernel) (by rfl) ?_
      refine go_iconst (show decode code 1901 = .ok (.iconst 3, 1) by decide +kernel) (by decide) ?_
      obtain ⟨q1045, h⟩ := h
      refine go_iadd (show decode code 1902 = .ok (.iadd, 1) by decide +kernel) q1045 ?_
      obtain ⟨q1046, h⟩ := h
      obtain ⟨q1047, h⟩ := h
      refine go_scrld (show decode code 1903 = .ok (.iaload, 1) by decide +kernel) rfl q1046 q1047 ?_
      refine go_aload_n (show decode code 1904 = .ok (.aload_n 0, 1) by decide +kernel) (by rfl) ?_
      refine go_iload_n (show decode code 1905 = .ok (.iload_n 3, 1) by decide +kernel) (by rfl) ?_
      refine go_iconst (show decode code 1906 = .ok (.iconst 4, 1) by decide +kernel) (by decide) ?_
      obtain ⟨q1048, h⟩ := h
      refine go_iadd (show decode code 1907 = .ok (.iadd, 1) by decide +kernel) q1048 ?_
      obtain ⟨q1049, h⟩ := h
      obtain ⟨q1050, h⟩ := h
      refine go_scrld (show decode code 1908 = .ok (.iaload, 1) by decide +kernel) rfl q1049 q1050 ?_
      obtain ⟨q1051, h⟩ := h
      obtain ⟨q1056, h⟩ := h
      refine go_callV (d2 := d - 1) (M2 := MX9_window) (n := 4) (ci := 9) (av := [vI (sx S (a3 + 1)), vI (sx S (a3 + 2)), vI (sx S (a3 + 3)), vI (sx S (a3 + 4))]) (st := []) (show decode code 1909 = .ok (.invokevirtual 135, 3) by decide +kernel) ml_L_135 mt_X9_window min_X9_window mse_X9_window (by decide) q1056 rfl (Nat.le_of_ble_eq_true rfl) (by omega) (ok_mono h (fun w1052 S1053 F1054 G1055 h => ?_))
      obtain ⟨z1057, e9, h⟩ := h
      subst e9
      show Go d Mlaw 1912 [some (vR a0), some (vR a1), some (vR a2), some (vI a3)] [vJ z1057] S1053 F1054 G1055 Q
      refine go_aload_n (show decode code 1912 = .ok (.aload_n 2, 1) by decide +kernel) (by rfl) ?_
      refine go_aload_n (show decode code 1913 = .ok (.aload_n 0, 1) by decide +kernel) (by rfl) ?_
      refine go_iload_n (show decode code 1914 = .ok (.iload_n 3, 1) by decide +kernel) (by rfl) ?_
      refine go_iconst (show decode code 1915 = .ok (.iconst 1, 1) by decide +kernel) (by decide) ?_
      obtain ⟨q1058, h⟩ := h
      refine go_iadd (show decode code 1916 = .ok (.iadd, 1) by decide +kernel) q1058 ?_
      obtain ⟨q1059, h⟩ := h
      obtain ⟨q1060, h⟩ := h
      refine go_scrld (show decode code 1917 = .ok (.iaload, 1) by decide +kernel) rfl q1059 q1060 ?_
      refine go_aload_n (show decode code 1918 = .ok (.aload_n 0, 1) by decide +kernel) (by rfl) ?_
      refine go_iload_n (show decode code 1919 = .ok (.iload_n 3, 1) by decide +kernel) (by rfl) ?_
      refine go_iconst (show decode code 1920 = .ok (.iconst 2, 1) by decide +kernel) (by decide) ?_
      obtain ⟨q1061, h⟩ := h
      refine go_iadd (show decode code 1921 = .ok (.iadd, 1) by decide +kernel) q1061 ?_
      obtain ⟨q1062, h⟩ := h
      obtain ⟨q1063, h⟩ := h
      refine go_scrld (show decode code 1922 = .ok (.iaload, 1) by decide +kernel) rfl q1062 q1063 ?_
      refine go_aload_n (show decode code 1923 = .ok (.aload_n 0, 1) by decide +kernel) (by rfl) ?_
      refine go_iload_n (show decode code 1924 = .ok (.iload_n 3, 1) by decide +kernel) (by rfl) ?_
      refine go_iconst (show decode code 1925 = .ok (.iconst 3, 1) by decide +kernel) (by decide) ?_
      obtain ⟨q1064, h⟩ := h
      refine go_iadd (show decode code 1926 = .ok (.iadd, 1) by decide +kernel) q1064 ?_
      obtain ⟨q1065, h⟩ := h
      obtain ⟨q1066, h⟩ := h
      refine go_scrld (show decode code 1927 = .ok (.iaload, 1) by decide +kernel) rfl q1065 q1066 ?_
      refine go_aload_n (show decode code 1928 = .ok (.aload_n 0, 1) by decide +kernel) (by rfl) ?_
      refine go_iload_n (show decode code 1929 = .ok (.iload_n 3, 1) by decide +kernel) (by rfl) ?_
      refine go_iconst (show decode code 1930 = .ok (.iconst 4, 1) by decide +kernel) (by decide) ?_
      obtain ⟨q1067, h⟩ := h
      refine go_iadd (show decode code 1931 = .ok (.iadd, 1) by decide +kernel) q1067 ?_
      obtain ⟨q1068, h⟩ := h
      obtain ⟨q1069, h⟩ := h
      refine go_scrld (show decode code 1932 = .ok (.iaload, 1) by decide +kernel) rfl q1068 q1069 ?_
      obtain ⟨q1074, h⟩ := h
      refine go_callV (d2 := d - 1) (M2 := MX10_window) (n := 4) (ci := 10) (av := [vI (sx S1053 (a3 + 1)), vI (sx S1053 (a3 + 2)), vI (sx S1053 (a3 + 3)), vI (sx S1053 (a3 + 4))]) (st := [vJ z1057]) (show decode code 1933 = .ok (.invokevirtual 138, 3) by decide +kernel) ml_L_138 mt_X10_window min_X10_window mse_X10_window (by decide) q1074 rfl (Nat.le_of_ble_eq_true rfl) (by omega) (ok_mono h (fun w1070 S1071 F1072 G1073 h => ?_))
      obtain ⟨z1075, e9, h⟩ := h
      subst e9
      show Go d Mlaw 1936 [some (vR a0), some (vR a1), some (vR a2), some (vI a3)] [vJ z1075, vJ z1057] S1071 F1072 G1073 Q
      obtain ⟨ht, hf⟩ := h
      refine go_jeq (tgt := 2110) (show decode code 1936 = .ok (.lcmp, 1) by decide +kernel) (show decode code 1937 = .ok (.ifCond .eq 173, 3) by decide +kernel) (by decide) (fun hc => ?_) (fun hc => ?_)
      · have h := ht hc
        exact R_law_2110 h
      · have h := hf hc
        refine go_iconst (show decode code 1940 = .ok (.iconst 0, 1) by decide +kernel) (by decide) ?_
        exact go_zret (show decode code 1941 = .ok (.ireturn, 1) by decide +kernel) rfl (by decide) h
    by_cases hc28 : bAnd (sx S a3) 63 = 28
    · have h := h_28 hc28
      refine go_swIn (tgt := 1942) (show decode code 33 = .ok (.tableswitch 2077 0 32 #[147, 221, 297, 405, 493, 557, 665, 699, 712, 725, 738, 801, 824, 847, 911, 955, 1031, 1085, 1161, 1269, 1377, 1401, 1477, 1551, 1659, 1767, 1821, 1855, 1909, 1953, 1986, 2019, 2053], 147) by decide +kernel) (by omega) (by omega) (by rw [hc28]; rfl) (by decide) ?_
      refine go_aload_n (show decode code 1942 = .ok (.aload_n 1, 1) by decide +kernel) (by rfl) ?_
      refine go_aload_n (show decode code 1943 = .ok (.aload_n 0, 1) by decide +kernel) (by rfl) ?_
      refine go_iload_n (show decode code 1944 = .ok (.iload_n 3, 1) by decide +kernel) (by rfl) ?_
      refine go_iconst (show decode code 1945 = .ok (.iconst 1, 1) by decide +kernel) (by decide) ?_
      obtain ⟨q1076, h⟩ := h
      refine go_iadd (show decode code 1946 = .ok (.iadd, 1) by decide +kernel) q1076 ?_
      obtain ⟨q1077, h⟩ := h
      obtain ⟨q1078, h⟩ := h
      refine go_scrld (show decode code 1947 = .ok (.iaload, 1) by decide +kernel) rfl q1077 q1078 ?_
      refine go_aload_n (show decode code 1948 = .ok (.aload_n 0, 1) by decide +kernel) (by rfl) ?_
      refine go_iload_n (show decode code 1949 = .ok (.iload_n 3, 1) by decide +kernel) (by rfl) ?_
      refine go_iconst (show decode code 1950 = .ok (.iconst 2, 1) by decide +kernel) (by decide) ?_
      obtain ⟨q1079, h⟩ := h
      refine go_iadd (show decode code 1951 = .ok (.iadd, 1) by decide +kernel) q1079 ?_
      obtain ⟨q1080, h⟩ := h
      obtain ⟨q1081, h⟩ := h
      refine go_scrld (show decode code 1952 = .ok (.iaload, 1) by decide +kernel) rfl q1080 q1081 ?_
      refine go_aload_n (show decode code 1953 = .ok (.aload_n 0, 1) by decide +kernel) (by rfl) ?_
      refine go_iload_n (show decode code 1954 = .ok (.iload_n 3, 1) by decide +kernel) (by rfl) ?_
      refine go_iconst (show decode code 1955 = .ok (.iconst 3, 1) by decide +kernel) (by decide) ?_
      obtain ⟨q1082, h⟩ := h
      refine go_iadd (show decode code 1956 = .ok (.iadd, 1) by decide +kernel) q1082 ?_
      obtain ⟨q1083, h⟩ := h
      obtain ⟨q1084, h⟩ := h
      refine go_scrld (show decode code 1957 = .ok (.iaload, 1) by decide +kernel) rfl q1083 q1084 ?_
      obtain ⟨q1085, h⟩ := h
      obtain ⟨q1090, h⟩ := h
      refine go_callV (d2 := d - 1) (M2 := MX9_line) (n := 3) (ci := 9) (av := [vI (sx S (a3 + 1)), vI (sx S (a3 + 2)), vI (sx S (a3 + 3))]) (st := []) (show decode code 1958 = .ok (.invokevirtual 139, 3) by decide +kernel) ml_L_139 mt_X9_line min_X9_line mse_X9_line (by decide) q1090 rfl (Nat.le_of_ble_eq_true rfl) (by omega) (ok_mono h (fun w1086 S1087 F1088 G1089 h => ?_))
      obtain ⟨z1091, e9, h⟩ := h
      subst e9
      show Go d Mlaw 1961 [some (vR a0), some (vR a1), some (vR a2), some (vI a3)] [vJ z1091] S1087 F1088 G1089 Q
      refine go_aload_n (show decode code 1961 = .ok (.aload_n 2, 1) by decide +kernel) (by rfl) ?_
      refine go_aload_n (show decode code 1962 = .ok (.aload_n 0, 1) by decide +kernel) (by rfl) ?_
      refine go_iload_n (show decode code 1963 = .ok (.iload_n 3, 1) by decide +kernel) (by rfl) ?_
      refine go_iconst (show decode code 1964 = .ok (.iconst 1, 1) by decide +kernel) (by decide) ?_
      obtain ⟨q1092, h⟩ := h
      refine go_iadd (show decode code 1965 = .ok (.iadd, 1) by decide +kernel) q1092 ?_
      obtain ⟨q1093, h⟩ := h
      obtain ⟨q1094, h⟩ := h
      refine go_scrld (show decode code 1966 = .ok (.iaload, 1) by decide +kernel) rfl q1093 q1094 ?_
      refine go_aload_n (show decode code 1967 = .ok (.aload_n 0, 1) by decide +kernel) (by rfl) ?_
      refine go_iload_n (show decode code 1968 = .ok (.iload_n 3, 1) by decide +kernel) (by rfl) ?_
      refine go_iconst (show decode code 1969 = .ok (.iconst 2, 1) by decide +kernel) (by decide) ?_
      obtain ⟨q1095, h⟩ := h
      refine go_iadd (show decode code 1970 = .ok (.iadd, 1) by decide +kernel) q1095 ?_
      obtain ⟨q1096, h⟩ := h
      obtain ⟨q1097, h⟩ := h
      refine go_scrld (show decode code 1971 = .ok (.iaload, 1) by decide +kernel) rfl q1096 q1097 ?_
      refine go_aload_n (show decode code 1972 = .ok (.aload_n 0, 1) by decide +kernel) (by rfl) ?_
      refine go_iload_n (show decode code 1973 = .ok (.iload_n 3, 1) by decide +kernel) (by rfl) ?_
      refine go_iconst (show decode code 1974 = .ok (.iconst 3, 1) by decide +kernel) (by decide) ?_
      obtain ⟨q1098, h⟩ := h
      refine go_iadd (show decode code 1975 = .ok (.iadd, 1) by decide +kernel) q1098 ?_
      obtain ⟨q1099, h⟩ := h
      obtain ⟨q1100, h⟩ := h
      refine go_scrld (show decode code 1976 = .ok (.iaload, 1) by decide +kernel) rfl q1099 q1100 ?_
      obtain ⟨q1105, h⟩ := h
      refine go_callV (d2 := d - 1) (M2 := MX10_line) (n := 3) (ci := 10) (av := [vI (sx S1087 (a3 + 1)), vI (sx S1087 (a3 + 2)), vI (sx S1087 (a3 + 3))]) (st := [vJ z1091]) (show decode code 1977 = .ok (.invokevirtual 142, 3) by decide +kernel) ml_L_142 mt_X10_line min_X10_line mse_X10_line (by decide) q1105 rfl (Nat.le_of_ble_eq_true rfl) (by omega) (ok_mono h (fun w1101 S1102 F1103 G1104 h => ?_))
      obtain ⟨z1106, e9, h⟩ := h
      subst e9
      show Go d Mlaw 1980 [some (vR a0), some (vR a1), some (vR a2), some (vI a3)] [vJ z1106, vJ z1091] S1102 F1103 G1104 Q
      obtain ⟨ht, hf⟩ := h
      refine go_jeq (tgt := 2110) (show decode code 1980 = .ok (.lcmp, 1) by decide +kernel) (show decode code 1981 = .ok (.ifCond .eq 129, 3) by decide +kernel) (by decide) (fun hc => ?_) (fun hc => ?_)
      · have h := ht hc
        exact R_law_2110 h
      · have h := hf hc
        refine go_iconst (show decode code 1984 = .ok (.iconst 0, 1) by decide +kernel) (by decide) ?_
        exact go_zret (show decode code 1985 = .ok (.ireturn, 1) by decide +kernel) rfl (by decide) h
    by_cases hc29 : bAnd (sx S a3) 63 = 29
    · have h := h_29 hc29
      refine go_swIn (tgt := 1986) (show decode code 33 = .ok (.tableswitch 2077 0 32 #[147, 221, 297, 405, 493, 557, 665, 699, 712, 725, 738, 801, 824, 847, 911, 955, 1031, 1085, 1161, 1269, 1377, 1401, 1477, 1551, 1659, 1767, 1821, 1855, 1909, 1953, 1986, 2019, 2053], 147) by decide +kernel) (by omega) (by omega) (by rw [hc29]; rfl) (by decide) ?_
      refine go_aload_n (show decode code 1986 = .ok (.aload_n 1, 1) by decide +kernel) (by rfl) ?_
      refine go_aload_n (show decode code 1987 = .ok (.aload_n 0, 1) by decide +kernel) (by rfl) ?_
      refine go_iload_n (show decode code 1988 = .ok (.iload_n 3, 1) by decide +kernel) (by rfl) ?_
      refine go_iconst (show decode code 1989 = .ok (.iconst 1, 1) by decide +kernel) (by decide) ?_
      obtain ⟨q1107, h⟩ := h
      refine go_iadd (show decode code 1990 = .ok (.iadd, 1) by decide +kernel) q1107 ?_
      obtain ⟨q1108, h⟩ := h
      obtain ⟨q1109, h⟩ := h
      refine go_scrld (show decode code 1991 = .ok (.iaload, 1) by decide +kernel) rfl q1108 q1109 ?_
      refine go_aload_n (show decode code 1992 = .ok (.aload_n 0, 1) by decide +kernel) (by rfl) ?_
      refine go_iload_n (show decode code 1993 = .ok (.iload_n 3, 1) by decide +kernel) (by rfl) ?_
      refine go_iconst (show decode code 1994 = .ok (.iconst 2, 1) by decide +kernel) (by decide) ?_
      obtain ⟨q1110, h⟩ := h
      refine go_iadd (show decode code 1995 = .ok (.iadd, 1) by decide +kernel) q1110 ?_
      obtain ⟨q1111, h⟩ := h
      obtain ⟨q1112, h⟩ := h
      refine go_scrld (show decode code 1996 = .ok (.iaload, 1) by decide +kernel) rfl q1111 q1112 ?_
      obtain ⟨q1113, h⟩ := h
      obtain ⟨q1118, h⟩ := h
      refine go_callV (d2 := d - 1) (M2 := MX9_borders) (n := 2) (ci := 9) (av := [vI (sx S (a3 + 1)), vI (sx S (a3 + 2))]) (st := []) (show decode code 1997 = .ok (.invokevirtual 143, 3) by decide +kernel) ml_L_143 mt_X9_borders min_X9_borders mse_X9_borders (by decide) q1118 rfl (Nat.le_of_ble_eq_true rfl) (by omega) (ok_mono h (fun w1114 S1115 F1116 G1117 h => ?_))
      obtain ⟨z1119, e9, h⟩ := h
      subst e9
      show Go d Mlaw 2000 [some (vR a0), some (vR a1), some (vR a2), some (vI a3)] [vI z1119] S1115 F1116 G1117 Q
      refine go_aload_n (show decode code 2000 = .ok (.aload_n 2, 1) by decide +kernel) (by rfl) ?_
      refine go_aload_n (show decode code 2001 = .ok (.aload_n 0, 1) by decide +kernel) (by rfl) ?_
      refine go_iload_n (show decode code 2002 = .ok (.iload_n 3, 1) by decide +kernel) (by rfl) ?_
      refine go_iconst (show decode code 2003 = .ok (.iconst 1, 1) by decide +kernel) (by decide) ?_
      obtain ⟨q1120, h⟩ := h
      refine go_iadd (show decode code 2004 = .ok (.iadd, 1) by decide +kernel) q1120 ?_
      obtain ⟨q1121, h⟩ := h
      obtain ⟨q1122, h⟩ := h
      refine go_scrld (show decode code 2005 = .ok (.iaload, 1) by decide +kernel) rfl q1121 q1122 ?_
      refine go_aload_n (show decode code 2006 = .ok (.aload_n 0, 1) by decide +kernel) (by rfl) ?_
      refine go_iload_n (show decode code 2007 = .ok (.iload_n 3, 1) by decide +kernel) (by rfl) ?_
      refine go_iconst (show decode code 2008 = .ok (.iconst 2, 1) by decide +kernel) (by decide) ?_
      obtain ⟨q1123, h⟩ := h
      refine go_iadd (show decode code 2009 = .ok (.iadd, 1) by decide +kernel) q1123 ?_
      obtain ⟨q1124, h⟩ := h
      obtain ⟨q1125, h⟩ := h
      refine go_scrld (show decode code 2010 = .ok (.iaload, 1) by decide +kernel) rfl q1124 q1125 ?_
      obtain ⟨q1130, h⟩ := h
      refine go_callV (d2 := d - 1) (M2 := MX10_borders) (n := 2) (ci := 10) (av := [vI (sx S1115 (a3 + 1)), vI (sx S1115 (a3 + 2))]) (st := [vI z1119]) (show decode code 2011 = .ok (.invokevirtual 147, 3) by decide +kernel) ml_L_147 mt_X10_borders min_X10_borders mse_X10_borders (by decide) q1130 rfl (Nat.le_of_ble_eq_true rfl) (by omega) (ok_mono h (fun w1126 S1127 F1128 G1129 h => ?_))
      obtain ⟨z1131, e9, h⟩ := h
      subst e9
      show Go d Mlaw 2014 [some (vR a0), some (vR a1), some (vR a2), some (vI a3)] [vI z1131, vI z1119] S1127 F1128 G1129 Q
      obtain ⟨ht, hf⟩ := h
      refine go_icmpeq (tgt := 2110) (show decode code 2014 = .ok (.if_icmp .eq 96, 3) by decide +kernel) (by decide) (fun hc => ?_) (fun hc => ?_)
      · have h := ht hc
        exact R_law_2110 h
      · have h := hf hc
        refine go_iconst (show decode code 2017 = .ok (.iconst 0, 1) by decide +kernel) (by decide) ?_
        exact go_zret (show decode code 2018 = .ok (.ireturn, 1) by decide +kernel) rfl (by decide) h
    by_cases hc30 : bAnd (sx S a3) 63 = 30
    · have h := h_30 hc30
      refine go_swIn (tgt := 2019) (show decode code 33 = .ok (.tableswitch 2077 0 32 #[147, 221, 297, 405, 493, 557, 665, 699, 712, 725, 738, 801, 824, 847, 911, 955, 1031, 1085, 1161, 1269, 1377, 1401, 1477, 1551, 1659, 1767, 1821, 1855, 1909, 1953, 1986, 2019, 2053], 147) by decide +kernel) (by omega) (by omega) (by rw [hc30]; rfl) (by decide) ?_
      refine go_aload_n (show decode code 2019 = .ok (.aload_n 1, 1) by decide +kernel) (by rfl) ?_
      refine go_aload_n (show decode code 2020 = .ok (.aload_n 0, 1) by decide +kernel) (by rfl) ?_
      refine go_iload_n (show decode code 2021 = .ok (.iload_n 3, 1) by decide +kernel) (by rfl) ?_
      refine go_iconst (show decode code 2022 = .ok (.iconst 1, 1) by decide +kernel) (by decide) ?_
      obtain ⟨q1132, h⟩ := h
      refine go_iadd (show decode code 2023 = .ok (.iadd, 1) by decide +kernel) q1132 ?_
      obtain ⟨q1133, h⟩ := h
      obtain ⟨q1134, h⟩ := h
      refine go_scrld (show decode code 2024 = .ok (.iaload, 1) by decide +kernel) rfl q1133 q1134 ?_
      refine go_aload_n (show decode code 2025 = .ok (.aload_n 0, 1) by decide +kernel) (by rfl) ?_
      refine go_iload_n (show decode code 2026 = .ok (.iload_n 3, 1) by decide +kernel) (by rfl) ?_
      refine go_iconst (show decode code 2027 = .ok (.iconst 2, 1) by decide +kernel) (by decide) ?_
      obtain ⟨q1135, h⟩ := h
      refine go_iadd (show decode code 2028 = .ok (.iadd, 1) by decide +kernel) q1135 ?_
      obtain ⟨q1136, h⟩ := h
      obtain ⟨q1137, h⟩ := h
      refine go_scrld (show decode code 2029 = .ok (.iaload, 1) by decide +kernel) rfl q1136 q1137 ?_
      obtain ⟨q1138, h⟩ := h
      obtain ⟨q1143, h⟩ := h
      refine go_callV (d2 := d - 1) (M2 := MX9_border) (n := 2) (ci := 9) (av := [vI (sx S (a3 + 1)), vI (sx S (a3 + 2))]) (st := []) (show decode code 2030 = .ok (.invokevirtual 148, 3) by decide +kernel) ml_L_148 mt_X9_border min_X9_border mse_X9_border (by decide) q1143 rfl (Nat.le_of_ble_eq_true rfl) (by omega) (ok_mono h (fun w1139 S1140 F1141 G1142 h => ?_))
      obtain ⟨z1144, e9, h⟩ := h
      subst e9
      show Go d Mlaw 2033 [some (vR a0), some (vR a1), some (vR a2), some (vI a3)] [vI z1144] S1140 F1141 G1142 Q
      refine go_aload_n (show decode code 2033 = .ok (.aload_n 2, 1) by decide +kernel) (by rfl) ?_
      refine go_aload_n (show decode code 2034 = .ok (.aload_n 0, 1) by decide +kernel) (by rfl) ?_
      refine go_iload_n (show decode code 2035 = .ok (.iload_n 3, 1) by decide +kernel) (by rfl) ?_
      refine go_iconst (show decode code 2036 = .ok (.iconst 1, 1) by decide +kernel) (by decide) ?_
      obtain ⟨q1145, h⟩ := h
      refine go_iadd (show decode code 2037 = .ok (.iadd, 1) by decide +kernel) q1145 ?_
      obtain ⟨q1146, h⟩ := h
      obtain ⟨q1147, h⟩ := h
      refine go_scrld (show decode code 2038 = .ok (.iaload, 1) by decide +kernel) rfl q1146 q1147 ?_
      refine go_aload_n (show decode code 2039 = .ok (.aload_n 0, 1) by decide +kernel) (by rfl) ?_
      refine go_iload_n (show decode code 2040 = .ok (.iload_n 3, 1) by decide +kernel) (by rfl) ?_
      refine go_iconst (show decode code 2041 = .ok (.iconst 2, 1) by decide +kernel) (by decide) ?_
      obtain ⟨q1148, h⟩ := h
      refine go_iadd (show decode code 2042 = .ok (.iadd, 1) by decide +kernel) q1148 ?_
      obtain ⟨q1149, h⟩ := h
      obtain ⟨q1150, h⟩ := h
      refine go_scrld (show decode code 2043 = .ok (.iaload, 1) by decide +kernel) rfl q1149 q1150 ?_
      obtain ⟨q1155, h⟩ := h
      refine go_callV (d2 := d - 1) (M2 := MX10_border) (n := 2) (ci := 10) (av := [vI (sx S1140 (a3 + 1)), vI (sx S1140 (a3 + 2))]) (st := [vI z1144]) (show decode code 2044 = .ok (.invokevirtual 151, 3) by decide +kernel) ml_L_151 mt_X10_border min_X10_border mse_X10_border (by decide) q1155 rfl (Nat.le_of_ble_eq_true rfl) (by omega) (ok_mono h (fun w1151 S1152 F1153 G1154 h => ?_))
      obtain ⟨z1156, e9, h⟩ := h
      subst e9
      show Go d Mlaw 2047 [some (vR a0), some (vR a1), some (vR a2), some (vI a3)] [vI z1156, vI z1144] S1152 F1153 G1154 Q
      obtain ⟨ht, hf⟩ := h
      refine go_icmpeq (tgt := 2110) (show decode code 2047 = .ok (.if_icmp .eq 63, 3) by decide +kernel) (by decide) (fun hc => ?_) (fun hc => ?_)
      · have h := ht hc
        exact R_law_2110 h
      · have h := hf hc
        refine go_iconst (show decode code 2050 = .ok (.iconst 0, 1) by decide +kernel) (by decide) ?_
        exact go_zret (show decode code 2051 = .ok (.ireturn, 1) by decide +kernel) rfl (by decide) h
    by_cases hc31 : bAnd (sx S a3) 63 = 31
    · have h := h_31 hc31
      refine go_swIn (tgt := 2052) (show decode code 33 = .ok (.tableswitch 2077 0 32 #[147, 221, 297, 405, 493, 557, 665, 699, 712, 725, 738, 801, 824, 847, 911, 955, 1031, 1085, 1161, 1269, 1377, 1401, 1477, 1551, 1659, 1767, 1821, 1855, 1909, 1953, 1986, 2019, 2053], 147) by decide +kernel) (by omega) (by omega) (by rw [hc31]; rfl) (by decide) ?_
      refine go_aload_n (show decode code 2052 = .ok (.aload_n 1, 1) by decide +kernel) (by rfl) ?_
      refine go_aload_n (show decode code 2053 = .ok (.aload_n 0, 1) by decide +kernel) (by rfl) ?_
      refine go_iload_n (show decode code 2054 = .ok (.iload_n 3, 1) by decide +kernel) (by rfl) ?_
      refine go_iconst (show decode code 2055 = .ok (.iconst 1, 1) by decide +kernel) (by decide) ?_
      obtain ⟨q1157, h⟩ := h
      refine go_iadd (show decode code 2056 = .ok (.iadd, 1) by decide +kernel) q1157 ?_
      obtain ⟨q1158, h⟩ := h
      obtain ⟨q1159, h⟩ := h
      refine go_scrld (show decode code 2057 = .ok (.iaload, 1) by decide +kernel) rfl q1158 q1159 ?_
      refine go_aload_n (show decode code 2058 = .ok (.aload_n 0, 1) by decide +kernel) (by rfl) ?_
      refine go_iload_n (show decode code 2059 = .ok (.iload_n 3, 1) by decide +kernel) (by rfl) ?_
      refine go_iconst (show decode code 2060 = .ok (.iconst 2, 1) by decide +kernel) (by decide) ?_
      obtain ⟨q1160, h⟩ := h
      refine go_iadd (show decode code 2061 = .ok (.iadd, 1) by decide +kernel) q1160 ?_
      obtain ⟨q1161, h⟩ := h
      obtain ⟨q1162, h⟩ := h
      refine go_scrld (show decode code 2062 = .ok (.iaload, 1) by decide +kernel) rfl q1161 q1162 ?_
      obtain ⟨q1163, h⟩ := h
      obtain ⟨q1168, h⟩ := h
      refine go_callV (d2 := d - 1) (M2 := MX9_act) (n := 2) (ci := 9) (av := [vI (sx S (a3 + 1)), vI (sx S (a3 + 2))]) (st := []) (show decode code 2063 = .ok (.invokevirtual 152, 3) by decide +kernel) ml_L_152 mt_X9_act min_X9_act mse_X9_act (by decide) q1168 rfl (Nat.le_of_ble_eq_true rfl) (by omega) (ok_mono h (fun w1164 S1165 F1166 G1167 h => ?_))
      obtain ⟨z1169, e9, h⟩ := h
      subst e9
      show Go d Mlaw 2066 [some (vR a0), some (vR a1), some (vR a2), some (vI a3)] [vJ z1169] S1165 F1166 G1167 Q
      refine go_aload_n (show decode code 2066 = .ok (.aload_n 2, 1) by decide +kernel) (by rfl) ?_
      refine go_aload_n (show decode code 2067 = .ok (.aload_n 0, 1) by decide +kernel) (by rfl) ?_
      refine go_iload_n (show decode code 2068 = .ok (.iload_n 3, 1) by decide +kernel) (by rfl) ?_
      refine go_iconst (show decode code 2069 = .ok (.iconst 1, 1) by decide +kernel) (by decide) ?_
      obtain ⟨q1170, h⟩ := h
      refine go_iadd (show decode code 2070 = .ok (.iadd, 1) by decide +kernel) q1170 ?_
      obtain ⟨q1171, h⟩ := h
      obtain ⟨q1172, h⟩ := h
      refine go_scrld (show decode code 2071 = .ok (.iaload, 1) by decide +kernel) rfl q1171 q1172 ?_
      refine go_aload_n (show decode code 2072 = .ok (.aload_n 0, 1) by decide +kernel) (by rfl) ?_
      refine go_iload_n (show decode code 2073 = .ok (.iload_n 3, 1) by decide +kernel) (by rfl) ?_
      refine go_iconst (show decode code 2074 = .ok (.iconst 2, 1) by decide +kernel) (by decide) ?_
      obtain ⟨q1173, h⟩ := h
      refine go_iadd (show decode code 2075 = .ok (.iadd, 1) by decide +kernel) q1173 ?_
      obtain ⟨q1174, h⟩ := h
      obtain ⟨q1175, h⟩ := h
      refine go_scrld (show decode code 2076 = .ok (.iaload, 1) by decide +kernel) rfl q1174 q1175 ?_
      obtain ⟨q1180, h⟩ := h
      refine go_callV (d2 := d - 1) (M2 := MX10_act) (n := 2) (ci := 10) (av := [vI (sx S1165 (a3 + 1)), vI (sx S1165 (a3 + 2))]) (st := [vJ z1169]) (show decode code 2077 = .ok (.invokevirtual 155, 3) by decide +kernel) ml_L_155 mt_X10_act min_X10_act mse_X10_act (by decide) q1180 rfl (Nat.le_of_ble_eq_true rfl) (by omega) (ok_mono h (fun w1176 S1177 F1178 G1179 h => ?_))
      obtain ⟨z1181, e9, h⟩ := h
      subst e9
      show Go d Mlaw 2080 [some (vR a0), some (vR a1), some (vR a2), some (vI a3)] [vJ z1181, vJ z1169] S1177 F1178 G1179 Q
      obtain ⟨ht, hf⟩ := h
      refine go_jeq (tgt := 2110) (show decode code 2080 = .ok (.lcmp, 1) by decide +kernel) (show decode code 2081 = .ok (.ifCond .eq 29, 3) by decide +kernel) (by decide) (fun hc => ?_) (fun hc => ?_)
      · have h := ht hc
        exact R_law_2110 h
      · have h := hf hc
        refine go_iconst (show decode code 2084 = .ok (.iconst 0, 1) by decide +kernel) (by decide) ?_
        exact go_zret (show decode code 2085 = .ok (.ireturn, 1) by decide +kernel) rfl (by decide) h
    by_cases hc32 : bAnd (sx S a3) 63 = 32
    · have h := h_32 hc32
      refine go_swIn (tgt := 2086) (show decode code 33 = .ok (.tableswitch 2077 0 32 #[147, 221, 297, 405, 493, 557, 665, 699, 712, 725, 738, 801, 824, 847, 911, 955, 1031, 1085, 1161, 1269, 1377, 1401, 1477, 1551, 1659, 1767, 1821, 1855, 1909, 1953, 1986, 2019, 2053], 147) by decide +kernel) (by omega) (by omega) (by rw [hc32]; rfl) (by decide) ?_
      refine go_aload_n (show decode code 2086 = .ok (.aload_n 1, 1) by decide +kernel) (by rfl) ?_
      refine go_aload_n (show decode code 2087 = .ok (.aload_n 0, 1) by decide +kernel) (by rfl) ?_
      refine go_iload_n (show decode code 2088 = .ok (.iload_n 3, 1) by decide +kernel) (by rfl) ?_
      refine go_iconst (show decode code 2089 = .ok (.iconst 1, 1) by decide +kernel) (by decide) ?_
      obtain ⟨q1182, h⟩ := h
      refine go_iadd (show decode code 2090 = .ok (.iadd, 1) by decide +kernel) q1182 ?_
      obtain ⟨q1183, h⟩ := h
      obtain ⟨q1184, h⟩ := h
      refine go_scrld (show decode code 2091 = .ok (.iaload, 1) by decide +kernel) rfl q1183 q1184 ?_
      obtain ⟨q1185, h⟩ := h
      obtain ⟨q1190, h⟩ := h
      refine go_callV (d2 := d - 1) (M2 := MX9_count) (n := 1) (ci := 9) (av := [vI (sx S (a3 + 1))]) (st := []) (show decode code 2092 = .ok (.invokevirtual 156, 3) by decide +kernel) ml_L_156 mt_X9_count min_X9_count mse_X9_count (by decide) q1190 rfl (Nat.le_of_ble_eq_true rfl) (by omega) (ok_mono h (fun w1186 S1187 F1188 G1189 h => ?_))
      obtain ⟨z1191, e9, h⟩ := h
      subst e9
      show Go d Mlaw 2095 [some (vR a0), some (vR a1), some (vR a2), some (vI a3)] [vJ z1191] S1187 F1188 G1189 Q
      refine go_aload_n (show decode code 2095 = .ok (.aload_n 2, 1) by decide +kernel) (by rfl) ?_
      refine go_aload_n (show decode code 2096 = .ok (.aload_n 0, 1) by decide +kernel) (by rfl) ?_
      refine go_iload_n (show decode code 2097 = .ok (.iload_n 3, 1) by decide +kernel) (by rfl) ?_
      refine go_iconst (show decode code 2098 = .ok (.iconst 1, 1) by decide +kernel) (by decide) ?_
      obtain ⟨q1192, h⟩ := h
      refine go_iadd (show decode code 2099 = .ok (.iadd, 1) by decide +kernel) q1192 ?_
      obtain ⟨q1193, h⟩ := h
      obtain ⟨q1194, h⟩ := h
      refine go_scrld (show decode code 2100 = .ok (.iaload, 1) by decide +kernel) rfl q1193 q1194 ?_
      obtain ⟨q1199, h⟩ := h
      refine go_callV (d2 := d - 1) (M2 := MX10_count) (n := 1) (ci := 10) (av := [vI (sx S1187 (a3 + 1))]) (st := [vJ z1191]) (show decode code 2101 = .ok (.invokevirtual 159, 3) by decide +kernel) ml_L_159 mt_X10_count min_X10_count mse_X10_count (by decide) q1199 rfl (Nat.le_of_ble_eq_true rfl) (by omega) (ok_mono h (fun w1195 S1196 F1197 G1198 h => ?_))
      obtain ⟨z1200, e9, h⟩ := h
      subst e9
      show Go d Mlaw 2104 [some (vR a0), some (vR a1), some (vR a2), some (vI a3)] [vJ z1200, vJ z1191] S1196 F1197 G1198 Q
      obtain ⟨ht, hf⟩ := h
      refine go_jeq (tgt := 2110) (show decode code 2104 = .ok (.lcmp, 1) by decide +kernel) (show decode code 2105 = .ok (.ifCond .eq 5, 3) by decide +kernel) (by decide) (fun hc => ?_) (fun hc => ?_)
      · have h := ht hc
        exact R_law_2110 h
      · have h := hf hc
        refine go_iconst (show decode code 2108 = .ok (.iconst 0, 1) by decide +kernel) (by decide) ?_
        exact go_zret (show decode code 2109 = .ok (.ireturn, 1) by decide +kernel) rfl (by decide) h
    exact absurd hd9 (by omega)
set_option maxRecDepth 50000 in
def V_law_0 (d : Nat) (S : AS) (F : AF) (G : AG) (Q : AQ) (a0 : Nat) : Prop :=
  (sn S < 999998) ∧
  ∀ x2 : Nat, x2 = sn S + 1 →
  ∀ S3 : AS, S3 = na S 9 0 7 →
  ∀ F4 : AF, F4 = nF S F →
  ∀ G5 : AG, G5 = nG S G →
  (1 ≤ d) ∧
  (1 ≤ x2) ∧
  Ok (d - 1) MX9_init [vR x2] S3 F4 G5 (fun w7 S8 F9 G10 =>
  w7 = none ∧
  (sn S8 < 999998) ∧
  ∀ x13 : Nat, x13 = sn S8 + 1 →
  ∀ S14 : AS, S14 = na S8 10 0 51 →
  ∀ F15 : AF, F15 = nF S8 F9 →
  ∀ G16 : AG, G16 = nG S8 G10 →
  (1 ≤ d) ∧
  (1 ≤ x13) ∧
  Ok (d - 1) MX10_init [vR x13] S14 F15 G16 (fun w18 S19 F20 G21 =>
  w18 = none ∧
  Go d Mlaw 18 [some (vR a0), some (vR x2), some (vR x13), some (vI 0)] [] S19 F20 G21 Q))
set_option maxRecDepth 50000 in
theorem R_law_0 {d : Nat} {S : AS} {F : AF} {G : AG} {Q : AQ} {a0 : Nat} (h : V_law_0 d S F G Q a0) : Go d Mlaw 0 [some (vR a0), none, none, none] [] S F G Q := by
  unfold V_law_0 at h
  obtain ⟨q1, h⟩ := h
  refine go_new (show decode code 0 = .ok (.new 7, 3) by decide +kernel) (by decide) cl_L_7 ci_9 cz_9 q1 ?_
  show Go d Mlaw 3 [some (vR a0), none, none, none] [vR (sn S + 1)] (na S 9 0 7) (nF S F) (nG S G) Q
  obtain ⟨x2, x2e⟩ : ∃ x2 : Nat, x2 = sn S + 1 := ⟨_, rfl⟩
  have h := h x2 x2e
  rw [← x2e]
  obtain ⟨S3, S3e⟩ : ∃ S3 : AS, S3 = na S 9 0 7 := ⟨_, rfl⟩
  have h := h S3 S3e
  rw [← S3e]
  obtain ⟨F4, F4e⟩ : ∃ F4 : AF, F4 = nF S F := ⟨_, rfl⟩
  have h := h F4 F4e
  rw [← F4e]
  obtain ⟨G5, G5e⟩ : ∃ G5 : AG, G5 = nG S G := ⟨_, rfl⟩
  have h := h G5 G5e
  rw [← G5e]
  refine go_dup (show decode code 3 = .ok (.dup, 1) by decide +kernel) ?_
  obtain ⟨q6, h⟩ := h
  obtain ⟨q11, h⟩ := h
  refine go_callI (d2 := d - 1) (M2 := MX9_init) (n := 0) (av := []) (st := [vR x2]) (show decode code 4 = .ok (.invokespecial 9, 3) by decide +kernel) ml_L_9 mt_X9_init rfl rfl min_X9_init q11 rfl (Nat.le_of_ble_eq_true rfl) (by omega) (ok_mono h (fun w7 S8 F9 G10 h => ?_))
  obtain ⟨e9, h⟩ := h
  subst e9
  show Go d Mlaw 7 [some (vR a0), none, none, none] [vR x2] S8 F9 G10 Q
  refine go_astore_n (show decode code 7 = .ok (.astore_n 1, 1) by decide +kernel) (by decide) ?_
  show Go d Mlaw 8 [some (vR a0), some (vR x2), none, none] [] S8 F9 G10 Q
  obtain ⟨q12, h⟩ := h
  refine go_new (show decode code 8 = .ok (.new 10, 3) by decide +kernel) (by decide) cl_L_10 ci_10 cz_10 q12 ?_
  show Go d Mlaw 11 [some (vR a0), some (vR x2), none, none] [vR (sn S8 + 1)] (na S8 10 0 51) (nF S8 F9) (nG S8 G10) Q
  obtain ⟨x13, x13e⟩ : ∃ x13 : Nat, x13 = sn S8 + 1 := ⟨_, rfl⟩
  have h := h x13 x13e
  rw [← x13e]
  obtain ⟨S14, S14e⟩ : ∃ S14 : AS, S14 = na S8 10 0 51 := ⟨_, rfl⟩
  have h := h S14 S14e
  rw [← S14e]
  obtain ⟨F15, F15e⟩ : ∃ F15 : AF, F15 = nF S8 F9 := ⟨_, rfl⟩
  have h := h F15 F15e
  rw [← F15e]
  obtain ⟨G16, G16e⟩ : ∃ G16 : AG, G16 = nG S8 G10 := ⟨_, rfl⟩
  have h := h G16 G16e
  rw [← G16e]
  refine go_dup (show decode code 11 = .ok (.dup, 1) by decide +kernel) ?_
  obtain ⟨q17, h⟩ := h
  obtain ⟨q22, h⟩ := h
  refine go_callI (d2 := d - 1) (M2 := MX10_init) (n := 0) (av := []) (st := [vR x13]) (show decode code 12 = .ok (.invokespecial 12, 3) by decide +kernel) ml_L_12 mt_X10_init rfl rfl min_X10_init q22 rfl (Nat.le_of_ble_eq_true rfl) (by omega) (ok_mono h (fun w18 S19 F20 G21 h => ?_))
  obtain ⟨e9, h⟩ := h
  subst e9
  show Go d Mlaw 15 [some (vR a0), some (vR x2), none, none] [vR x13] S19 F20 G21 Q
  refine go_astore_n (show decode code 15 = .ok (.astore_n 2, 1) by decide +kernel) (by decide) ?_
  show Go d Mlaw 16 [some (vR a0), some (vR x2), some (vR x13), none] [] S19 F20 G21 Q
  refine go_iconst (show decode code 16 = .ok (.iconst 0, 1) by decide +kernel) (by decide) ?_
  refine go_istore_n (show decode code 17 = .ok (.istore_n 3, 1) by decide +kernel) (by decide) ?_
  show Go d Mlaw 18 [some (vR a0), some (vR x2), some (vR x13), some (vI 0)] [] S19 F20 G21 Q
  exact h
