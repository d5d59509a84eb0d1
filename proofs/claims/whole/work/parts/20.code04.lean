def V_X9_level_259 (d : Nat) (S : AS) (F : AF) (G : AG) (Q : AQ) (a1 : Int) (a2 : Int) (a3 : Int) (a4 : Int) (a5 : Int) (a6 : Int) (a8 : Int) (a10 : Int) (a12 : Int) (a14 : Int) (a16 : Int) (a17 : Int) : Prop :=
  (1 ≤ d) ∧
  ∃ z6 : Int, Pu (d - 1) MX2_trialRefusal [vR 2, vI a1] S F G (some (vI z6)) ∧
  ((z6 = 0) →
    Ok (d - 1) MX9_keep [vR 1, vI 3, vI a1, vJ a6] S F G (fun w8 S9 F10 G11 =>
    S9 = S ∧
    w8 = none ∧
    Q (some (vJ a12)) S F10 G11)) ∧
  ((¬ z6 = 0) →
    Q (some (vJ z6)) S F G)
theorem R_X9_level_259 {d : Nat} {S : AS} {F : AF} {G : AG} {Q : AQ} {a1 : Int} {a2 : Int} {a3 : Int} {a4 : Int} {a5 : Int} {a6 : Int} {a8 : Int} {a10 : Int} {a12 : Int} {a14 : Int} {a16 : Int} {a17 : Int} (hsh : ShC S) (h : V_X9_level_259 d S F G Q a1 a2 a3 a4 a5 a6 a8 a10 a12 a14 a16 a17) : Go d MX9_level 259 [some (vR 1), some (vI a1), some (vI a2), some (vI a3), some (vI a4), some (vI a5), some (vJ a6), none, some (vJ a8), none, some (vJ a10), none, some (vJ a12), none, some (vJ a14), none, some (vI a16), some (vI a17), none] [] S F G Q := by
  unfold V_X9_level_259 at h
  refine go_aload_n (show decode cX9_level 259 = .ok (.aload_n 0, 1) by decide +kernel) (by rfl) ?_
  refine go_getRc (show decode cX9_level 260 = .ok (.getfield 20, 3) by decide +kernel) fl_X9_20 rfl (shc_k hsh 1 (by decide) (by decide)) (v := 2) (shc_r hsh 1 1 (by decide) (by decide) (by decide)) ?_
  refine go_iload_n (show decode cX9_level 263 = .ok (.iload_n 1, 1) by decide +kernel) (by rfl) ?_
  obtain ⟨q1, h⟩ := h
  obtain ⟨z6, p7, h⟩ := h
  refine go_callV (d2 := d - 1) (M2 := MX2_trialRefusal) (n := 1) (ci := 2) (av := [vI a1]) (st := []) (show decode cX9_level 264 = .ok (.invokevirtual 170, 3) by decide +kernel) ml_X9_170 mt_X2_trialRefusal min_X2_trialRefusal mse_X2_trialRefusal (by decide) (shc_k hsh 2 (by decide) (by decide)) rfl (Nat.le_of_ble_eq_true rfl) (by omega) (ok_mono p7 (fun w2 S3 F4 G5 e9 => ?_))
  obtain ⟨e1, e2, e3, e4⟩ := e9
  subst e1
  replace e2 := e2.symm; subst e2
  replace e3 := e3.symm; subst e3
  replace e4 := e4.symm; subst e4
  show Go d MX9_level 267 [some (vR 1), some (vI a1), some (vI a2), some (vI a3), some (vI a4), some (vI a5), some (vJ a6), none, some (vJ a8), none, some (vJ a10), none, some (vJ a12), none, some (vJ a14), none, some (vI a16), some (vI a17), none] [vI z6] S F G Q
  refine go_istore (show decode cX9_level 267 = .ok (.istore 18, 2) by decide +kernel) (by decide) ?_
  show Go d MX9_level 269 [some (vR 1), some (vI a1), some (vI a2), some (vI a3), some (vI a4), some (vI a5), some (vJ a6), none, some (vJ a8), none, some (vJ a10), none, some (vJ a12), none, some (vJ a14), none, some (vI a16), some (vI a17), some (vI z6)] [] S F G Q
  refine go_iload (show decode cX9_level 269 = .ok (.iload 18, 2) by decide +kernel) (by rfl) ?_
  obtain ⟨ht, hf⟩ := h
  refine go_ifeq (tgt := 278) (show decode cX9_level 271 = .ok (.ifCond .eq 7, 3) by decide +kernel) (by decide) (fun hc => ?_) (fun hc => ?_)
  · have h := ht hc
    refine go_aload_n (show decode cX9_level 278 = .ok (.aload_n 0, 1) by decide +kernel) (by rfl) ?_
    refine go_iconst (show decode cX9_level 279 = .ok (.iconst 3, 1) by decide +kernel) (by decide) ?_
    refine go_iload_n (show decode cX9_level 280 = .ok (.iload_n 1, 1) by decide +kernel) (by rfl) ?_
    refine go_lload (show decode cX9_level 281 = .ok (.lload 6, 2) by decide +kernel) (by rfl) ?_
    refine go_callV (d2 := d - 1) (M2 := MX9_keep) (n := 3) (ci := 9) (av := [vI 3, vI a1, vJ a6]) (st := []) (show decode cX9_level 283 = .ok (.invokevirtual 98, 3) by decide +kernel) ml_X9_98 mt_X9_keep min_X9_keep mse_X9_keep (by decide) (shc_k hsh 1 (by decide) (by decide)) rfl (Nat.le_of_ble_eq_true rfl) (by omega) (ok_mono h (fun w8 S9 F10 G11 h => ?_))
    obtain ⟨e8, h⟩ := h
    replace e8 := e8.symm; subst e8
    obtain ⟨e9, h⟩ := h
    subst e9
    show Go d MX9_level 286 [some (vR 1), some (vI a1), some (vI a2), some (vI a3), some (vI a4), some (vI a5), some (vJ a6), none, some (vJ a8), none, some (vJ a10), none, some (vJ a12), none, some (vJ a14), none, some (vI a16), some (vI a17), some (vI z6)] [] S F10 G11 Q
    refine go_lload (show decode cX9_level 286 = .ok (.lload 12, 2) by decide +kernel) (by rfl) ?_
    exact go_lret (show decode cX9_level 288 = .ok (.lreturn, 1) by decide +kernel) rfl h
  · have h := hf hc
    refine go_iload (show decode cX9_level 274 = .ok (.iload 18, 2) by decide +kernel) (by rfl) ?_
    refine go_i2l (show decode cX9_level 276 = .ok (.i2l, 1) by decide +kernel) ?_
    exact go_lret (show decode cX9_level 277 = .ok (.lreturn, 1) by decide +kernel) rfl h
def V_X9_level_178 (d : Nat) (S : AS) (F : AF) (G : AG) (Q : AQ) (a1 : Int) (a2 : Int) (a3 : Int) (a4 : Int) (a5 : Int) (a6 : Int) (a8 : Int) (a10 : Int) (a12 : Int) (a14 : Int) (a16 : Int) (a17 : Int) : Prop :=
  (1 ≤ d) ∧
  ∃ z6 : Int, Pu (d - 1) MX2_plansTooMany [vR 2] S F G (some (vI z6)) ∧
  ((z6 = 0) →
    Ok (d - 1) MX2_startTrial [vR 2, vI a1] S F G (fun w8 S9 F10 G11 =>
    S9 = S ∧
    w8 = none ∧
    Ok (d - 1) MX2_fill [vR 2, vI a2, vI a3, vI a4, vI a5, vJ a12] S F10 G11 (fun w12 S13 F14 G15 =>
    S13 = S ∧
    w12 = none ∧
    ((a14 ≤ 0) →
      V_X9_level_259 d S F14 G15 Q a1 a2 a3 a4 a5 a6 a8 a10 a12 a14 a16 a17) ∧
    ((¬ a14 ≤ 0) →
      (r32 (a17 - 1)) ∧
      (r64 (a12 + 1)) ∧
      Ok (d - 1) MX2_fill [vR 2, vI a2, vI a3, vI a4, vI (a17 - 1), vJ (a12 + 1)] S F14 G15 (fun w18 S19 F20 G21 =>
      S19 = S ∧
      w18 = none ∧
      Ok (d - 1) MX2_fill [vR 2, vI a2, vI a17, vI a16, vI a17, vJ (a12 + 1)] S F20 G21 (fun w22 S23 F24 G25 =>
      S23 = S ∧
      w22 = none ∧
      V_X9_level_259 d S F24 G25 Q a1 a2 a3 a4 a5 a6 a8 a10 a12 a14 a16 a17)))))) ∧
  ((¬ z6 = 0) →
    Q (some (vJ (-4))) S F G)
theorem R_X9_level_178 {d : Nat} {S : AS} {F : AF} {G : AG} {Q : AQ} {a1 : Int} {a2 : Int} {a3 : Int} {a4 : Int} {a5 : Int} {a6 : Int} {a8 : Int} {a10 : Int} {a12 : Int} {a14 : Int} {a16 : Int} {a17 : Int} (hsh : ShC S) (h : V_X9_level_178 d S F G Q a1 a2 a3 a4 a5 a6 a8 a10 a12 a14 a16 a17) : Go d MX9_level 178 [some (vR 1), some (vI a1), some (vI a2), some (vI a3), some (vI a4), some (vI a5), some (vJ a6), none, some (vJ a8), none, some (vJ a10), none, some (vJ a12), none, some (vJ a14), none, some (vI a16), some (vI a17), none] [] S F G Q := by
  unfold V_X9_level_178 at h
  refine go_aload_n (show decode cX9_level 178 = .ok (.aload_n 0, 1) by decide +kernel) (by rfl) ?_
  refine go_getRc (show decode cX9_level 179 = .ok (.getfield 20, 3) by decide +kernel) fl_X9_20 rfl (shc_k hsh 1 (by decide) (by decide)) (v := 2) (shc_r hsh 1 1 (by decide) (by decide) (by decide)) ?_
  obtain ⟨q1, h⟩ := h
  obtain ⟨z6, p7, h⟩ := h
  refine go_callV (d2 := d - 1) (M2 := MX2_plansTooMany) (n := 0) (ci := 2) (av := []) (st := []) (show decode cX9_level 182 = .ok (.invokevirtual 84, 3) by decide +kernel) ml_X9_84 mt_X2_plansTooMany min_X2_plansTooMany mse_X2_plansTooMany (by decide) (shc_k hsh 2 (by decide) (by decide)) rfl (Nat.le_of_ble_eq_true rfl) (by omega) (ok_mono p7 (fun w2 S3 F4 G5 e9 => ?_))
  obtain ⟨e1, e2, e3, e4⟩ := e9
  subst e1
  replace e2 := e2.symm; subst e2
  replace e3 := e3.symm; subst e3
  replace e4 := e4.symm; subst e4
  show Go d MX9_level 185 [some (vR 1), some (vI a1), some (vI a2), some (vI a3), some (vI a4), some (vI a5), some (vJ a6), none, some (vJ a8), none, some (vJ a10), none, some (vJ a12), none, some (vJ a14), none, some (vI a16), some (vI a17), none] [vI z6] S F G Q
  obtain ⟨ht, hf⟩ := h
  refine go_ifeq (tgt := 192) (show decode cX9_level 185 = .ok (.ifCond .eq 7, 3) by decide +kernel) (by decide) (fun hc => ?_) (fun hc => ?_)
  · have h := ht hc
    refine go_aload_n (show decode cX9_level 192 = .ok (.aload_n 0, 1) by decide +kernel) (by rfl) ?_
    refine go_getRc (show decode cX9_level 193 = .ok (.getfield 20, 3) by decide +kernel) fl_X9_20 rfl (shc_k hsh 1 (by decide) (by decide)) (v := 2) (shc_r hsh 1 1 (by decide) (by decide) (by decide)) ?_
    refine go_iload_n (show decode cX9_level 196 = .ok (.iload_n 1, 1) by decide +kernel) (by rfl) ?_
    refine go_callV (d2 := d - 1) (M2 := MX2_startTrial) (n := 1) (ci := 2) (av := [vI a1]) (st := []) (show decode cX9_level 197 = .ok (.invokevirtual 90, 3) by decide +kernel) ml_X9_90 mt_X2_startTrial min_X2_startTrial mse_X2_startTrial (by decide) (shc_k hsh 2 (by decide) (by decide)) rfl (Nat.le_of_ble_eq_true rfl) (by omega) (ok_mono h (fun w8 S9 F10 G11 h => ?_))
    obtain ⟨e8, h⟩ := h
    replace e8 := e8.symm; subst e8
    obtain ⟨e9, h⟩ := h
    subst e9
    show Go d MX9_level 200 [some (vR 1), some (vI a1), some (vI a2), some (vI a3), some (vI a4), some (vI a5), some (vJ a6), none, some (vJ a8), none, some (vJ a10), none, some (vJ a12), none, some (vJ a14), none, some (vI a16), some (vI a17), none] [] S F10 G11 Q
    refine go_aload_n (show decode cX9_level 200 = .ok (.aload_n 0, 1) by decide +kernel) (by rfl) ?_
    refine go_getRc (show decode cX9_level 201 = .ok (.getfield 20, 3) by decide +kernel) fl_X9_20 rfl (shc_k hsh 1 (by decide) (by decide)) (v := 2) (shc_r hsh 1 1 (by decide) (by decide) (by decide)) ?_
    refine go_iload_n (show decode cX9_level 204 = .ok (.iload_n 2, 1) by decide +kernel) (by rfl) ?_
    refine go_iload_n (show decode cX9_level 205 = .ok (.iload_n 3, 1) by decide +kernel) (by rfl) ?_
    refine go_iload (show decode cX9_level 206 = .ok (.iload 4, 2) by decide +kernel) (by rfl) ?_
    refine go_iload (show decode cX9_level 208 = .ok (.iload 5, 2) by decide +kernel) (by rfl) ?_
    refine go_lload (show decode cX9_level 210 = .ok (.lload 12, 2) by decide +kernel) (by rfl) ?_
    refine go_callV (d2 := d - 1) (M2 := MX2_fill) (n := 5) (ci := 2) (av := [vI a2, vI a3, vI a4, vI a5, vJ a12]) (st := []) (show decode cX9_level 212 = .ok (.invokevirtual 133, 3) by decide +kernel) ml_X9_133 mt_X2_fill min_X2_fill mse_X2_fill (by decide) (shc_k hsh 2 (by decide) (by decide)) rfl (Nat.le_of_ble_eq_true rfl) (by omega) (ok_mono h (fun w12 S13 F14 G15 h => ?_))
    obtain ⟨e8, h⟩ := h
    replace e8 := e8.symm; subst e8
    obtain ⟨e9, h⟩ := h
    subst e9
    show Go d MX9_level 215 [some (vR 1), some (vI a1), some (vI a2), some (vI a3), some (vI a4), some (vI a5), some (vJ a6), none, some (vJ a8), none, some (vJ a10), none, some (vJ a12), none, some (vJ a14), none, some (vI a16), some (vI a17), none] [] S F14 G15 Q
    refine go_lload (show decode cX9_level 215 = .ok (.lload 14, 2) by decide +kernel) (by rfl) ?_
    refine go_lconst (n := 0) (show decode cX9_level 217 = .ok (.lconst 0, 1) by decide +kernel) ?_
    show Go d MX9_level 218 [some (vR 1), some (vI a1), some (vI a2), some (vI a3), some (vI a4), some (vI a5), some (vJ a6), none, some (vJ a8), none, some (vJ a10), none, some (vJ a12), none, some (vJ a14), none, some (vI a16), some (vI a17), none] [vJ 0, vJ a14] S F14 G15 Q
    obtain ⟨ht, hf⟩ := h
    refine go_jle (tgt := 259) (show decode cX9_level 218 = .ok (.lcmp, 1) by decide +kernel) (show decode cX9_level 219 = .ok (.ifCond .le 40, 3) by decide +kernel) (by decide) (fun hc => ?_) (fun hc => ?_)
    · have h := ht hc
      exact R_X9_level_259 hsh h
    · have h := hf hc
      refine go_aload_n (show decode cX9_level 222 = .ok (.aload_n 0, 1) by decide +kernel) (by rfl) ?_
      refine go_getRc (show decode cX9_level 223 = .ok (.getfield 20, 3) by decide +kernel) fl_X9_20 rfl (shc_k hsh 1 (by decide) (by decide)) (v := 2) (shc_r hsh 1 1 (by decide) (by decide) (by decide)) ?_
      refine go_iload_n (show decode cX9_level 226 = .ok (.iload_n 2, 1) by decide +kernel) (by rfl) ?_
      refine go_iload_n (show decode cX9_level 227 = .ok (.iload_n 3, 1) by decide +kernel) (by rfl) ?_
      refine go_iload (show decode cX9_level 228 = .ok (.iload 4, 2) by decide +kernel) (by rfl) ?_
      refine go_iload (show decode cX9_level 230 = .ok (.iload 17, 2) by decide +kernel) (by rfl) ?_
      refine go_iconst (show decode cX9_level 232 = .ok (.iconst 1, 1) by decide +kernel) (by decide) ?_
      obtain ⟨q16, h⟩ := h
      refine go_isub (show decode cX9_level 233 = .ok (.isub, 1) by decide +kernel) q16 ?_
      refine go_lload (show decode cX9_level 234 = .ok (.lload 12, 2) by decide +kernel) (by rfl) ?_
      refine go_lconst (n := 1) (show decode cX9_level 236 = .ok (.lconst 1, 1) by decide +kernel) ?_
      show Go d MX9_level 237 [some (vR 1), some (vI a1), some (vI a2), some (vI a3), some (vI a4), some (vI a5), some (vJ a6), none, some (vJ a8), none, some (vJ a10), none, some (vJ a12), none, some (vJ a14), none, some (vI a16), some (vI a17), none] [vJ 1, vJ a12, vI (a17 - 1), vI a4, vI a3, vI a2, vR 2] S F14 G15 Q
      obtain ⟨q17, h⟩ := h
      refine go_ladd (show decode cX9_level 237 = .ok (.ladd, 1) by decide +kernel) q17 ?_
      refine go_callV (d2 := d - 1) (M2 := MX2_fill) (n := 5) (ci := 2) (av := [vI a2, vI a3, vI a4, vI (a17 - 1), vJ (a12 + 1)]) (st := []) (show decode cX9_level 238 = .ok (.invokevirtual 133, 3) by decide +kernel) ml_X9_133 mt_X2_fill min_X2_fill mse_X2_fill (by decide) (shc_k hsh 2 (by decide) (by decide)) rfl (Nat.le_of_ble_eq_true rfl) (by omega) (ok_mono h (fun w18 S19 F20 G21 h => ?_))
      obtain ⟨e8, h⟩ := h
      replace e8 := e8.symm; subst e8
      obtain ⟨e9, h⟩ := h
      subst e9
      show Go d MX9_level 241 [some (vR 1), some (vI a1), some (vI a2), some (vI a3), some (vI a4), some (vI a5), some (vJ a6), none, some (vJ a8), none, some (vJ a10), none, some (vJ a12), none, some (vJ a14), none, some (vI a16), some (vI a17), none] [] S F20 G21 Q
      refine go_aload_n (show decode cX9_level 241 = .ok (.aload_n 0, 1) by decide +kernel) (by rfl) ?_
      refine go_getRc (show decode cX9_level 242 = .ok (.getfield 20, 3) by decide +kernel) fl_X9_20 rfl (shc_k hsh 1 (by decide) (by decide)) (v := 2) (shc_r hsh 1 1 (by decide) (by decide) (by decide)) ?_
      refine go_iload_n (show decode cX9_level 245 = .ok (.iload_n 2, 1) by decide +kernel) (by rfl) ?_
      refine go_iload (show decode cX9_level 246 = .ok (.iload 17, 2) by decide +kernel) (by rfl) ?_
      refine go_iload (show decode cX9_level 248 = .ok (.iload 16, 2) by decide +kernel) (by rfl) ?_
      refine go_iload (show decode cX9_level 250 = .ok (.iload 17, 2) by decide +kernel) (by rfl) ?_
      refine go_lload (show decode cX9_level 252 = .ok (.lload 12, 2) by decide +kernel) (by rfl) ?_
      refine go_lconst (n := 1) (show decode cX9_level 254 = .ok (.lconst 1, 1) by decide +kernel) ?_
      show Go d MX9_level 255 [some (vR 1), some (vI a1), some (vI a2), some (vI a3), some (vI a4), some (vI a5), some (vJ a6), none, some (vJ a8), none, some (vJ a10), none, some (vJ a12), none, some (vJ a14), none, some (vI a16), some (vI a17), none] [vJ 1, vJ a12, vI a17, vI a16, vI a17, vI a2, vR 2] S F20 G21 Q
      refine go_ladd (show decode cX9_level 255 = .ok (.ladd, 1) by decide +kernel) q17 ?_
      refine go_callV (d2 := d - 1) (M2 := MX2_fill) (n := 5) (ci := 2) (av := [vI a2, vI a17, vI a16, vI a17, vJ (a12 + 1)]) (st := []) (show decode cX9_level 256 = .ok (.invokevirtual 133, 3) by decide +kernel) ml_X9_133 mt_X2_fill min_X2_fill mse_X2_fill (by decide) (shc_k hsh 2 (by decide) (by decide)) rfl (Nat.le_of_ble_eq_true rfl) (by omega) (ok_mono h (fun w22 S23 F24 G25 h => ?_))
      obtain ⟨e8, h⟩ := h
      replace e8 := e8.symm; subst e8
      obtain ⟨e9, h⟩ := h
      subst e9
      show Go d MX9_level 259 [some (vR 1), some (vI a1), some (vI a2), some (vI a3), some (vI a4), some (vI a5), some (vJ a6), none, some (vJ a8), none, some (vJ a10), none, some (vJ a12), none, some (vJ a14), none, some (vI a16), some (vI a17), none] [] S F24 G25 Q
      exact R_X9_level_259 hsh h
  · have h := hf hc
    refine go_ldc2 (show decode cX9_level 188 = .ok (.ldc2_w 88, 3) by decide +kernel) lc_X9_88 (by decide) ?_
    exact go_lret (show decode cX9_level 191 = .ok (.lreturn, 1) by decide +kernel) rfl h
def V_X9_level_127 (d : Nat) (S : AS) (F : AF) (G : AG) (Q : AQ) (a1 : Int) (a2 : Int) (a3 : Int) (a4 : Int) (a5 : Int) (a6 : Int) (a8 : Int) (a10 : Int) (a12 : Int) (a14 : Int) (a16 : Int) (s0 : Int) : Prop :=
  (1 ≤ d) ∧
  Ok (d - 1) MX2_plan [vR 2, vR 51] S F G (fun w2 S3 F4 G5 =>
  S3 = S ∧
  w2 = none ∧
  ((a14 ≤ 0) →
    V_X9_level_178 d S F4 G5 Q a1 a2 a3 a4 a5 a6 a8 a10 a12 a14 a16 s0) ∧
  ((¬ a14 ≤ 0) →
    (r32 (a16 + 1)) ∧
    Ok (d - 1) MX1_put [vR 6, vI (a16 + 1)] S F4 G5 (fun w7 S8 F9 G10 =>
    S8 = S ∧
    w7 = none ∧
    Ok (d - 1) MX0_planSpan [vR 10, vI s0, vI s0] S F9 G10 (fun w11 S12 F13 G14 =>
    S12 = S ∧
    w11 = none ∧
    V_X9_level_178 d S F13 G14 Q a1 a2 a3 a4 a5 a6 a8 a10 a12 a14 a16 s0))))
theorem R_X9_level_127 {d : Nat} {S : AS} {F : AF} {G : AG} {Q : AQ} {a1 : Int} {a2 : Int} {a3 : Int} {a4 : Int} {a5 : Int} {a6 : Int} {a8 : Int} {a10 : Int} {a12 : Int} {a14 : Int} {a16 : Int} {s0 : Int} (hsh : ShC S) (h : V_X9_level_127 d S F G Q a1 a2 a3 a4 a5 a6 a8 a10 a12 a14 a16 s0) : Go d MX9_level 127 [some (vR 1), some (vI a1), some (vI a2), some (vI a3), some (vI a4), some (vI a5), some (vJ a6), none, some (vJ a8), none, some (vJ a10), none, some (vJ a12), none, some (vJ a14), none, some (vI a16), none, none] [vI s0] S F G Q := by
  unfold V_X9_level_127 at h
  refine go_istore (show decode cX9_level 127 = .ok (.istore 17, 2) by decide +kernel) (by decide) ?_
  show Go d MX9_level 129 [some (vR 1), some (vI a1), some (vI a2), some (vI a3), some (vI a4), some (vI a5), some (vJ a6), none, some (vJ a8), none, some (vJ a10), none, some (vJ a12), none, some (vJ a14), none, some (vI a16), some (vI s0), none] [] S F G Q
  refine go_aload_n (show decode cX9_level 129 = .ok (.aload_n 0, 1) by decide +kernel) (by rfl) ?_
  refine go_getRc (show decode cX9_level 130 = .ok (.getfield 20, 3) by decide +kernel) fl_X9_20 rfl (shc_k hsh 1 (by decide) (by decide)) (v := 2) (shc_r hsh 1 1 (by decide) (by decide) (by decide)) ?_
  refine go_aload_n (show decode cX9_level 133 = .ok (.aload_n 0, 1) by decide +kernel) (by rfl) ?_
  refine go_getRc (show decode cX9_level 134 = .ok (.getfield 38, 3) by decide +kernel) fl_X9_38 rfl (shc_k hsh 1 (by decide) (by decide)) (v := 51) (shc_r hsh 1 4 (by decide) (by decide) (by decide)) ?_
  obtain ⟨q1, h⟩ := h
  refine go_callV (d2 := d - 1) (M2 := MX2_plan) (n := 1) (ci := 2) (av := [vR 51]) (st := []) (show decode cX9_level 137 = .ok (.invokevirtual 80, 3) by decide +kernel) ml_X9_80 mt_X2_plan min_X2_plan mse_X2_plan (by decide) (shc_k hsh 2 (by decide) (by decide)) rfl (Nat.le_of_ble_eq_true rfl) (by omega) (ok_mono h (fun w2 S3 F4 G5 h => ?_))
  obtain ⟨e8, h⟩ := h
  replace e8 := e8.symm; subst e8
  obtain ⟨e9, h⟩ := h
  subst e9
  show Go d MX9_level 140 [some (vR 1), some (vI a1), some (vI a2), some (vI a3), some (vI a4), some (vI a5), some (vJ a6), none, some (vJ a8), none, some (vJ a10), none, some (vJ a12), none, some (vJ a14), none, some (vI a16), some (vI s0), none] [] S F4 G5 Q
  refine go_lload (show decode cX9_level 140 = .ok (.lload 14, 2) by decide +kernel) (by rfl) ?_
  refine go_lconst (n := 0) (show decode cX9_level 142 = .ok (.lconst 0, 1) by decide +kernel) ?_
  show Go d MX9_level 143 [some (vR 1), some (vI a1), some (vI a2), some (vI a3), some (vI a4), some (vI a5), some (vJ a6), none, some (vJ a8), none, some (vJ a10), none, some (vJ a12), none, some (vJ a14), none, some (vI a16), some (vI s0), none] [vJ 0, vJ a14] S F4 G5 Q
  obtain ⟨ht, hf⟩ := h
  refine go_jle (tgt := 178) (show decode cX9_level 143 = .ok (.lcmp, 1) by decide +kernel) (show decode cX9_level 144 = .ok (.ifCond .le 34, 3) by decide +kernel) (by decide) (fun hc => ?_) (fun hc => ?_)
  · have h := ht hc
    exact R_X9_level_178 hsh h
  · have h := hf hc
    refine go_aload_n (show decode cX9_level 147 = .ok (.aload_n 0, 1) by decide +kernel) (by rfl) ?_
    refine go_getRc (show decode cX9_level 148 = .ok (.getfield 20, 3) by decide +kernel) fl_X9_20 rfl (shc_k hsh 1 (by decide) (by decide)) (v := 2) (shc_r hsh 1 1 (by decide) (by decide) (by decide)) ?_
    refine go_getRc (show decode cX9_level 151 = .ok (.getfield 120, 3) by decide +kernel) fl_X9_120 rfl (shc_k hsh 2 (by decide) (by decide)) (v := 3) (shc_r hsh 2 0 (by decide) (by decide) (by decide)) ?_
    refine go_getRc (show decode cX9_level 154 = .ok (.getfield 189, 3) by decide +kernel) fl_X9_189 rfl (shc_k hsh 3 (by decide) (by decide)) (v := 6) (shc_r hsh 3 1 (by decide) (by decide) (by decide)) ?_
    refine go_iload (show decode cX9_level 157 = .ok (.iload 16, 2) by decide +kernel) (by rfl) ?_
    refine go_iconst (show decode cX9_level 159 = .ok (.iconst 1, 1) by decide +kernel) (by decide) ?_
    obtain ⟨q6, h⟩ := h
    refine go_iadd (show decode cX9_level 160 = .ok (.iadd, 1) by decide +kernel) q6 ?_
    refine go_callV (d2 := d - 1) (M2 := MX1_put) (n := 1) (ci := 1) (av := [vI (a16 + 1)]) (st := []) (show decode cX9_level 161 = .ok (.invokevirtual 193, 3) by decide +kernel) ml_X9_193 mt_X1_put min_X1_put mse_X1_put (by decide) (shc_k hsh 6 (by decide) (by decide)) rfl (Nat.le_of_ble_eq_true rfl) (by omega) (ok_mono h (fun w7 S8 F9 G10 h => ?_))
    obtain ⟨e8, h⟩ := h
    replace e8 := e8.symm; subst e8
    obtain ⟨e9, h⟩ := h
    subst e9
    show Go d MX9_level 164 [some (vR 1), some (vI a1), some (vI a2), some (vI a3), some (vI a4), some (vI a5), some (vJ a6), none, some (vJ a8), none, some (vJ a10), none, some (vJ a12), none, some (vJ a14), none, some (vI a16), some (vI s0), none] [] S F9 G10 Q
    refine go_aload_n (show decode cX9_level 164 = .ok (.aload_n 0, 1) by decide +kernel) (by rfl) ?_
    refine go_getRc (show decode cX9_level 165 = .ok (.getfield 20, 3) by decide +kernel) fl_X9_20 rfl (shc_k hsh 1 (by decide) (by decide)) (v := 2) (shc_r hsh 1 1 (by decide) (by decide) (by decide)) ?_
    refine go_getRc (show decode cX9_level 168 = .ok (.getfield 130, 3) by decide +kernel) fl_X9_130 rfl (shc_k hsh 2 (by decide) (by decide)) (v := 10) (shc_r hsh 2 1 (by decide) (by decide) (by decide)) ?_
    refine go_iload (show decode cX9_level 171 = .ok (.iload 17, 2) by decide +kernel) (by rfl) ?_
    refine go_iload (show decode cX9_level 173 = .ok (.iload 17, 2) by decide +kernel) (by rfl) ?_
    refine go_callV (d2 := d - 1) (M2 := MX0_planSpan) (n := 2) (ci := 0) (av := [vI s0, vI s0]) (st := []) (show decode cX9_level 175 = .ok (.invokevirtual 124, 3) by decide +kernel) ml_X9_124 mt_X0_planSpan min_X0_planSpan mse_X0_planSpan (by decide) (shc_k hsh 10 (by decide) (by decide)) rfl (Nat.le_of_ble_eq_true rfl) (by omega) (ok_mono h (fun w11 S12 F13 G14 h => ?_))
    obtain ⟨e8, h⟩ := h
    replace e8 := e8.symm; subst e8
    obtain ⟨e9, h⟩ := h
    subst e9
    show Go d MX9_level 178 [some (vR 1), some (vI a1), some (vI a2), some (vI a3), some (vI a4), some (vI a5), some (vJ a6), none, some (vJ a8), none, some (vJ a10), none, some (vJ a12), none, some (vJ a14), none, some (vI a16), some (vI s0), none] [] S F13 G14 Q
    exact R_X9_level_178 hsh h
def V_X9_level_102 (d : Nat) (S : AS) (F : AF) (G : AG) (Q : AQ) (a1 : Int) (a2 : Int) (a3 : Int) (a4 : Int) (a5 : Int) (a6 : Int) (a8 : Int) (a10 : Int) (a12 : Int) (a14 : Int) (s0 : Int) : Prop :=
  ((a14 ≤ 0) →
    V_X9_level_127 d S F G Q a1 a2 a3 a4 a5 a6 a8 a10 a12 a14 s0 a5) ∧
  ((¬ a14 ≤ 0) →
    (r64 (a14 - 1)) ∧
    (¬ a10 = 0) ∧
    (r64 (Int.tdiv (a14 - 1) a10)) ∧
    (r64 (a3 + (Int.tdiv (a14 - 1) a10))) ∧
    (r32 (a3 + (Int.tdiv (a14 - 1) a10))) ∧
    V_X9_level_127 d S F G Q a1 a2 a3 a4 a5 a6 a8 a10 a12 a14 s0 (a3 + (Int.tdiv (a14 - 1) a10)))
theorem R_X9_level_102 {d : Nat} {S : AS} {F : AF} {G : AG} {Q : AQ} {a1 : Int} {a2 : Int} {a3 : Int} {a4 : Int} {a5 : Int} {a6 : Int} {a8 : Int} {a10 : Int} {a12 : Int} {a14 : Int} {s0 : Int} (hsh : ShC S) (h : V_X9_level_102 d S F G Q a1 a2 a3 a4 a5 a6 a8 a10 a12 a14 s0) : Go d MX9_level 102 [some (vR 1), some (vI a1), some (vI a2), some (vI a3), some (vI a4), some (vI a5), some (vJ a6), none, some (vJ a8), none, some (vJ a10), none, some (vJ a12), none, some (vJ a14), none, none, none, none] [vI s0] S F G Q := by
  unfold V_X9_level_102 at h
  refine go_istore (show decode cX9_level 102 = .ok (.istore 16, 2) by decide +kernel) (by decide) ?_
  show Go d MX9_level 104 [some (vR 1), some (vI a1), some (vI a2), some (vI a3), some (vI a4), some (vI a5), some (vJ a6), none, some (vJ a8), none, some (vJ a10), none, some (vJ a12), none, some (vJ a14), none, some (vI s0), none, none] [] S F G Q
  refine go_lload (show decode cX9_level 104 = .ok (.lload 14, 2) by decide +kernel) (by rfl) ?_
  refine go_lconst (n := 0) (show decode cX9_level 106 = .ok (.lconst 0, 1) by decide +kernel) ?_
  show Go d MX9_level 107 [some (vR 1), some (vI a1), some (vI a2), some (vI a3), some (vI a4), some (vI a5), some (vJ a6), none, some (vJ a8), none, some (vJ a10), none, some (vJ a12), none, some (vJ a14), none, some (vI s0), none, none] [vJ 0, vJ a14] S F G Q
  obtain ⟨ht, hf⟩ := h
  refine go_jle (tgt := 125) (show decode cX9_level 107 = .ok (.lcmp, 1) by decide +kernel) (show decode cX9_level 108 = .ok (.ifCond .le 17, 3) by decide +kernel) (by decide) (fun hc => ?_) (fun hc => ?_)
  · have h := ht hc
    refine go_iload (show decode cX9_level 125 = .ok (.iload 5, 2) by decide +kernel) (by rfl) ?_
    exact R_X9_level_127 hsh h
  · have h := hf hc
    refine go_iload_n (show decode cX9_level 111 = .ok (.iload_n 3, 1) by decide +kernel) (by rfl) ?_
    refine go_i2l (show decode cX9_level 112 = .ok (.i2l, 1) by decide +kernel) ?_
    refine go_lload (show decode cX9_level 113 = .ok (.lload 14, 2) by decide +kernel) (by rfl) ?_
    refine go_lconst (n := 1) (show decode cX9_level 115 = .ok (.lconst 1, 1) by decide +kernel) ?_
    show Go d MX9_level 116 [some (vR 1), some (vI a1), some (vI a2), some (vI a3), some (vI a4), some (vI a5), some (vJ a6), none, some (vJ a8), none, some (vJ a10), none, some (vJ a12), none, some (vJ a14), none, some (vI s0), none, none] [vJ 1, vJ a14, vJ a3] S F G Q
    obtain ⟨q1, h⟩ := h
    refine go_lsub (show decode cX9_level 116 = .ok (.lsub, 1) by decide +kernel) q1 ?_
    refine go_lload (show decode cX9_level 117 = .ok (.lload 10, 2) by decide +kernel) (by rfl) ?_
    obtain ⟨q2, h⟩ := h
    obtain ⟨q3, h⟩ := h
    refine go_ldiv (show decode cX9_level 119 = .ok (.ldiv, 1) by decide +kernel) q2 q3 ?_
    obtain ⟨q4, h⟩ := h
    refine go_ladd (show decode cX9_level 120 = .ok (.ladd, 1) by decide +kernel) q4 ?_
    obtain ⟨q5, h⟩ := h
    refine go_l2i (show decode cX9_level 121 = .ok (.l2i, 1) by decide +kernel) q5 ?_
    refine go_goto (tgt := 127) (show decode cX9_level 122 = .ok (.goto 5, 3) by decide +kernel) (by decide) ?_
    exact R_X9_level_127 hsh h
def V_X9_level_0 (d : Nat) (S : AS) (F : AF) (G : AG) (Q : AQ) (a1 : Int) (a2 : Int) (a3 : Int) (a4 : Int) (a5 : Int) : Prop :=
  (1 ≤ d) ∧
  ∃ z6 : Int, Pu (d - 1) MX9_isGood [vI a1] S F G (some (vI z6)) ∧
  ((z6 = 0) →
    Q (some (vJ (-2))) S F G) ∧
  ((¬ z6 = 0) →
    Ok (d - 1) MX9_ask [vR 1, vI a2, vI a3, vI a4, vI a5] S F G (fun w8 S9 F10 G11 =>
    S9 = S ∧
    ∃ z12 : Int, w8 = some (vI z12) ∧
    ((¬ z12 = 0) →
      ∃ z17 : Int, Pu (d - 1) MX2_sumOf [vR 2, vI a1, vR 51] S F10 G11 (some (vJ z17)) ∧
      ∃ z23 : Int, Pu (d - 1) MX3_cells [vR 51] S F10 G11 (some (vJ z23)) ∧
      ∀ x25 : Int, x25 = max 1 z23 →
      ∃ z30 : Int, Pu (d - 1) MX3_width [vR 51] S F10 G11 (some (vI z30)) ∧
      ∀ x32 : Int, x32 = max 1 z30 →
      (¬ x25 = 0) ∧
      (r64 (Int.tdiv z17 x25)) ∧
      ∀ x35 : Int, x35 = Int.tdiv z17 x25 →
      (r64 (Int.tmod z17 x25)) ∧
      ∀ x37 : Int, x37 = Int.tmod z17 x25 →
      ((x37 ≤ 0) →
        V_X9_level_102 d S F10 G11 Q a1 a2 a3 a4 a5 z17 x25 x32 x35 x37 a4) ∧
      ((¬ x37 ≤ 0) →
        (r64 (x37 - 1)) ∧
        (¬ x32 = 0) ∧
        (r64 (Int.tdiv (x37 - 1) x32)) ∧
        (r64 (Int.tmod (x37 - 1) x32)) ∧
        (r64 (a2 + (Int.tmod (x37 - 1) x32))) ∧
        (r32 (a2 + (Int.tmod (x37 - 1) x32))) ∧
        V_X9_level_102 d S F10 G11 Q a1 a2 a3 a4 a5 z17 x25 x32 x35 x37 (a2 + (Int.tmod (x37 - 1) x32)))) ∧
    ((z12 = 0) →
      Q (some (vJ (-2))) S F10 G11)))
theorem R_X9_level_0 {d : Nat} {S : AS} {F : AF} {G : AG} {Q : AQ} {a1 : Int} {a2 : Int} {a3 : Int} {a4 : Int} {a5 : Int} (hsh : ShC S) (h : V_X9_level_0 d S F G Q a1 a2 a3 a4 a5) : Go d MX9_level 0 [some (vR 1), some (vI a1), some (vI a2), some (vI a3), some (vI a4), some (vI a5), none, none, none, none, none, none, none, none, none, none, none, none, none] [] S F G Q := by
  unfold V_X9_level_0 at h
  refine go_iload_n (show decode cX9_level 0 = .ok (.iload_n 1, 1) by decide +kernel) (by rfl) ?_
  obtain ⟨q1, h⟩ := h
  obtain ⟨z6, p7, h⟩ := h
  refine go_callS (d2 := d - 1) (M2 := MX9_isGood) (n := 1) (av := [vI a1]) (st := []) (show decode cX9_level 1 = .ok (.invokestatic 64, 3) by decide +kernel) ml_X9_64 mt_X9_isGood mst_X9_isGood rfl (Nat.le_of_ble_eq_true rfl) (by omega) (ok_mono p7 (fun w2 S3 F4 G5 e9 => ?_))
  obtain ⟨e1, e2, e3, e4⟩ := e9
  subst e1
  replace e2 := e2.symm; subst e2
  replace e3 := e3.symm; subst e3
  replace e4 := e4.symm; subst e4
  show Go d MX9_level 4 [some (vR 1), some (vI a1), some (vI a2), some (vI a3), some (vI a4), some (vI a5), none, none, none, none, none, none, none, none, none, none, none, none, none] [vI z6] S F G Q
  obtain ⟨ht, hf⟩ := h
  refine go_ifeq (tgt := 20) (show decode cX9_level 4 = .ok (.ifCond .eq 16, 3) by decide +kernel) (by decide) (fun hc => ?_) (fun hc => ?_)
  · have h := ht hc
    refine go_ldc2 (show decode cX9_level 20 = .ok (.ldc2_w 72, 3) by decide +kernel) lc_X9_72 (by decide) ?_
    exact go_lret (show decode cX9_level 23 = .ok (.lreturn, 1) by decide +kernel) rfl h
  · have h := hf hc
    refine go_aload_n (show decode cX9_level 7 = .ok (.aload_n 0, 1) by decide +kernel) (by rfl) ?_
    refine go_iload_n (show decode cX9_level 8 = .ok (.iload_n 2, 1) by decide +kernel) (by rfl) ?_
    refine go_iload_n (show decode cX9_level 9 = .ok (.iload_n 3, 1) by decide +kernel) (by rfl) ?_
    refine go_iload (show decode cX9_level 10 = .ok (.iload 4, 2) by decide +kernel) (by rfl) ?_
    refine go_iload (show decode cX9_level 12 = .ok (.iload 5, 2) by decide +kernel) (by rfl) ?_
    refine go_callV (d2 := d - 1) (M2 := MX9_ask) (n := 4) (ci := 9) (av := [vI a2, vI a3, vI a4, vI a5]) (st := []) (show decode cX9_level 14 = .ok (.invokevirtual 68, 3) by decide +kernel) ml_X9_68 mt_X9_ask min_X9_ask mse_X9_ask (by decide) (shc_k hsh 1 (by decide) (by decide)) rfl (Nat.le_of_ble_eq_true rfl) (by omega) (ok_mono h (fun w8 S9 F10 G11 h => ?_))
    obtain ⟨e8, h⟩ := h
    replace e8 := e8.symm; subst e8
    obtain ⟨z12, e9, h⟩ := h
    subst e9
    show Go d MX9_level 17 [some (vR 1), some (vI a1), some (vI a2), some (vI a3), some (vI a4), some (vI a5), none, none, none, none, none, none, none, none, none, none, none, none, none] [vI z12] S F10 G11 Q
    obtain ⟨ht, hf⟩ := h
    refine go_ifne (tgt := 24) (show decode cX9_level 17 = .ok (.ifCond .ne 7, 3) by decide +kernel) (by decide) (fun hc => ?_) (fun hc => ?_)
    · have h := ht hc
      refine go_aload_n (show decode cX9_level 24 = .ok (.aload_n 0, 1) by decide +kernel) (by rfl) ?_
      refine go_getRc (show decode cX9_level 25 = .ok (.getfield 20, 3) by decide +kernel) fl_X9_20 rfl (shc_k hsh 1 (by decide) (by decide)) (v := 2) (shc_r hsh 1 1 (by decide) (by decide) (by decide)) ?_
      refine go_iload_n (show decode cX9_level 28 = .ok (.iload_n 1, 1) by decide +kernel) (by rfl) ?_
      refine go_aload_n (show decode cX9_level 29 = .ok (.aload_n 0, 1) by decide +kernel) (by rfl) ?_
      refine go_getRc (show decode cX9_level 30 = .ok (.getfield 38, 3) by decide +kernel) fl_X9_38 rfl (shc_k hsh 1 (by decide) (by decide)) (v := 51) (shc_r hsh 1 4 (by decide) (by decide) (by decide)) ?_
      obtain ⟨z17, p18, h⟩ := h
      refine go_callV (d2 := d - 1) (M2 := MX2_sumOf) (n := 2) (ci := 2) (av := [vI a1, vR 51]) (st := []) (show decode cX9_level 33 = .ok (.invokevirtual 101, 3) by decide +kernel) ml_X9_101 mt_X2_sumOf min_X2_sumOf mse_X2_sumOf (by decide) (shc_k hsh 2 (by decide) (by decide)) rfl (Nat.le_of_ble_eq_true rfl) (by omega) (ok_mono p18 (fun w13 S14 F15 G16 e9 => ?_))
      obtain ⟨e1, e2, e3, e4⟩ := e9
      subst e1
      replace e2 := e2.symm; subst e2
      replace e3 := e3.symm; subst e3
      replace e4 := e4.symm; subst e4
      show Go d MX9_level 36 [some (vR 1), some (vI a1), some (vI a2), some (vI a3), some (vI a4), some (vI a5), none, none, none, none, none, none, none, none, none, none, none, none, none] [vJ z17] S F10 G11 Q
      refine go_lstore (show decode cX9_level 36 = .ok (.lstore 6, 2) by decide +kernel) (by decide) ?_
      show Go d MX9_level 38 [some (vR 1), some (vI a1), some (vI a2), some (vI a3), some (vI a4), some (vI a5), some (vJ z17), none, none, none, none, none, none, none, none, none, none, none, none] [] S F10 G11 Q
      refine go_lconst (n := 1) (show decode cX9_level 38 = .ok (.lconst 1, 1) by decide +kernel) ?_
      show Go d MX9_level 39 [some (vR 1), some (vI a1), some (vI a2), some (vI a3), some (vI a4), some (vI a5), some (vJ z17), none, none, none, none, none, none, none, none, none, none, none, none] [vJ 1] S F10 G11 Q
      refine go_aload_n (show decode cX9_level 39 = .ok (.aload_n 0, 1) by decide +kernel) (by rfl) ?_
      refine go_getRc (show decode cX9_level 40 = .ok (.getfield 38, 3) by decide +kernel) fl_X9_38 rfl (shc_k hsh 1 (by decide) (by decide)) (v := 51) (shc_r hsh 1 4 (by decide) (by decide) (by decide)) ?_
      obtain ⟨z23, p24, h⟩ := h
      refine go_callV (d2 := d - 1) (M2 := MX3_cells) (n := 0) (ci := 3) (av := []) (st := [vJ 1]) (show decode cX9_level 43 = .ok (.invokevirtual 60, 3) by decide +kernel) ml_X9_60 mt_X3_cells min_X3_cells mse_X3_cells (by decide) (shc_k hsh 51 (by decide) (by decide)) rfl (Nat.le_of_ble_eq_true rfl) (by omega) (ok_mono p24 (fun w19 S20 F21 G22 e9 => ?_))
      obtain ⟨e1, e2, e3, e4⟩ := e9
      subst e1
      replace e2 := e2.symm; subst e2
      replace e3 := e3.symm; subst e3
      replace e4 := e4.symm; subst e4
      show Go d MX9_level 46 [some (vR 1), some (vI a1), some (vI a2), some (vI a3), some (vI a4), some (vI a5), some (vJ z17), none, none, none, none, none, none, none, none, none, none, none, none] [vJ z23, vJ 1] S F10 G11 Q
      refine go_maxJm (show decode cX9_level 46 = .ok (.invokestatic 176, 3) by decide +kernel) ml_X9_176 mh_maxJ_s mh_i mh_maxJ_c (Nat.le_of_ble_eq_true rfl) q1 ?_
      obtain ⟨x25, x25e⟩ : ∃ x25 : Int, x25 = max 1 z23 := ⟨_, rfl⟩
      have h := h x25 x25e
      rw [← x25e]
      refine go_lstore (show decode cX9_level 49 = .ok (.lstore 8, 2) by decide +kernel) (by decide) ?_
      show Go d MX9_level 51 [some (vR 1), some (vI a1), some (vI a2), some (vI a3), some (vI a4), some (vI a5), some (vJ z17), none, some (vJ x25), none, none, none, none, none, none, none, none, none, none] [] S F10 G11 Q
      refine go_iconst (show decode cX9_level 51 = .ok (.iconst 1, 1) by decide +kernel) (by decide) ?_
      refine go_aload_n (show decode cX9_level 52 = .ok (.aload_n 0, 1) by decide +kernel) (by rfl) ?_
      refine go_getRc (show decode cX9_level 53 = .ok (.getfield 38, 3) by decide +kernel) fl_X9_38 rfl (shc_k hsh 1 (by decide) (by decide)) (v := 51) (shc_r hsh 1 4 (by decide) (by decide) (by decide)) ?_
      obtain ⟨z30, p31, h⟩ := h
      refine go_callV (d2 := d - 1) (M2 := MX3_width) (n := 0) (ci := 3) (av := []) (st := [vI 1]) (show decode cX9_level 56 = .ok (.invokevirtual 182, 3) by decide +kernel) ml_X9_182 mt_X3_width min_X3_width mse_X3_width (by decide) (shc_k hsh 51 (by decide) (by decide)) rfl (Nat.le_of_ble_eq_true rfl) (by omega) (ok_mono p31 (fun w26 S27 F28 G29 e9 => ?_))
      obtain ⟨e1, e2, e3, e4⟩ := e9
      subst e1
      replace e2 := e2.symm; subst e2
      replace e3 := e3.symm; subst e3
      replace e4 := e4.symm; subst e4
      show Go d MX9_level 59 [some (vR 1), some (vI a1), some (vI a2), some (vI a3), some (vI a4), some (vI a5), some (vJ z17), none, some (vJ x25), none, none, none, none, none, none, none, none, none, none] [vI z30, vI 1] S F10 G11 Q
      refine go_maxIm (show decode cX9_level 59 = .ok (.invokestatic 186, 3) by decide +kernel) ml_X9_186 mh_max_s mh_i mh_max_c (Nat.le_of_ble_eq_true rfl) q1 ?_
      refine go_i2l (show decode cX9_level 62 = .ok (.i2l, 1) by decide +kernel) ?_
      obtain ⟨x32, x32e⟩ : ∃ x32 : Int, x32 = max 1 z30 := ⟨_, rfl⟩
      have h := h x32 x32e
      rw [← x32e]
      refine go_lstore (show decode cX9_level 63 = .ok (.lstore 10, 2) by decide +kernel) (by decide) ?_
      show Go d MX9_level 65 [some (vR 1), some (vI a1), some (vI a2), some (vI a3), some (vI a4), some (vI a5), some (vJ z17), none, some (vJ x25), none, some (vJ x32), none, none, none, none, none, none, none, none] [] S F10 G11 Q
      refine go_lload (show decode cX9_level 65 = .ok (.lload 6, 2) by decide +kernel) (by rfl) ?_
      refine go_lload (show decode cX9_level 67 = .ok (.lload 8, 2) by decide +kernel) (by rfl) ?_
      obtain ⟨q33, h⟩ := h
      obtain ⟨q34, h⟩ := h
      refine go_ldiv (show decode cX9_level 69 = .ok (.ldiv, 1) by decide +kernel) q33 q34 ?_
      obtain ⟨x35, x35e⟩ : ∃ x35 : Int, x35 = Int.tdiv z17 x25 := ⟨_, rfl⟩
      have h := h x35 x35e
      rw [← x35e]
      refine go_lstore (show decode cX9_level 70 = .ok (.lstore 12, 2) by decide +kernel) (by decide) ?_
      show Go d MX9_level 72 [some (vR 1), some (vI a1), some (vI a2), some (vI a3), some (vI a4), some (vI a5), some (vJ z17), none, some (vJ x25), none, some (vJ x32), none, some (vJ x35), none, none, none, none, none, none] [] S F10 G11 Q
      refine go_lload (show decode cX9_level 72 = .ok (.lload 6, 2) by decide +kernel) (by rfl) ?_
      refine go_lload (show decode cX9_level 74 = .ok (.lload 8, 2) by decide +kernel) (by rfl) ?_
      obtain ⟨q36, h⟩ := h
      refine go_lrem (show decode cX9_level 76 = .ok (.lrem, 1) by decide +kernel) q33 q34 q36 ?_
      obtain ⟨x37, x37e⟩ : ∃ x37 : Int, x37 = Int.tmod z17 x25 := ⟨_, rfl⟩
      have h := h x37 x37e
      rw [← x37e]
      refine go_lstore (show decode cX9_level 77 = .ok (.lstore 14, 2) by decide +kernel) (by decide) ?_
      show Go d MX9_level 79 [some (vR 1), some (vI a1), some (vI a2), some (vI a3), some (vI a4), some (vI a5), some (vJ z17), none, some (vJ x25), none, some (vJ x32), none, some (vJ x35), none, some (vJ x37), none, none, none, none] [] S F10 G11 Q
      refine go_lload (show decode cX9_level 79 = .ok (.lload 14, 2) by decide +kernel) (by rfl) ?_
      refine go_lconst (n := 0) (show decode cX9_level 81 = .ok (.lconst 0, 1) by decide +kernel) ?_
      show Go d MX9_level 82 [some (vR 1), some (vI a1), some (vI a2), some (vI a3), some (vI a4), some (vI a5), some (vJ z17), none, some (vJ x25), none, some (vJ x32), none, some (vJ x35), none, some (vJ x37), none, none, none, none] [vJ 0, vJ x37] S F10 G11 Q
      obtain ⟨ht, hf⟩ := h
      refine go_jle (tgt := 100) (show decode cX9_level 82 = .ok (.lcmp, 1) by decide +kernel) (show decode cX9_level 83 = .ok (.ifCond .le 17, 3) by decide +kernel) (by decide) (fun hc => ?_) (fun hc => ?_)
      · have h := ht hc
        refine go_iload (show decode cX9_level 100 = .ok (.iload 4, 2) by decide +kernel) (by rfl) ?_
        exact R_X9_level_102 hsh h
      · have h := hf hc
        refine go_iload_n (show decode cX9_level 86 = .ok (.iload_n 2, 1) by decide +kernel) (by rfl) ?_
        refine go_i2l (show decode cX9_level 87 = .ok (.i2l, 1) by decide +kernel) ?_
        refine go_lload (show decode cX9_level 88 = .ok (.lload 14, 2) by decide +kernel) (by rfl) ?_
        refine go_lconst (n := 1) (show decode cX9_level 90 = .ok (.lconst 1, 1) by decide +kernel) ?_
        show Go d MX9_level 91 [some (vR 1), some (vI a1), some (vI a2), some (vI a3), some (vI a4), some (vI a5), some (vJ z17), none, some (vJ x25), none, some (vJ x32), none, some (vJ x35), none, some (vJ x37), none, none, none, none] [vJ 1, vJ x37, vJ a2] S F10 G11 Q
        obtain ⟨q38, h⟩ := h
        refine go_lsub (show decode cX9_level 91 = .ok (.lsub, 1) by decide +kernel) q38 ?_
        refine go_lload (show decode cX9_level 92 = .ok (.lload 10, 2) by decide +kernel) (by rfl) ?_
        obtain ⟨q39, h⟩ := h
        obtain ⟨q40, h⟩ := h
        obtain ⟨q41, h⟩ := h
        refine go_lrem (show decode cX9_level 94 = .ok (.lrem, 1) by decide +kernel) q39 q40 q41 ?_
        obtain ⟨q42, h⟩ := h
        refine go_ladd (show decode cX9_level 95 = .ok (.ladd, 1) by decide +kernel) q42 ?_
        obtain ⟨q43, h⟩ := h
        refine go_l2i (show decode cX9_level 96 = .ok (.l2i, 1) by decide +kernel) q43 ?_
        refine go_goto (tgt := 102) (show decode cX9_level 97 = .ok (.goto 5, 3) by decide +kernel) (by decide) ?_
        exact R_X9_level_102 hsh h
    · have h := hf hc
      refine go_ldc2 (show decode cX9_level 20 = .ok (.ldc2_w 72, 3) by decide +kernel) lc_X9_72 (by decide) ?_
      exact go_lret (show decode cX9_level 23 = .ok (.lreturn, 1) by decide +kernel) rfl h
def V_X9_zone_0 (d : Nat) (S : AS) (F : AF) (G : AG) (Q : AQ) (a1 : Int) (a2 : Int) (a3 : Int) (a4 : Int) (a5 : Int) (a6 : Int) : Prop :=
  (1 ≤ d) ∧
  ∃ z6 : Nat, Pu (d - 1) MX2_zoneOf [vR 2, vI a1] S F G (some (vR z6)) ∧
  ((z6 = 0) →
    Q (some (vJ (-2))) S F G) ∧
  ((¬ z6 = 0) →
    Ok (d - 1) MX9_ask [vR 1, vI a2, vI a3, vI a4, vI a5] S F G (fun w8 S9 F10 G11 =>
    S9 = S ∧
    ∃ z12 : Int, w8 = some (vI z12) ∧
    ((¬ z12 = 0) →
      ((a6 < 0) →
        Q (some (vJ (-3))) S F10 G11) ∧
      ((¬ a6 < 0) →
        ((a6 ≤ 3000000000000000000) →
          ∃ z17 : Int, Pu (d - 1) MX2_sumOf [vR 2, vI (-1), vR 51] S F10 G11 (some (vJ z17)) ∧
          ((z17 ≤ a6) →
            (AtZone S z6) ∧
            Ok (d - 1) MX3_set [vR (z6 + 1), vI a2, vI a3, vI a4, vI a5] S F10 G11 (fun w20 S21 F22 G23 =>
            S21 = S ∧
            w20 = none ∧
            ∀ F24 : AF, F24 = fu F22 z6 1 a6 →
            ∀ F25 : AF, F25 = fu F24 z6 2 1 →
            Q (some (vJ z17)) S F25 G23)) ∧
          ((¬ z17 ≤ a6) →
            Q (some (vJ (-9))) S F10 G11)) ∧
        ((¬ a6 ≤ 3000000000000000000) →
          Q (some (vJ (-3))) S F10 G11))) ∧
    ((z12 = 0) →
      Q (some (vJ (-2))) S F10 G11)))
theorem R_X9_zone_0 {d : Nat} {S : AS} {F : AF} {G : AG} {Q : AQ} {a1 : Int} {a2 : Int} {a3 : Int} {a4 : Int} {a5 : Int} {a6 : Int} (hsh : ShC S) (h : V_X9_zone_0 d S F G Q a1 a2 a3 a4 a5 a6) : Go d MX9_zone 0 [some (vR 1), some (vI a1), some (vI a2), some (vI a3), some (vI a4), some (vI a5), some (vJ a6), none, none, none, none] [] S F G Q := by
  unfold V_X9_zone_0 at h
  refine go_aload_n (show decode cX9_zone 0 = .ok (.aload_n 0, 1) by decide +kernel) (by rfl) ?_
  refine go_getRc (show decode cX9_zone 1 = .ok (.getfield 20, 3) by decide +kernel) fl_X9_20 rfl (shc_k hsh 1 (by decide) (by decide)) (v := 2) (shc_r hsh 1 1 (by decide) (by decide) (by decide)) ?_
  refine go_iload_n (show decode cX9_zone 4 = .ok (.iload_n 1, 1) by decide +kernel) (by rfl) ?_
  obtain ⟨q1, h⟩ := h
  obtain ⟨z6, p7, h⟩ := h
  refine go_callV (d2 := d - 1) (M2 := MX2_zoneOf) (n := 1) (ci := 2) (av := [vI a1]) (st := []) (show decode cX9_zone 5 = .ok (.invokevirtual 198, 3) by decide +kernel) ml_X9_198 mt_X2_zoneOf min_X2_zoneOf mse_X2_zoneOf (by decide) (shc_k hsh 2 (by decide) (by decide)) rfl (Nat.le_of_ble_eq_true rfl) (by omega) (ok_mono p7 (fun w2 S3 F4 G5 e9 => ?_))
  obtain ⟨e1, e2, e3, e4⟩ := e9
  subst e1
  replace e2 := e2.symm; subst e2
  replace e3 := e3.symm; subst e3
  replace e4 := e4.symm; subst e4
  show Go d MX9_zone 8 [some (vR 1), some (vI a1), some (vI a2), some (vI a3), some (vI a4), some (vI a5), some (vJ a6), none, none, none, none] [vR z6] S F G Q
  refine go_astore (show decode cX9_zone 8 = .ok (.astore 8, 2) by decide +kernel) (by decide) ?_
  show Go d MX9_zone 10 [some (vR 1), some (vI a1), some (vI a2), some (vI a3), some (vI a4), some (vI a5), some (vJ a6), none, some (vR z6), none, none] [] S F G Q
  refine go_aload (show decode cX9_zone 10 = .ok (.aload 8, 2) by decide +kernel) (by rfl) ?_
  obtain ⟨ht, hf⟩ := h
  refine go_ifnull (tgt := 28) (show decode cX9_zone 12 = .ok (.ifnull 16, 3) by decide +kernel) (by decide) (fun hc => ?_) (fun hc => ?_)
  · have h := ht hc
    refine go_ldc2 (show decode cX9_zone 28 = .ok (.ldc2_w 72, 3) by decide +kernel) lc_X9_72 (by decide) ?_
    exact go_lret (show decode cX9_zone 31 = .ok (.lreturn, 1) by decide +kernel) rfl h
  · have h := hf hc
    refine go_aload_n (show decode cX9_zone 15 = .ok (.aload_n 0, 1) by decide +kernel) (by rfl) ?_
    refine go_iload_n (show decode cX9_zone 16 = .ok (.iload_n 2, 1) by decide +kernel) (by rfl) ?_
    refine go_iload_n (show decode cX9_zone 17 = .ok (.iload_n 3, 1) by decide +kernel) (by rfl) ?_
    refine go_iload (show decode cX9_zone 18 = .ok (.iload 4, 2) by decide +kernel) (by rfl) ?_
    refine go_iload (show decode cX9_zone 20 = .ok (.iload 5, 2) by decide +kernel) (by rfl) ?_
    refine go_callV (d2 := d - 1) (M2 := MX9_ask) (n := 4) (ci := 9) (av := [vI a2, vI a3, vI a4, vI a5]) (st := []) (show decode cX9_zone 22 = .ok (.invokevirtual 68, 3) by decide +kernel) ml_X9_68 mt_X9_ask min_X9_ask mse_X9_ask (by decide) (shc_k hsh 1 (by decide) (by decide)) rfl (Nat.le_of_ble_eq_true rfl) (by omega) (ok_mono h (fun w8 S9 F10 G11 h => ?_))
    obtain ⟨e8, h⟩ := h
    replace e8 := e8.symm; subst e8
    obtain ⟨z12, e9, h⟩ := h
    subst e9
    show Go d MX9_zone 25 [some (vR 1), some (vI a1), some (vI a2), some (vI a3), some (vI a4), some (vI a5), some (vJ a6), none, some (vR z6), none, none] [vI z12] S F10 G11 Q
    obtain ⟨ht, hf⟩ := h
    refine go_ifne (tgt := 32) (show decode cX9_zone 25 = .ok (.ifCond .ne 7, 3) by decide +kernel) (by decide) (fun hc => ?_) (fun hc => ?_)
    · have h := ht hc
      refine go_lload (show decode cX9_zone 32 = .ok (.lload 6, 2) by decide +kernel) (by rfl) ?_
      refine go_lconst (n := 0) (show decode cX9_zone 34 = .ok (.lconst 0, 1) by decide +kernel) ?_
      show Go d MX9_zone 35 [some (vR 1), some (vI a1), some (vI a2), some (vI a3), some (vI a4), some (vI a5), some (vJ a6), none, some (vR z6), none, none] [vJ 0, vJ a6] S F10 G11 Q
      obtain ⟨ht, hf⟩ := h
      refine go_jlt (tgt := 48) (show decode cX9_zone 35 = .ok (.lcmp, 1) by decide +kernel) (show decode cX9_zone 36 = .ok (.ifCond .lt 12, 3) by decide +kernel) (by decide) (fun hc => ?_) (fun hc => ?_)
      · have h := ht hc
        refine go_ldc2 (show decode cX9_zone 48 = .ok (.ldc2_w 53, 3) by decide +kernel) lc_X9_53 (by decide) ?_
        exact go_lret (show decode cX9_zone 51 = .ok (.lreturn, 1) by decide +kernel) rfl h
      · have h := hf hc
        refine go_lload (show decode cX9_zone 39 = .ok (.lload 6, 2) by decide +kernel) (by rfl) ?_
        refine go_ldc2 (show decode cX9_zone 41 = .ok (.ldc2_w 105, 3) by decide +kernel) lc_X9_105 (by decide) ?_
        obtain ⟨ht, hf⟩ := h
        refine go_jle (tgt := 52) (show decode cX9_zone 44 = .ok (.lcmp, 1) by decide +kernel) (show decode cX9_zone 45 = .ok (.ifCond .le 7, 3) by decide +kernel) (by decide) (fun hc => ?_) (fun hc => ?_)
        · have h := ht hc
          refine go_aload_n (show decode cX9_zone 52 = .ok (.aload_n 0, 1) by decide +kernel) (by rfl) ?_
          refine go_getRc (show decode cX9_zone 53 = .ok (.getfield 20, 3) by decide +kernel) fl_X9_20 rfl (shc_k hsh 1 (by decide) (by decide)) (v := 2) (shc_r hsh 1 1 (by decide) (by decide) (by decide)) ?_
          refine go_iconst (show decode cX9_zone 56 = .ok (.iconst (-1), 1) by decide +kernel) (by decide) ?_
          refine go_aload_n (show decode cX9_zone 57 = .ok (.aload_n 0, 1) by decide +kernel) (by rfl) ?_
          refine go_getRc (show decode cX9_zone 58 = .ok (.getfield 38, 3) by decide +kernel) fl_X9_38 rfl (shc_k hsh 1 (by decide) (by decide)) (v := 51) (shc_r hsh 1 4 (by decide) (by decide) (by decide)) ?_
          obtain ⟨z17, p18, h⟩ := h
          refine go_callV (d2 := d - 1) (M2 := MX2_sumOf) (n := 2) (ci := 2) (av := [vI (-1), vR 51]) (st := []) (show decode cX9_zone 61 = .ok (.invokevirtual 101, 3) by decide +kernel) ml_X9_101 mt_X2_sumOf min_X2_sumOf mse_X2_sumOf (by decide) (shc_k hsh 2 (by decide) (by decide)) rfl (Nat.le_of_ble_eq_true rfl) (by omega) (ok_mono p18 (fun w13 S14 F15 G16 e9 => ?_))
          obtain ⟨e1, e2, e3, e4⟩ := e9
          subst e1
          replace e2 := e2.symm; subst e2
          replace e3 := e3.symm; subst e3
          replace e4 := e4.symm; subst e4
          show Go d MX9_zone 64 [some (vR 1), some (vI a1), some (vI a2), some (vI a3), some (vI a4), some (vI a5), some (vJ a6), none, some (vR z6), none, none] [vJ z17] S F10 G11 Q
          refine go_lstore (show decode cX9_zone 64 = .ok (.lstore 9, 2) by decide +kernel) (by decide) ?_
          show Go d MX9_zone 66 [some (vR 1), some (vI a1), some (vI a2), some (vI a3), some (vI a4), some (vI a5), some (vJ a6), none, some (vR z6), some (vJ z17), none] [] S F10 G11 Q
          refine go_lload (show decode cX9_zone 66 = .ok (.lload 9, 2) by decide +kernel) (by rfl) ?_
          refine go_lload (show decode cX9_zone 68 = .ok (.lload 6, 2) by decide +kernel) (by rfl) ?_
          obtain ⟨ht, hf⟩ := h
          refine go_jle (tgt := 78) (show decode cX9_zone 70 = .ok (.lcmp, 1) by decide +kernel) (show decode cX9_zone 71 = .ok (.ifCond .le 7, 3) by decide +kernel) (by decide) (fun hc => ?_) (fun hc => ?_)
          · have h := ht hc
            refine go_aload (show decode cX9_zone 78 = .ok (.aload 8, 2) by decide +kernel) (by rfl) ?_
            obtain ⟨q19, h⟩ := h
            refine go_getRc (show decode cX9_zone 80 = .ok (.getfield 204, 3) by decide +kernel) fl_X9_204 rfl q19.1 (v := (z6 + 1)) q19.2.1 ?_
            refine go_iload_n (show decode cX9_zone 83 = .ok (.iload_n 2, 1) by decide +kernel) (by rfl) ?_
            refine go_iload_n (show decode cX9_zone 84 = .ok (.iload_n 3, 1) by decide +kernel) (by rfl) ?_
            refine go_iload (show decode cX9_zone 85 = .ok (.iload 4, 2) by decide +kernel) (by rfl) ?_
            refine go_iload (show decode cX9_zone 87 = .ok (.iload 5, 2) by decide +kernel) (by rfl) ?_
            refine go_callV (d2 := d - 1) (M2 := MX3_set) (n := 4) (ci := 3) (av := [vI a2, vI a3, vI a4, vI a5]) (st := []) (show decode cX9_zone 89 = .ok (.invokevirtual 148, 3) by decide +kernel) ml_X9_148 mt_X3_set min_X3_set mse_X3_set (by decide) q19.2.2 rfl (Nat.le_of_ble_eq_true rfl) (by omega) (ok_mono h (fun w20 S21 F22 G23 h => ?_))
            obtain ⟨e8, h⟩ := h
            replace e8 := e8.symm; subst e8
            obtain ⟨e9, h⟩ := h
            subst e9
            show Go d MX9_zone 92 [some (vR 1), some (vI a1), some (vI a2), some (vI a3), some (vI a4), some (vI a5), some (vJ a6), none, some (vR z6), some (vJ z17), none] [] S F22 G23 Q
            refine go_aload (show decode cX9_zone 92 = .ok (.aload 8, 2) by decide +kernel) (by rfl) ?_
            refine go_lload (show decode cX9_zone 94 = .ok (.lload 6, 2) by decide +kernel) (by rfl) ?_
            refine go_putJ (show decode cX9_zone 96 = .ok (.putfield 209, 3) by decide +kernel) fl_X9_209 rfl (Or.inl rfl) q19.1 ?_
            obtain ⟨F24, F24e⟩ : ∃ F24 : AF, F24 = fu F22 z6 1 a6 := ⟨_, rfl⟩
            have h := h F24 F24e
            rw [← F24e]
            refine go_aload (show decode cX9_zone 99 = .ok (.aload 8, 2) by decide +kernel) (by rfl) ?_
            refine go_iconst (show decode cX9_zone 101 = .ok (.iconst 1, 1) by decide +kernel) (by decide) ?_
            refine go_putB (show decode cX9_zone 102 = .ok (.putfield 212, 3) by decide +kernel) fl_X9_212 rfl (Or.inl rfl) q19.1 (by decide) ?_
            obtain ⟨F25, F25e⟩ : ∃ F25 : AF, F25 = fu F24 z6 2 1 := ⟨_, rfl⟩
            have h := h F25 F25e
            rw [← F25e]
            refine go_lload (show decode cX9_zone 105 = .ok (.lload 9, 2) by decide +kernel) (by rfl) ?_
            exact go_lret (show decode cX9_zone 107 = .ok (.lreturn, 1) by decide +kernel) rfl h
          · have h := hf hc
            refine go_ldc2 (show decode cX9_zone 74 = .ok (.ldc2_w 202, 3) by decide +kernel) lc_X9_202 (by decide) ?_
            exact go_lret (show decode cX9_zone 77 = .ok (.lreturn, 1) by decide +kernel) rfl h
        · have h := hf hc
          refine go_ldc2 (show decode cX9_zone 48 = .ok (.ldc2_w 53, 3) by decide +kernel) lc_X9_53 (by decide) ?_
          exact go_lret (show decode cX9_zone 51 = .ok (.lreturn, 1) by decide +kernel) rfl h
    · have h := hf hc
      refine go_ldc2 (show decode cX9_zone 28 = .ok (.ldc2_w 72, 3) by decide +kernel) lc_X9_72 (by decide) ?_
      exact go_lret (show decode cX9_zone 31 = .ok (.lreturn, 1) by decide +kernel) rfl h
def V_X9_zoneAt_0 (d : Nat) (S : AS) (F : AF) (G : AG) (Q : AQ) (a1 : Int) (a2 : Int) : Prop :=
  (1 ≤ d) ∧
  ∃ z6 : Nat, Pu (d - 1) MX2_zoneOf [vR 2, vI a1] S F G (some (vR z6)) ∧
  ((z6 = 0) →
    Q (some (vJ (-2))) S F G) ∧
  ((¬ z6 = 0) →
    ((a2 < 0) →
      Q (some (vJ (-2))) S F G) ∧
    ((¬ a2 < 0) →
      ((a2 ≤ 5) →
        (AtZone S z6) ∧
        ((¬ F z6 2 = 0) →
          ((4 ≤ a2) →
            ((¬ a2 = 4) →
              ∃ z13 : Int, Pu (d - 1) MX2_sumOf [vR 2, vI (-1), vR (z6 + 1)] S F G (some (vJ z13)) ∧
              (r64 ((F z6 1) - z13)) ∧
              Q (some (vJ (max 0 ((F z6 1) - z13)))) S F G) ∧
            ((a2 = 4) →
              Q (some (vJ (F z6 1))) S F G)) ∧
          ((¬ 4 ≤ a2) →
            ∃ z20 : Int, Pu (d - 1) MX3_side [vR (z6 + 1), vI a2] S F G (some (vI z20)) ∧
            Q (some (vJ z20)) S F G)) ∧
        ((F z6 2 = 0) →
          Q (some (vJ (-1))) S F G)) ∧
      ((¬ a2 ≤ 5) →
        Q (some (vJ (-2))) S F G)))
theorem R_X9_zoneAt_0 {d : Nat} {S : AS} {F : AF} {G : AG} {Q : AQ} {a1 : Int} {a2 : Int} (hsh : ShC S) (h : V_X9_zoneAt_0 d S F G Q a1 a2) : Go d MX9_zoneAt 0 [some (vR 1), some (vI a1), some (vI a2), none] [] S F G Q := by
  unfold V_X9_zoneAt_0 at h
  refine go_aload_n (show decode cX9_zoneAt 0 = .ok (.aload_n 0, 1) by decide +kernel) (by rfl) ?_
  refine go_getRc (show decode cX9_zoneAt 1 = .ok (.getfield 20, 3) by decide +kernel) fl_X9_20 rfl (shc_k hsh 1 (by decide) (by decide)) (v := 2) (shc_r hsh 1 1 (by decide) (by decide) (by decide)) ?_
  refine go_iload_n (show decode cX9_zoneAt 4 = .ok (.iload_n 1, 1) by decide +kernel) (by rfl) ?_
  obtain ⟨q1, h⟩ := h
  obtain ⟨z6, p7, h⟩ := h
  refine go_callV (d2 := d - 1) (M2 := MX2_zoneOf) (n := 1) (ci := 2) (av := [vI a1]) (st := []) (show decode cX9_zoneAt 5 = .ok (.invokevirtual 198, 3) by decide +kernel) ml_X9_198 mt_X2_zoneOf min_X2_zoneOf mse_X2_zoneOf (by decide) (shc_k hsh 2 (by decide) (by decide)) rfl (Nat.le_of_ble_eq_true rfl) (by omega) (ok_mono p7 (fun w2 S3 F4 G5 e9 => ?_))
  obtain ⟨e1, e2, e3, e4⟩ := e9
  subst e1
  replace e2 := e2.symm; subst e2
  replace e3 := e3.symm; subst e3
  replace e4 := e4.symm; subst e4
  show Go d MX9_zoneAt 8 [some (vR 1), some (vI a1), some (vI a2), none] [vR z6] S F G Q
  refine go_astore_n (show decode cX9_zoneAt 8 = .ok (.astore_n 3, 1) by decide +kernel) (by decide) ?_
  show Go d MX9_zoneAt 9 [some (vR 1), some (vI a1), some (vI a2), some (vR z6)] [] S F G Q
  refine go_aload_n (show decode cX9_zoneAt 9 = .ok (.aload_n 3, 1) by decide +kernel) (by rfl) ?_
  obtain ⟨ht, hf⟩ := h
  refine go_ifnull (tgt := 22) (show decode cX9_zoneAt 10 = .ok (.ifnull 12, 3) by decide +kernel) (by decide) (fun hc => ?_) (fun hc => ?_)
  · have h := ht hc
    refine go_ldc2 (show decode cX9_zoneAt 22 = .ok (.ldc2_w 72, 3) by decide +kernel) lc_X9_72 (by decide) ?_
    exact go_lret (show decode cX9_zoneAt 25 = .ok (.lreturn, 1) by decide +kernel) rfl h
  · have h := hf hc
    refine go_iload_n (show decode cX9_zoneAt 13 = .ok (.iload_n 2, 1) by decide +kernel) (by rfl) ?_
    obtain ⟨ht, hf⟩ := h
    refine go_iflt (tgt := 22) (show decode cX9_zoneAt 14 = .ok (.ifCond .lt 8, 3) by decide +kernel) (by decide) (fun hc => ?_) (fun hc => ?_)
    · have h := ht hc
      refine go_ldc2 (show decode cX9_zoneAt 22 = .ok (.ldc2_w 72, 3) by decide +kernel) lc_X9_72 (by decide) ?_
      exact go_lret (show decode cX9_zoneAt 25 = .ok (.lreturn, 1) by decide +kernel) rfl h
    · have h := hf hc
      refine go_iload_n (show decode cX9_zoneAt 17 = .ok (.iload_n 2, 1) by decide +kernel) (by rfl) ?_
      refine go_iconst (show decode cX9_zoneAt 18 = .ok (.iconst 5, 1) by decide +kernel) (by decide) ?_
      obtain ⟨ht, hf⟩ := h
      refine go_icmple (tgt := 26) (show decode cX9_zoneAt 19 = .ok (.if_icmp .le 7, 3) by decide +kernel) (by decide) (fun hc => ?_) (fun hc => ?_)
      · have h := ht hc
        refine go_aload_n (show decode cX9_zoneAt 26 = .ok (.aload_n 3, 1) by decide +kernel) (by rfl) ?_
        obtain ⟨q8, h⟩ := h
        refine go_getI (show decode cX9_zoneAt 27 = .ok (.getfield 212, 3) by decide +kernel) fl_X9_212 (Or.inr rfl) q8.1 ?_
        obtain ⟨ht, hf⟩ := h
        refine go_ifne (tgt := 37) (show decode cX9_zoneAt 30 = .ok (.ifCond .ne 7, 3) by decide +kernel) (by decide) (fun hc => ?_) (fun hc => ?_)
        · have h := ht hc
          refine go_iload_n (show decode cX9_zoneAt 37 = .ok (.iload_n 2, 1) by decide +kernel) (by rfl) ?_
          refine go_iconst (show decode cX9_zoneAt 38 = .ok (.iconst 4, 1) by decide +kernel) (by decide) ?_
          obtain ⟨ht, hf⟩ := h
          refine go_icmpge (tgt := 52) (show decode cX9_zoneAt 39 = .ok (.if_icmp .ge 13, 3) by decide +kernel) (by decide) (fun hc => ?_) (fun hc => ?_)
          · have h := ht hc
            refine go_iload_n (show decode cX9_zoneAt 52 = .ok (.iload_n 2, 1) by decide +kernel) (by rfl) ?_
            refine go_iconst (show decode cX9_zoneAt 53 = .ok (.iconst 4, 1) by decide +kernel) (by decide) ?_
            obtain ⟨ht, hf⟩ := h
            refine go_icmpne (tgt := 62) (show decode cX9_zoneAt 54 = .ok (.if_icmp .ne 8, 3) by decide +kernel) (by decide) (fun hc => ?_) (fun hc => ?_)
            · have h := ht hc
              refine go_lconst (n := 0) (show decode cX9_zoneAt 62 = .ok (.lconst 0, 1) by decide +kernel) ?_
              show Go d MX9_zoneAt 63 [some (vR 1), some (vI a1), some (vI a2), some (vR z6)] [vJ 0] S F G Q
              refine go_aload_n (show decode cX9_zoneAt 63 = .ok (.aload_n 3, 1) by decide +kernel) (by rfl) ?_
              refine go_getJ (show decode cX9_zoneAt 64 = .ok (.getfield 209, 3) by decide +kernel) fl_X9_209 rfl q8.1 ?_
              refine go_aload_n (show decode cX9_zoneAt 67 = .ok (.aload_n 0, 1) by decide +kernel) (by rfl) ?_
              refine go_getRc (show decode cX9_zoneAt 68 = .ok (.getfield 20, 3) by decide +kernel) fl_X9_20 rfl (shc_k hsh 1 (by decide) (by decide)) (v := 2) (shc_r hsh 1 1 (by decide) (by decide) (by decide)) ?_
              refine go_iconst (show decode cX9_zoneAt 71 = .ok (.iconst (-1), 1) by decide +kernel) (by decide) ?_
              refine go_aload_n (show decode cX9_zoneAt 72 = .ok (.aload_n 3, 1) by decide +kernel) (by rfl) ?_
              refine go_getRc (show decode cX9_zoneAt 73 = .ok (.getfield 204, 3) by decide +kernel) fl_X9_204 rfl q8.1 (v := (z6 + 1)) q8.2.1 ?_
              obtain ⟨z13, p14, h⟩ := h
              refine go_callV (d2 := d - 1) (M2 := MX2_sumOf) (n := 2) (ci := 2) (av := [vI (-1), vR (z6 + 1)]) (st := [vJ (F z6 1), vJ 0]) (show decode cX9_zoneAt 76 = .ok (.invokevirtual 101, 3) by decide +kernel) ml_X9_101 mt_X2_sumOf min_X2_sumOf mse_X2_sumOf (by decide) (shc_k hsh 2 (by decide) (by decide)) rfl (Nat.le_of_ble_eq_true rfl) (by omega) (ok_mono p14 (fun w9 S10 F11 G12 e9 => ?_))
              obtain ⟨e1, e2, e3, e4⟩ := e9
              subst e1
              replace e2 := e2.symm; subst e2
              replace e3 := e3.symm; subst e3
              replace e4 := e4.symm; subst e4
              show Go d MX9_zoneAt 79 [some (vR 1), some (vI a1), some (vI a2), some (vR z6)] [vJ z13, vJ (F z6 1), vJ 0] S F G Q
              obtain ⟨q15, h⟩ := h
              refine go_lsub (show decode cX9_zoneAt 79 = .ok (.lsub, 1) by decide +kernel) q15 ?_
              refine go_maxJm (show decode cX9_zoneAt 80 = .ok (.invokestatic 176, 3) by decide +kernel) ml_X9_176 mh_maxJ_s mh_i mh_maxJ_c (Nat.le_of_ble_eq_true rfl) q1 ?_
              exact go_lret (show decode cX9_zoneAt 83 = .ok (.lreturn, 1) by decide +kernel) rfl h
            · have h := hf hc
              refine go_aload_n (show decode cX9_zoneAt 57 = .ok (.aload_n 3, 1) by decide +kernel) (by rfl) ?_
              refine go_getJ (show decode cX9_zoneAt 58 = .ok (.getfield 209, 3) by decide +kernel) fl_X9_209 rfl q8.1 ?_
              exact go_lret (show decode cX9_zoneAt 61 = .ok (.lreturn, 1) by decide +kernel) rfl h
          · have h := hf hc
            refine go_aload_n (show decode cX9_zoneAt 42 = .ok (.aload_n 3, 1) by decide +kernel) (by rfl) ?_
            refine go_getRc (show decode cX9_zoneAt 43 = .ok (.getfield 204, 3) by decide +kernel) fl_X9_204 rfl q8.1 (v := (z6 + 1)) q8.2.1 ?_
            refine go_iload_n (show decode cX9_zoneAt 46 = .ok (.iload_n 2, 1) by decide +kernel) (by rfl) ?_
            obtain ⟨z20, p21, h⟩ := h
            refine go_callV (d2 := d - 1) (M2 := MX3_side) (n := 1) (ci := 3) (av := [vI a2]) (st := []) (show decode cX9_zoneAt 47 = .ok (.invokevirtual 218, 3) by decide +kernel) ml_X9_218 mt_X3_side min_X3_side mse_X3_side (by decide) q8.2.2 rfl (Nat.le_of_ble_eq_true rfl) (by omega) (ok_mono p21 (fun w16 S17 F18 G19 e9 => ?_))
            obtain ⟨e1, e2, e3, e4⟩ := e9
            subst e1
            replace e2 := e2.symm; subst e2
            replace e3 := e3.symm; subst e3
            replace e4 := e4.symm; subst e4
            show Go d MX9_zoneAt 50 [some (vR 1), some (vI a1), some (vI a2), some (vR z6)] [vI z20] S F G Q
            refine go_i2l (show decode cX9_zoneAt 50 = .ok (.i2l, 1) by decide +kernel) ?_
            exact go_lret (show decode cX9_zoneAt 51 = .ok (.lreturn, 1) by decide +kernel) rfl h
        · have h := hf hc
          refine go_ldc2 (show decode cX9_zoneAt 33 = .ok (.ldc2_w 216, 3) by decide +kernel) lc_X9_216 (by decide) ?_
          exact go_lret (show decode cX9_zoneAt 36 = .ok (.lreturn, 1) by decide +kernel) rfl h
      · have h := hf hc
        refine go_ldc2 (show decode cX9_zoneAt 22 = .ok (.ldc2_w 72, 3) by decide +kernel) lc_X9_72 (by decide) ?_
        exact go_lret (show decode cX9_zoneAt 25 = .ok (.lreturn, 1) by decide +kernel) rfl h
def V_X9_begin_0 (d : Nat) (S : AS) (F : AF) (G : AG) (Q : AQ)  : Prop :=
  ((F 2 8 < 8) →
    (1 ≤ d) ∧
    Ok (d - 1) MX2_save [vR 2] S F G (fun w2 S3 F4 G5 =>
    w2 = none ∧
    (ShC S3) ∧
    Q (some (vI (F4 2 8))) S3 F4 G5)) ∧
  ((¬ F 2 8 < 8) →
    Q (some (vI (-4))) S F G)
theorem R_X9_begin_0 {d : Nat} {S : AS} {F : AF} {G : AG} {Q : AQ}  (hsh : ShC S) (h : V_X9_begin_0 d S F G Q ) : Go d MX9_begin 0 [some (vR 1)] [] S F G Q := by
  unfold V_X9_begin_0 at h
  refine go_aload_n (show decode cX9_begin 0 = .ok (.aload_n 0, 1) by decide +kernel) (by rfl) ?_
  refine go_getRc (show decode cX9_begin 1 = .ok (.getfield 20, 3) by decide +kernel) fl_X9_20 rfl (shc_k hsh 1 (by decide) (by decide)) (v := 2) (shc_r hsh 1 1 (by decide) (by decide) (by decide)) ?_
  refine go_getI (show decode cX9_begin 4 = .ok (.getfield 221, 3) by decide +kernel) fl_X9_221 (Or.inl rfl) (shc_k hsh 2 (by decide) (by decide)) ?_
  refine go_bipush (show decode cX9_begin 7 = .ok (.bipush 8, 2) by decide +kernel) (by decide) ?_
  obtain ⟨ht, hf⟩ := h
  refine go_icmplt (tgt := 15) (show decode cX9_begin 9 = .ok (.if_icmp .lt 6, 3) by decide +kernel) (by decide) (fun hc => ?_) (fun hc => ?_)
  · have h := ht hc
    refine go_aload_n (show decode cX9_begin 15 = .ok (.aload_n 0, 1) by decide +kernel) (by rfl) ?_
    refine go_getRc (show decode cX9_begin 16 = .ok (.getfield 20, 3) by decide +kernel) fl_X9_20 rfl (shc_k hsh 1 (by decide) (by decide)) (v := 2) (shc_r hsh 1 1 (by decide) (by decide) (by decide)) ?_
    obtain ⟨q1, h⟩ := h
    refine go_callV (d2 := d - 1) (M2 := MX2_save) (n := 0) (ci := 2) (av := []) (st := []) (show decode cX9_begin 19 = .ok (.invokevirtual 224, 3) by decide +kernel) ml_X9_224 mt_X2_save min_X2_save mse_X2_save (by decide) (shc_k hsh 2 (by decide) (by decide)) rfl (Nat.le_of_ble_eq_true rfl) (by omega) (ok_mono h (fun w2 S3 F4 G5 h => ?_))
    obtain ⟨e9, h⟩ := h
    subst e9
    obtain ⟨hsh, h⟩ := h
    show Go d MX9_begin 22 [some (vR 1)] [] S3 F4 G5 Q
    refine go_aload_n (show decode cX9_begin 22 = .ok (.aload_n 0, 1) by decide +kernel) (by rfl) ?_
    refine go_getRc (show decode cX9_begin 23 = .ok (.getfield 20, 3) by decide +kernel) fl_X9_20 rfl (shc_k hsh 1 (by decide) (by decide)) (v := 2) (shc_r hsh 1 1 (by decide) (by decide) (by decide)) ?_
    refine go_getI (show decode cX9_begin 26 = .ok (.getfield 221, 3) by decide +kernel) fl_X9_221 (Or.inl rfl) (shc_k hsh 2 (by decide) (by decide)) ?_
    exact go_iret (show decode cX9_begin 29 = .ok (.ireturn, 1) by decide +kernel) rfl h
  · have h := hf hc
    refine go_bipush (show decode cX9_begin 12 = .ok (.bipush (-4), 2) by decide +kernel) (by decide) ?_
    exact go_iret (show decode cX9_begin 14 = .ok (.ireturn, 1) by decide +kernel) rfl h
def V_X9_commit_0 (d : Nat) (S : AS) (F : AF) (G : AG) (Q : AQ)  : Prop :=
  ((1 ≤ F 2 8) →
    (1 ≤ d) ∧
    Ok (d - 1) MX2_joinInnermost [vR 2] S F G (fun w2 S3 F4 G5 =>
    S3 = S ∧
    w2 = none ∧
    Q (some (vI (F4 2 8))) S F4 G5)) ∧
  ((¬ 1 ≤ F 2 8) →
    Q (some (vI (-8))) S F G)
theorem R_X9_commit_0 {d : Nat} {S : AS} {F : AF} {G : AG} {Q : AQ}  (hsh : ShC S) (h : V_X9_commit_0 d S F G Q ) : Go d MX9_commit 0 [some (vR 1)] [] S F G Q := by
  unfold V_X9_commit_0 at h
  refine go_aload_n (show decode cX9_commit 0 = .ok (.aload_n 0, 1) by decide +kernel) (by rfl) ?_
  refine go_getRc (show decode cX9_commit 1 = .ok (.getfield 20, 3) by decide +kernel) fl_X9_20 rfl (shc_k hsh 1 (by decide) (by decide)) (v := 2) (shc_r hsh 1 1 (by decide) (by decide) (by decide)) ?_
  refine go_getI (show decode cX9_commit 4 = .ok (.getfield 221, 3) by decide +kernel) fl_X9_221 (Or.inl rfl) (shc_k hsh 2 (by decide) (by decide)) ?_
  refine go_iconst (show decode cX9_commit 7 = .ok (.iconst 1, 1) by decide +kernel) (by decide) ?_
  obtain ⟨ht, hf⟩ := h
  refine go_icmpge (tgt := 14) (show decode cX9_commit 8 = .ok (.if_icmp .ge 6, 3) by decide +kernel) (by decide) (fun hc => ?_) (fun hc => ?_)
  · have h := ht hc
    refine go_aload_n (show decode cX9_commit 14 = .ok (.aload_n 0, 1) by decide +kernel) (by rfl) ?_
    refine go_getRc (show decode cX9_commit 15 = .ok (.getfield 20, 3) by decide +kernel) fl_X9_20 rfl (shc_k hsh 1 (by decide) (by decide)) (v := 2) (shc_r hsh 1 1 (by decide) (by decide) (by decide)) ?_
    obtain ⟨q1, h⟩ := h
    refine go_callV (d2 := d - 1) (M2 := MX2_joinInnermost) (n := 0) (ci := 2) (av := []) (st := []) (show decode cX9_commit 18 = .ok (.invokevirtual 227, 3) by decide +kernel) ml_X9_227 mt_X2_joinInnermost min_X2_joinInnermost mse_X2_joinInnermost (by decide) (shc_k hsh 2 (by decide) (by decide)) rfl (Nat.le_of_ble_eq_true rfl) (by omega) (ok_mono h (fun w2 S3 F4 G5 h => ?_))
    obtain ⟨e8, h⟩ := h
    replace e8 := e8.symm; subst e8
    obtain ⟨e9, h⟩ := h
    subst e9
    show Go d MX9_commit 21 [some (vR 1)] [] S F4 G5 Q
    refine go_aload_n (show decode cX9_commit 21 = .ok (.aload_n 0, 1) by decide +kernel) (by rfl) ?_
    refine go_getRc (show decode cX9_commit 22 = .ok (.getfield 20, 3) by decide +kernel) fl_X9_20 rfl (shc_k hsh 1 (by decide) (by decide)) (v := 2) (shc_r hsh 1 1 (by decide) (by decide) (by decide)) ?_
    refine go_getI (show decode cX9_commit 25 = .ok (.getfield 221, 3) by decide +kernel) fl_X9_221 (Or.inl rfl) (shc_k hsh 2 (by decide) (by decide)) ?_
    exact go_iret (show decode cX9_commit 28 = .ok (.ireturn, 1) by decide +kernel) rfl h
  · have h := hf hc
    refine go_bipush (show decode cX9_commit 11 = .ok (.bipush (-8), 2) by decide +kernel) (by decide) ?_
    exact go_iret (show decode cX9_commit 13 = .ok (.ireturn, 1) by decide +kernel) rfl h
def V_X9_cancel_0 (d : Nat) (S : AS) (F : AF) (G : AG) (Q : AQ)  : Prop :=
  ((1 ≤ F 2 8) →
    (1 ≤ d) ∧
    Ok (d - 1) MX2_restore [vR 2] S F G (fun w2 S3 F4 G5 =>
    S3 = S ∧
    ∃ z6 : Int, w2 = some (vI z6) ∧
    Ok (d - 1) MX6_dropLatest [vR 44, vI z6] S F4 G5 (fun w7 S8 F9 G10 =>
    S8 = S ∧
    w7 = none ∧
    Q (some (vI z6)) S F9 G10))) ∧
  ((¬ 1 ≤ F 2 8) →
    Q (some (vI (-8))) S F G)
theorem R_X9_cancel_0 {d : Nat} {S : AS} {F : AF} {G : AG} {Q : AQ}  (hsh : ShC S) (h : V_X9_cancel_0 d S F G Q ) : Go d MX9_cancel 0 [some (vR 1), none] [] S F G Q := by
  unfold V_X9_cancel_0 at h
  refine go_aload_n (show decode cX9_cancel 0 = .ok (.aload_n 0, 1) by decide +kernel) (by rfl) ?_
  refine go_getRc (show decode cX9_cancel 1 = .ok (.getfield 20, 3) by decide +kernel) fl_X9_20 rfl (shc_k hsh 1 (by decide) (by decide)) (v := 2) (shc_r hsh 1 1 (by decide) (by decide) (by decide)) ?_
  refine go_getI (show decode cX9_cancel 4 = .ok (.getfield 221, 3) by decide +kernel) fl_X9_221 (Or.inl rfl) (shc_k hsh 2 (by decide) (by decide)) ?_
  refine go_iconst (show decode cX9_cancel 7 = .ok (.iconst 1, 1) by decide +kernel) (by decide) ?_
  obtain ⟨ht, hf⟩ := h
  refine go_icmpge (tgt := 14) (show decode cX9_cancel 8 = .ok (.if_icmp .ge 6, 3) by decide +kernel) (by decide) (fun hc => ?_) (fun hc => ?_)
  · have h := ht hc
    refine go_aload_n (show decode cX9_cancel 14 = .ok (.aload_n 0, 1) by decide +kernel) (by rfl) ?_
    refine go_getRc (show decode cX9_cancel 15 = .ok (.getfield 20, 3) by decide +kernel) fl_X9_20 rfl (shc_k hsh 1 (by decide) (by decide)) (v := 2) (shc_r hsh 1 1 (by decide) (by decide) (by decide)) ?_
    obtain ⟨q1, h⟩ := h
    refine go_callV (d2 := d - 1) (M2 := MX2_restore) (n := 0) (ci := 2) (av := []) (st := []) (show decode cX9_cancel 18 = .ok (.invokevirtual 230, 3) by decide +kernel) ml_X9_230 mt_X2_restore min_X2_restore mse_X2_restore (by decide) (shc_k hsh 2 (by decide) (by decide)) rfl (Nat.le_of_ble_eq_true rfl) (by omega) (ok_mono h (fun w2 S3 F4 G5 h => ?_))
    obtain ⟨e8, h⟩ := h
    replace e8 := e8.symm; subst e8
    obtain ⟨z6, e9, h⟩ := h
    subst e9
    show Go d MX9_cancel 21 [some (vR 1), none] [vI z6] S F4 G5 Q
    refine go_istore_n (show decode cX9_cancel 21 = .ok (.istore_n 1, 1) by decide +kernel) (by decide) ?_
    show Go d MX9_cancel 22 [some (vR 1), some (vI z6)] [] S F4 G5 Q
    refine go_aload_n (show decode cX9_cancel 22 = .ok (.aload_n 0, 1) by decide +kernel) (by rfl) ?_
    refine go_getRc (show decode cX9_cancel 23 = .ok (.getfield 24, 3) by decide +kernel) fl_X9_24 rfl (shc_k hsh 1 (by decide) (by decide)) (v := 44) (shc_r hsh 1 2 (by decide) (by decide) (by decide)) ?_
    refine go_iload_n (show decode cX9_cancel 26 = .ok (.iload_n 1, 1) by decide +kernel) (by rfl) ?_
    refine go_callV (d2 := d - 1) (M2 := MX6_dropLatest) (n := 1) (ci := 6) (av := [vI z6]) (st := []) (show decode cX9_cancel 27 = .ok (.invokevirtual 233, 3) by decide +kernel) ml_X9_233 mt_X6_dropLatest min_X6_dropLatest mse_X6_dropLatest (by decide) (shc_k hsh 44 (by decide) (by decide)) rfl (Nat.le_of_ble_eq_true rfl) (by omega) (ok_mono h (fun w7 S8 F9 G10 h => ?_))
    obtain ⟨e8, h⟩ := h
    replace e8 := e8.symm; subst e8
    obtain ⟨e9, h⟩ := h
    subst e9
    show Go d MX9_cancel 30 [some (vR 1), some (vI z6)] [] S F9 G10 Q
    refine go_iload_n (show decode cX9_cancel 30 = .ok (.iload_n 1, 1) by decide +kernel) (by rfl) ?_
    exact go_iret (show decode cX9_cancel 31 = .ok (.ireturn, 1) by decide +kernel) rfl h
  · have h := hf hc
    refine go_bipush (show decode cX9_cancel 11 = .ok (.bipush (-8), 2) by decide +kernel) (by decide) ?_
    exact go_iret (show decode cX9_cancel 13 = .ok (.ireturn, 1) by decide +kernel) rfl h
def V_X9_feed_0 (d : Nat) (S : AS) (F : AF) (G : AG) (Q : AQ) (a1 : Int) (a2 : Int) (a3 : Int) (a4 : Int) (a5 : Int) : Prop :=
  (1 ≤ d) ∧
  ∃ z6 : Int, Pu (d - 1) MX5_hasRoom [vR 46] S F G (some (vI z6)) ∧
  ((¬ z6 = 0) →
    Ok (d - 1) MX5_put [vR 46, vI a1] S F G (fun w8 S9 F10 G11 =>
    S9 = S ∧
    w8 = none ∧
    Ok (d - 1) MX5_put [vR 46, vI a2] S F10 G11 (fun w12 S13 F14 G15 =>
    S13 = S ∧
    w12 = none ∧
    Ok (d - 1) MX5_put [vR 46, vI a3] S F14 G15 (fun w16 S17 F18 G19 =>
    S17 = S ∧
    w16 = none ∧
    Ok (d - 1) MX5_put [vR 46, vI a4] S F18 G19 (fun w20 S21 F22 G23 =>
    S21 = S ∧
    w20 = none ∧
    Ok (d - 1) MX5_put [vR 46, vI a5] S F22 G23 (fun w24 S25 F26 G27 =>
    S25 = S ∧
    w24 = none ∧
    Q (some (vI (F26 46 1))) S F26 G27)))))) ∧
  ((z6 = 0) →
    Q (some (vI (-4))) S F G)
theorem R_X9_feed_0 {d : Nat} {S : AS} {F : AF} {G : AG} {Q : AQ} {a1 : Int} {a2 : Int} {a3 : Int} {a4 : Int} {a5 : Int} (hsh : ShC S) (h : V_X9_feed_0 d S F G Q a1 a2 a3 a4 a5) : Go d MX9_feed 0 [some (vR 1), some (vI a1), some (vI a2), some (vI a3), some (vI a4), some (vI a5)] [] S F G Q := by
  unfold V_X9_feed_0 at h
  refine go_aload_n (show decode cX9_feed 0 = .ok (.aload_n 0, 1) by decide +kernel) (by rfl) ?_
  refine go_getRc (show decode cX9_feed 1 = .ok (.getfield 31, 3) by decide +kernel) fl_X9_31 rfl (shc_k hsh 1 (by decide) (by decide)) (v := 46) (shc_r hsh 1 3 (by decide) (by decide) (by decide)) ?_
  obtain ⟨q1, h⟩ := h
  obtain ⟨z6, p7, h⟩ := h
  refine go_callV (d2 := d - 1) (M2 := MX5_hasRoom) (n := 0) (ci := 5) (av := []) (st := []) (show decode cX9_feed 4 = .ok (.invokevirtual 236, 3) by decide +kernel) ml_X9_236 mt_X5_hasRoom min_X5_hasRoom mse_X5_hasRoom (by decide) (shc_k hsh 46 (by decide) (by decide)) rfl (Nat.le_of_ble_eq_true rfl) (by omega) (ok_mono p7 (fun w2 S3 F4 G5 e9 => ?_))
  obtain ⟨e1, e2, e3, e4⟩ := e9
  subst e1
  replace e2 := e2.symm; subst e2
  replace e3 := e3.symm; subst e3
  replace e4 := e4.symm; subst e4
  show Go d MX9_feed 7 [some (vR 1), some (vI a1), some (vI a2), some (vI a3), some (vI a4), some (vI a5)] [vI z6] S F G Q
  obtain ⟨ht, hf⟩ := h
  refine go_ifne (tgt := 13) (show decode cX9_feed 7 = .ok (.ifCond .ne 6, 3) by decide +kernel) (by decide) (fun hc => ?_) (fun hc => ?_)
  · have h := ht hc
    refine go_aload_n (show decode cX9_feed 13 = .ok (.aload_n 0, 1) by decide +kernel) (by rfl) ?_
    refine go_getRc (show decode cX9_feed 14 = .ok (.getfield 31, 3) by decide +kernel) fl_X9_31 rfl (shc_k hsh 1 (by decide) (by decide)) (v := 46) (shc_r hsh 1 3 (by decide) (by decide) (by decide)) ?_
    refine go_iload_n (show decode cX9_feed 17 = .ok (.iload_n 1, 1) by decide +kernel) (by rfl) ?_
    refine go_callV (d2 := d - 1) (M2 := MX5_put) (n := 1) (ci := 5) (av := [vI a1]) (st := []) (show decode cX9_feed 18 = .ok (.invokevirtual 239, 3) by decide +kernel) ml_X9_239 mt_X5_put min_X5_put mse_X5_put (by decide) (shc_k hsh 46 (by decide) (by decide)) rfl (Nat.le_of_ble_eq_true rfl) (by omega) (ok_mono h (fun w8 S9 F10 G11 h => ?_))
    obtain ⟨e8, h⟩ := h
    replace e8 := e8.symm; subst e8
    obtain ⟨e9, h⟩ := h
    subst e9
    show Go d MX9_feed 21 [some (vR 1), some (vI a1), some (vI a2), some (vI a3), some (vI a4), some (vI a5)] [] S F10 G11 Q
    refine go_aload_n (show decode cX9_feed 21 = .ok (.aload_n 0, 1) by decide +kernel) (by rfl) ?_
    refine go_getRc (show decode cX9_feed 22 = .ok (.getfield 31, 3) by decide +kernel) fl_X9_31 rfl (shc_k hsh 1 (by decide) (by decide)) (v := 46) (shc_r hsh 1 3 (by decide) (by decide) (by decide)) ?_
    refine go_iload_n (show decode cX9_feed 25 = .ok (.iload_n 2, 1) by decide +kernel) (by rfl) ?_
    refine go_callV (d2 := d - 1) (M2 := MX5_put) (n := 1) (ci := 5) (av := [vI a2]) (st := []) (show decode cX9_feed 26 = .ok (.invokevirtual 239, 3) by decide +kernel) ml_X9_239 mt_X5_put min_X5_put mse_X5_put (by decide) (shc_k hsh 46 (by decide) (by decide)) rfl (Nat.le_of_ble_eq_true rfl) (by omega) (ok_mono h (fun w12 S13 F14 G15 h => ?_))
    obtain ⟨e8, h⟩ := h
    replace e8 := e8.symm; subst e8
    obtain ⟨e9, h⟩ := h
    subst e9
    show Go d MX9_feed 29 [some (vR 1), some (vI a1), some (vI a2), some (vI a3), some (vI a4), some (vI a5)] [] S F14 G15 Q
    refine go_aload_n (show decode cX9_feed 29 = .ok (.aload_n 0, 1) by decide +kernel) (by rfl) ?_
    refine go_getRc (show decode cX9_feed 30 = .ok (.getfield 31, 3) by decide +kernel) fl_X9_31 rfl (shc_k hsh 1 (by decide) (by decide)) (v := 46) (shc_r hsh 1 3 (by decide) (by decide) (by decide)) ?_
    refine go_iload_n (show decode cX9_feed 33 = .ok (.iload_n 3, 1) by decide +kernel) (by rfl) ?_
    refine go_callV (d2 := d - 1) (M2 := MX5_put) (n := 1) (ci := 5) (av := [vI a3]) (st := []) (show decode cX9_feed 34 = .ok (.invokevirtual 239, 3) by decide +kernel) ml_X9_239 mt_X5_put min_X5_put mse_X5_put (by decide) (shc_k hsh 46 (by decide) (by decide)) rfl (Nat.le_of_ble_eq_true rfl) (by omega) (ok_mono h (fun w16 S17 F18 G19 h => ?_))
    obtain ⟨e8, h⟩ := h
    replace e8 := e8.symm; subst e8
    obtain ⟨e9, h⟩ := h
    subst e9
    show Go d MX9_feed 37 [some (vR 1), some (vI a1), some (vI a2), some (vI a3), some (vI a4), some (vI a5)] [] S F18 G19 Q
    refine go_aload_n (show decode cX9_feed 37 = .ok (.aload_n 0, 1) by decide +kernel) (by rfl) ?_
    refine go_getRc (show decode cX9_feed 38 = .ok (.getfield 31, 3) by decide +kernel) fl_X9_31 rfl (shc_k hsh 1 (by decide) (by decide)) (v := 46) (shc_r hsh 1 3 (by decide) (by decide) (by decide)) ?_
    refine go_iload (show decode cX9_feed 41 = .ok (.iload 4, 2) by decide +kernel) (by rfl) ?_
    refine go_callV (d2 := d - 1) (M2 := MX5_put) (n := 1) (ci := 5) (av := [vI a4]) (st := []) (show decode cX9_feed 43 = .ok (.invokevirtual 239, 3) by decide +kernel) ml_X9_239 mt_X5_put min_X5_put mse_X5_put (by decide) (shc_k hsh 46 (by decide) (by decide)) rfl (Nat.le_of_ble_eq_true rfl) (by omega) (ok_mono h (fun w20 S21 F22 G23 h => ?_))
    obtain ⟨e8, h⟩ := h
    replace e8 := e8.symm; subst e8
    obtain ⟨e9, h⟩ := h
    subst e9
    show Go d MX9_feed 46 [some (vR 1), some (vI a1), some (vI a2), some (vI a3), some (vI a4), some (vI a5)] [] S F22 G23 Q
    refine go_aload_n (show decode cX9_feed 46 = .ok (.aload_n 0, 1) by decide +kernel) (by rfl) ?_
    refine go_getRc (show decode cX9_feed 47 = .ok (.getfield 31, 3) by decide +kernel) fl_X9_31 rfl (shc_k hsh 1 (by decide) (by decide)) (v := 46) (shc_r hsh 1 3 (by decide) (by decide) (by decide)) ?_
    refine go_iload (show decode cX9_feed 50 = .ok (.iload 5, 2) by decide +kernel) (by rfl) ?_
    refine go_callV (d2 := d - 1) (M2 := MX5_put) (n := 1) (ci := 5) (av := [vI a5]) (st := []) (show decode cX9_feed 52 = .ok (.invokevirtual 239, 3) by decide +kernel) ml_X9_239 mt_X5_put min_X5_put mse_X5_put (by decide) (shc_k hsh 46 (by decide) (by decide)) rfl (Nat.le_of_ble_eq_true rfl) (by omega) (ok_mono h (fun w24 S25 F26 G27 h => ?_))
    obtain ⟨e8, h⟩ := h
    replace e8 := e8.symm; subst e8
    obtain ⟨e9, h⟩ := h
    subst e9
    show Go d MX9_feed 55 [some (vR 1), some (vI a1), some (vI a2), some (vI a3), some (vI a4), some (vI a5)] [] S F26 G27 Q
    refine go_aload_n (show decode cX9_feed 55 = .ok (.aload_n 0, 1) by decide +kernel) (by rfl) ?_
    refine go_getRc (show decode cX9_feed 56 = .ok (.getfield 31, 3) by decide +kernel) fl_X9_31 rfl (shc_k hsh 1 (by decide) (by decide)) (v := 46) (shc_r hsh 1 3 (by decide) (by decide) (by decide)) ?_
    refine go_getI (show decode cX9_feed 59 = .ok (.getfield 240, 3) by decide +kernel) fl_X9_240 (Or.inl rfl) (shc_k hsh 46 (by decide) (by decide)) ?_
    exact go_iret (show decode cX9_feed 62 = .ok (.ireturn, 1) by decide +kernel) rfl h
  · have h := hf hc
    refine go_bipush (show decode cX9_feed 10 = .ok (.bipush (-4), 2) by decide +kernel) (by decide) ?_
    exact go_iret (show decode cX9_feed 12 = .ok (.ireturn, 1) by decide +kernel) rfl h
def V_X9_run_51 (d : Nat) (S : AS) (F : AF) (G : AG) (Q : AQ) (a1 : Int) (a2 : Int) (a3 : Int) : Prop :=
  ((F 46 9 ≤ a3) →
    Q (some (vI (F 46 9))) S F G) ∧
  ((¬ F 46 9 ≤ a3) →
    (1 ≤ d) ∧
    Ok (d - 1) MX9_doTold [vR 1, vI a3] S F G (fun w2 S3 F4 G5 =>
    ∃ z6 : Int, w2 = some (vJ z6) ∧
    (ShC S3) ∧
    ((0 ≤ z6) →
      (r32 (a3 + 1)) ∧
      Go d MX9_run 51 [some (vR 1), some (vI a1), some (vI a2), some (vI (a3 + 1)), none, none] [] S3 F4 G5 Q) ∧
    ((¬ 0 ≤ z6) →
      (r32 (z6)) ∧
      ∀ F9 : AF, F9 = fu F4 1 6 z6 →
      Q (some (vI a3)) S3 F9 G5)))
theorem R_X9_run_51 {d : Nat} {S : AS} {F : AF} {G : AG} {Q : AQ} {a1 : Int} {a2 : Int} {a3 : Int} (hsh : ShC S) (h : V_X9_run_51 d S F G Q a1 a2 a3) : Go d MX9_run 51 [some (vR 1), some (vI a1), some (vI a2), some (vI a3), none, none] [] S F G Q := by
  unfold V_X9_run_51 at h
  refine go_iload_n (show decode cX9_run 51 = .ok (.iload_n 3, 1) by decide +kernel) (by rfl) ?_
  refine go_aload_n (show decode cX9_run 52 = .ok (.aload_n 0, 1) by decide +kernel) (by rfl) ?_
  refine go_getRc (show decode cX9_run 53 = .ok (.getfield 31, 3) by decide +kernel) fl_X9_31 rfl (shc_k hsh 1 (by decide) (by decide)) (v := 46) (shc_r hsh 1 3 (by decide) (by decide) (by decide)) ?_
  refine go_getI (show decode cX9_run 56 = .ok (.getfield 249, 3) by decide +kernel) fl_X9_249 (Or.inl rfl) (shc_k hsh 46 (by decide) (by decide)) ?_
  obtain ⟨ht, hf⟩ := h
  refine go_icmpge (tgt := 91) (show decode cX9_run 59 = .ok (.if_icmp .ge 32, 3) by decide +kernel) (by decide) (fun hc => ?_) (fun hc => ?_)
  · have h := ht hc
    refine go_aload_n (show decode cX9_run 91 = .ok (.aload_n 0, 1) by decide +kernel) (by rfl) ?_
    refine go_getRc (show decode cX9_run 92 = .ok (.getfield 31, 3) by decide +kernel) fl_X9_31 rfl (shc_k hsh 1 (by decide) (by decide)) (v := 46) (shc_r hsh 1 3 (by decide) (by decide) (by decide)) ?_
    refine go_getI (show decode cX9_run 95 = .ok (.getfield 249, 3) by decide +kernel) fl_X9_249 (Or.inl rfl) (shc_k hsh 46 (by decide) (by decide)) ?_
    exact go_iret (show decode cX9_run 98 = .ok (.ireturn, 1) by decide +kernel) rfl h
  · have h := hf hc
    refine go_aload_n (show decode cX9_run 62 = .ok (.aload_n 0, 1) by decide +kernel) (by rfl) ?_
    refine go_iload_n (show decode cX9_run 63 = .ok (.iload_n 3, 1) by decide +kernel) (by rfl) ?_
    obtain ⟨q1, h⟩ := h
    refine go_callV (d2 := d - 1) (M2 := MX9_doTold) (n := 1) (ci := 9) (av := [vI a3]) (st := []) (show decode cX9_run 64 = .ok (.invokevirtual 252, 3) by decide +kernel) ml_X9_252 mt_X9_doTold min_X9_doTold mse_X9_doTold (by decide) (shc_k hsh 1 (by decide) (by decide)) rfl (Nat.le_of_ble_eq_true rfl) (by omega) (ok_mono h (fun w2 S3 F4 G5 h => ?_))
    obtain ⟨z6, e9, h⟩ := h
    subst e9
    obtain ⟨hsh, h⟩ := h
    show Go d MX9_run 67 [some (vR 1), some (vI a1), some (vI a2), some (vI a3), none, none] [vJ z6] S3 F4 G5 Q
    refine go_lstore (show decode cX9_run 67 = .ok (.lstore 4, 2) by decide +kernel) (by decide) ?_
    show Go d MX9_run 69 [some (vR 1), some (vI a1), some (vI a2), some (vI a3), some (vJ z6), none] [] S3 F4 G5 Q
    refine go_lload (show decode cX9_run 69 = .ok (.lload 4, 2) by decide +kernel) (by rfl) ?_
    refine go_lconst (n := 0) (show decode cX9_run 71 = .ok (.lconst 0, 1) by decide +kernel) ?_
    show Go d MX9_run 72 [some (vR 1), some (vI a1), some (vI a2), some (vI a3), some (vJ z6), none] [vJ 0, vJ z6] S3 F4 G5 Q
    obtain ⟨ht, hf⟩ := h
    refine go_jge (tgt := 85) (show decode cX9_run 72 = .ok (.lcmp, 1) by decide +kernel) (show decode cX9_run 73 = .ok (.ifCond .ge 12, 3) by decide +kernel) (by decide) (fun hc => ?_) (fun hc => ?_)
    · have h := ht hc
      obtain ⟨q7, h⟩ := h
      refine go_iinc (show decode cX9_run 85 = .ok (.iinc 3 1, 3) by decide +kernel) (by rfl) q7 (by decide) ?_
      show Go d MX9_run 88 [some (vR 1), some (vI a1), some (vI a2), some (vI (a3 + 1)), some (vJ z6), none] [] S3 F4 G5 Q
      refine go_goto (tgt := 51) (show decode cX9_run 88 = .ok (.goto (-37), 3) by decide +kernel) (by decide) ?_
      refine go_clr 4 ?_
      exact h
    · have h := hf hc
      refine go_aload_n (show decode cX9_run 76 = .ok (.aload_n 0, 1) by decide +kernel) (by rfl) ?_
      refine go_lload (show decode cX9_run 77 = .ok (.lload 4, 2) by decide +kernel) (by rfl) ?_
      obtain ⟨q8, h⟩ := h
      refine go_l2i (show decode cX9_run 79 = .ok (.l2i, 1) by decide +kernel) q8 ?_
      refine go_putI (show decode cX9_run 80 = .ok (.putfield 246, 3) by decide +kernel) fl_X9_246 rfl (Or.inl rfl) (shc_k hsh 1 (by decide) (by decide)) ?_
      obtain ⟨F9, F9e⟩ : ∃ F9 : AF, F9 = fu F4 1 6 z6 := ⟨_, rfl⟩
      have h := h F9 F9e
      rw [← F9e]
      refine go_iload_n (show decode cX9_run 83 = .ok (.iload_n 3, 1) by decide +kernel) (by rfl) ?_
      exact go_iret (show decode cX9_run 84 = .ok (.ireturn, 1) by decide +kernel) rfl h
def V_X9_run_0 (d : Nat) (S : AS) (F : AF) (G : AG) (Q : AQ) (a1 : Int) : Prop :=
  ((a1 < 0) →
    Q (some (vI (-3))) S F G) ∧
  ((¬ a1 < 0) →
    ((a1 ≤ F 46 1) →
      (1 ≤ d) ∧
      Ok (d - 1) MX5_read [vR 46, vI a1] S F G (fun w2 S3 F4 G5 =>
      S3 = S ∧
      ∃ z6 : Int, w2 = some (vI z6) ∧
      ∀ F7 : AF, F7 = fu F4 46 1 0 →
      ∀ F8 : AF, F8 = fu F7 1 6 0 →
      ((z6 = 0) →
        Go d MX9_run 51 [some (vR 1), some (vI a1), some (vI z6), some (vI 0), none, none] [] S F8 G5 Q) ∧
      ((¬ z6 = 0) →
        (r32 ((-30) - z6)) ∧
        Q (some (vI ((-30) - z6))) S F8 G5))) ∧
    ((¬ a1 ≤ F 46 1) →
      Q (some (vI (-3))) S F G))
theorem R_X9_run_0 {d : Nat} {S : AS} {F : AF} {G : AG} {Q : AQ} {a1 : Int} (hsh : ShC S) (h : V_X9_run_0 d S F G Q a1) : Go d MX9_run 0 [some (vR 1), some (vI a1), none, none, none, none] [] S F G Q := by
  unfold V_X9_run_0 at h
  refine go_iload_n (show decode cX9_run 0 = .ok (.iload_n 1, 1) by decide +kernel) (by rfl) ?_
  obtain ⟨ht, hf⟩ := h
  refine go_iflt (tgt := 15) (show decode cX9_run 1 = .ok (.ifCond .lt 14, 3) by decide +kernel) (by decide) (fun hc => ?_) (fun hc => ?_)
  · have h := ht hc
    refine go_bipush (show decode cX9_run 15 = .ok (.bipush (-3), 2) by decide +kernel) (by decide) ?_
    exact go_iret (show decode cX9_run 17 = .ok (.ireturn, 1) by decide +kernel) rfl h
  · have h := hf hc
    refine go_iload_n (show decode cX9_run 4 = .ok (.iload_n 1, 1) by decide +kernel) (by rfl) ?_
    refine go_aload_n (show decode cX9_run 5 = .ok (.aload_n 0, 1) by decide +kernel) (by rfl) ?_
    refine go_getRc (show decode cX9_run 6 = .ok (.getfield 31, 3) by decide +kernel) fl_X9_31 rfl (shc_k hsh 1 (by decide) (by decide)) (v := 46) (shc_r hsh 1 3 (by decide) (by decide) (by decide)) ?_
    refine go_getI (show decode cX9_run 9 = .ok (.getfield 240, 3) by decide +kernel) fl_X9_240 (Or.inl rfl) (shc_k hsh 46 (by decide) (by decide)) ?_
    obtain ⟨ht, hf⟩ := h
    refine go_icmple (tgt := 18) (show decode cX9_run 12 = .ok (.if_icmp .le 6, 3) by decide +kernel) (by decide) (fun hc => ?_) (fun hc => ?_)
    · have h := ht hc
      refine go_aload_n (show decode cX9_run 18 = .ok (.aload_n 0, 1) by decide +kernel) (by rfl) ?_
      refine go_getRc (show decode cX9_run 19 = .ok (.getfield 31, 3) by decide +kernel) fl_X9_31 rfl (shc_k hsh 1 (by decide) (by decide)) (v := 46) (shc_r hsh 1 3 (by decide) (by decide) (by decide)) ?_
      refine go_iload_n (show decode cX9_run 22 = .ok (.iload_n 1, 1) by decide +kernel) (by rfl) ?_
      obtain ⟨q1, h⟩ := h
      refine go_callV (d2 := d - 1) (M2 := MX5_read) (n := 1) (ci := 5) (av := [vI a1]) (st := []) (show decode cX9_run 23 = .ok (.invokevirtual 243, 3) by decide +kernel) ml_X9_243 mt_X5_read min_X5_read mse_X5_read (by decide) (shc_k hsh 46 (by decide) (by decide)) rfl (Nat.le_of_ble_eq_true rfl) (by omega) (ok_mono h (fun w2 S3 F4 G5 h => ?_))
      obtain ⟨e8, h⟩ := h
      replace e8 := e8.symm; subst e8
      obtain ⟨z6, e9, h⟩ := h
      subst e9
      show Go d MX9_run 26 [some (vR 1), some (vI a1), none, none, none, none] [vI z6] S F4 G5 Q
      refine go_istore_n (show decode cX9_run 26 = .ok (.istore_n 2, 1) by decide +kernel) (by decide) ?_
      show Go d MX9_run 27 [some (vR 1), some (vI a1), some (vI z6), none, none, none] [] S F4 G5 Q
      refine go_aload_n (show decode cX9_run 27 = .ok (.aload_n 0, 1) by decide +kernel) (by rfl) ?_
      refine go_getRc (show decode cX9_run 28 = .ok (.getfield 31, 3) by decide +kernel) fl_X9_31 rfl (shc_k hsh 1 (by decide) (by decide)) (v := 46) (shc_r hsh 1 3 (by decide) (by decide) (by decide)) ?_
      refine go_iconst (show decode cX9_run 31 = .ok (.iconst 0, 1) by decide +kernel) (by decide) ?_
      refine go_putI (show decode cX9_run 32 = .ok (.putfield 240, 3) by decide +kernel) fl_X9_240 rfl (Or.inl rfl) (shc_k hsh 46 (by decide) (by decide)) ?_
      obtain ⟨F7, F7e⟩ : ∃ F7 : AF, F7 = fu F4 46 1 0 := ⟨_, rfl⟩
      have h := h F7 F7e
      rw [← F7e]
      refine go_aload_n (show decode cX9_run 35 = .ok (.aload_n 0, 1) by decide +kernel) (by rfl) ?_
      refine go_iconst (show decode cX9_run 36 = .ok (.iconst 0, 1) by decide +kernel) (by decide) ?_
      refine go_putI (show decode cX9_run 37 = .ok (.putfield 246, 3) by decide +kernel) fl_X9_246 rfl (Or.inl rfl) (shc_k hsh 1 (by decide) (by decide)) ?_
      obtain ⟨F8, F8e⟩ : ∃ F8 : AF, F8 = fu F7 1 6 0 := ⟨_, rfl⟩
      have h := h F8 F8e
      rw [← F8e]
      refine go_iload_n (show decode cX9_run 40 = .ok (.iload_n 2, 1) by decide +kernel) (by rfl) ?_
      obtain ⟨ht, hf⟩ := h
      refine go_ifeq (tgt := 49) (show decode cX9_run 41 = .ok (.ifCond .eq 8, 3) by decide +kernel) (by decide) (fun hc => ?_) (fun hc => ?_)
      · have h := ht hc
        refine go_iconst (show decode cX9_run 49 = .ok (.iconst 0, 1) by decide +kernel) (by decide) ?_
        refine go_istore_n (show decode cX9_run 50 = .ok (.istore_n 3, 1) by decide +kernel) (by decide) ?_
        show Go d MX9_run 51 [some (vR 1), some (vI a1), some (vI z6), some (vI 0), none, none] [] S F8 G5 Q
        exact h
      · have h := hf hc
        refine go_bipush (show decode cX9_run 44 = .ok (.bipush (-30), 2) by decide +kernel) (by decide) ?_
        refine go_iload_n (show decode cX9_run 46 = .ok (.iload_n 2, 1) by decide +kernel) (by rfl) ?_
        obtain ⟨q9, h⟩ := h
        refine go_isub (show decode cX9_run 47 = .ok (.isub, 1) by decide +kernel) q9 ?_
        exact go_iret (show decode cX9_run 48 = .ok (.ireturn, 1) by decide +kernel) rfl h
    · have h := hf hc
      refine go_bipush (show decode cX9_run 15 = .ok (.bipush (-3), 2) by decide +kernel) (by decide) ?_
      exact go_iret (show decode cX9_run 17 = .ok (.ireturn, 1) by decide +kernel) rfl h
def V_X9_doTold_0 (d : Nat) (S : AS) (F : AF) (G : AG) (Q : AQ) (a1 : Int) : Prop :=
  (1 ≤ d) ∧
  ∃ z6 : Int, Pu (d - 1) MX5_amount [vR 46, vI a1] S F G (some (vJ z6)) ∧
  ∃ z12 : Int, Pu (d - 1) MX5_kind [vR 46, vI a1] S F G (some (vI z12)) ∧
  ((z12 = 0) →
    ∃ z18 : Int, Pu (d - 1) MX5_number [vR 46, vI a1, vI 0] S F G (some (vI z18)) ∧
    ∃ z24 : Int, Pu (d - 1) MX5_number [vR 46, vI a1, vI 1] S F G (some (vI z24)) ∧
    ∃ z30 : Int, Pu (d - 1) MX5_number [vR 46, vI a1, vI 2] S F G (some (vI z30)) ∧
    ∃ z36 : Int, Pu (d - 1) MX5_number [vR 46, vI a1, vI 3] S F G (some (vI z36)) ∧
    ∃ z42 : Int, Pu (d - 1) MX5_number [vR 46, vI a1, vI 4] S F G (some (vI z42)) ∧
    (r32 (z6)) ∧
    Ok (d - 1) MX9_add [vR 1, vI z18, vI z24, vI z30, vI z36, vI z42, vI z6] S F G (fun w45 S46 F47 G48 =>
    S46 = S ∧
    ∃ z49 : Int, w45 = some (vJ z49) ∧
    Q (some (vJ z49)) S F47 G48)) ∧
  ((z12 = 1) →
    ∃ z54 : Int, Pu (d - 1) MX5_number [vR 46, vI a1, vI 0] S F G (some (vI z54)) ∧
    ∃ z60 : Int, Pu (d - 1) MX5_number [vR 46, vI a1, vI 1] S F G (some (vI z60)) ∧
    ∃ z66 : Int, Pu (d - 1) MX5_number [vR 46, vI a1, vI 2] S F G (some (vI z66)) ∧
    ∃ z72 : Int, Pu (d - 1) MX5_number [vR 46, vI a1, vI 3] S F G (some (vI z72)) ∧
    ∃ z78 : Int, Pu (d - 1) MX5_number [vR 46, vI a1, vI 4] S F G (some (vI z78)) ∧
    Ok (d - 1) MX9_pick [vR 1, vI z54, vI z60, vI z66, vI z72, vI z78, vJ z6] S F G (fun w80 S81 F82 G83 =>
    S81 = S ∧
    ∃ z84 : Int, w80 = some (vJ z84) ∧
    Q (some (vJ z84)) S F82 G83)) ∧
  ((z12 = 2) →
    Ok (d - 1) MX9_begin [vR 1] S F G (fun w85 S86 F87 G88 =>
    ∃ z89 : Int, w85 = some (vI z89) ∧
    (ShC S86) ∧
    Q (some (vJ z89)) S86 F87 G88)) ∧
  ((z12 = 3) →
    Ok (d - 1) MX9_commit [vR 1] S F G (fun w90 S91 F92 G93 =>
    S91 = S ∧
    ∃ z94 : Int, w90 = some (vI z94) ∧
    Q (some (vJ z94)) S F92 G93)) ∧
  ((z12 < 0 ∨ 3 < z12) →
    Ok (d - 1) MX9_cancel [vR 1] S F G (fun w95 S96 F97 G98 =>
    S96 = S ∧
    ∃ z99 : Int, w95 = some (vI z99) ∧
    Q (some (vJ z99)) S F97 G98))
theorem R_X9_doTold_0 {d : Nat} {S : AS} {F : AF} {G : AG} {Q : AQ} {a1 : Int} (hsh : ShC S) (h : V_X9_doTold_0 d S F G Q a1) : Go d MX9_doTold 0 [some (vR 1), some (vI a1), none, none] [] S F G Q := by
  unfold V_X9_doTold_0 at h
  refine go_aload_n (show decode cX9_doTold 0 = .ok (.aload_n 0, 1) by decide +kernel) (by rfl) ?_
  refine go_getRc (show decode cX9_doTold 1 = .ok (.getfield 31, 3) by decide +kernel) fl_X9_31 rfl (shc_k hsh 1 (by decide) (by decide)) (v := 46) (shc_r hsh 1 3 (by decide) (by decide) (by decide)) ?_
  refine go_iload_n (show decode cX9_doTold 4 = .ok (.iload_n 1, 1) by decide +kernel) (by rfl) ?_
  obtain ⟨q1, h⟩ := h
  obtain ⟨z6, p7, h⟩ := h
  refine go_callV (d2 := d - 1) (M2 := MX5_amount) (n := 1) (ci := 5) (av := [vI a1]) (st := []) (show decode cX9_doTold 5 = .ok (.invokevirtual 363, 3) by decide +kernel) ml_X9_363 mt_X5_amount min_X5_amount mse_X5_amount (by decide) (shc_k hsh 46 (by decide) (by decide)) rfl (Nat.le_of_ble_eq_true rfl) (by omega) (ok_mono p7 (fun w2 S3 F4 G5 e9 => ?_))
  obtain ⟨e1, e2, e3, e4⟩ := e9
  subst e1
  replace e2 := e2.symm; subst e2
  replace e3 := e3.symm; subst e3
  replace e4 := e4.symm; subst e4
  show Go d MX9_doTold 8 [some (vR 1), some (vI a1), none, none] [vJ z6] S F G Q
  refine go_lstore_n (show decode cX9_doTold 8 = .ok (.lstore_n 2, 1) by decide +kernel) (by decide) ?_
  show Go d MX9_doTold 9 [some (vR 1), some (vI a1), some (vJ z6), none] [] S F G Q
  refine go_aload_n (show decode cX9_doTold 9 = .ok (.aload_n 0, 1) by decide +kernel) (by rfl) ?_
  refine go_getRc (show decode cX9_doTold 10 = .ok (.getfield 31, 3) by decide +kernel) fl_X9_31 rfl (shc_k hsh 1 (by decide) (by decide)) (v := 46) (shc_r hsh 1 3 (by decide) (by decide) (by decide)) ?_
  refine go_iload_n (show decode cX9_doTold 13 = .ok (.iload_n 1, 1) by decide +kernel) (by rfl) ?_
  obtain ⟨z12, p13, h⟩ := h
  refine go_callV (d2 := d - 1) (M2 := MX5_kind) (n := 1) (ci := 5) (av := [vI a1]) (st := []) (show decode cX9_doTold 14 = .ok (.invokevirtual 366, 3) by decide +kernel) ml_X9_366 mt_X5_kind min_X5_kind mse_X5_kind (by decide) (shc_k hsh 46 (by decide) (by decide)) rfl (Nat.le_of_ble_eq_true rfl) (by omega) (ok_mono p13 (fun w8 S9 F10 G11 e9 => ?_))
  obtain ⟨e1, e2, e3, e4⟩ := e9
  subst e1
  replace e2 := e2.symm; subst e2
  replace e3 := e3.symm; subst e3
  replace e4 := e4.symm; subst e4
  show Go d MX9_doTold 17 [some (vR 1), some (vI a1), some (vJ z6), none] [vI z12] S F G Q
  obtain ⟨h_0, h_1, h_2, h_3, h_d⟩ := h
  by_cases hd9 : z12 < 0 ∨ 3 < z12
  · have h := h_d hd9
    refine go_swOut (tgt := 163) (show decode cX9_doTold 17 = .ok (.tableswitch 146 0 3 #[31, 83, 134, 140], 31) by decide +kernel) hd9 (by decide) ?_
    refine go_aload_n (show decode cX9_doTold 163 = .ok (.aload_n 0, 1) by decide +kernel) (by rfl) ?_
    refine go_callV (d2 := d - 1) (M2 := MX9_cancel) (n := 0) (ci := 9) (av := []) (st := []) (show decode cX9_doTold 164 = .ok (.invokevirtual 385, 3) by decide +kernel) ml_X9_385 mt_X9_cancel min_X9_cancel mse_X9_cancel (by decide) (shc_k hsh 1 (by decide) (by decide)) rfl (Nat.le_of_ble_eq_true rfl) (by omega) (ok_mono h (fun w95 S96 F97 G98 h => ?_))
    obtain ⟨e8, h⟩ := h
    replace e8 := e8.symm; subst e8
    obtain ⟨z99, e9, h⟩ := h
    subst e9
    show Go d MX9_doTold 167 [some (vR 1), some (vI a1), some (vJ z6), none] [vI z99] S F97 G98 Q
    refine go_i2l (show decode cX9_doTold 167 = .ok (.i2l, 1) by decide +kernel) ?_
    exact go_lret (show decode cX9_doTold 168 = .ok (.lreturn, 1) by decide +kernel) rfl h
  by_cases hc0 : z12 = 0
  · have h := h_0 hc0
    refine go_swIn (tgt := 48) (show decode cX9_doTold 17 = .ok (.tableswitch 146 0 3 #[31, 83, 134, 140], 31) by decide +kernel) (by omega) (by omega) (by rw [hc0]; rfl) (by decide) ?_
    refine go_aload_n (show decode cX9_doTold 48 = .ok (.aload_n 0, 1) by decide +kernel) (by rfl) ?_
    refine go_aload_n (show decode cX9_doTold 49 = .ok (.aload_n 0, 1) by decide +kernel) (by rfl) ?_
    refine go_getRc (show decode cX9_doTold 50 = .ok (.getfield 31, 3) by decide +kernel) fl_X9_31 rfl (shc_k hsh 1 (by decide) (by decide)) (v := 46) (shc_r hsh 1 3 (by decide) (by decide) (by decide)) ?_
    refine go_iload_n (show decode cX9_doTold 53 = .ok (.iload_n 1, 1) by decide +kernel) (by rfl) ?_
    refine go_iconst (show decode cX9_doTold 54 = .ok (.iconst 0, 1) by decide +kernel) (by decide) ?_
    obtain ⟨z18, p19, h⟩ := h
    refine go_callV (d2 := d - 1) (M2 := MX5_number) (n := 2) (ci := 5) (av := [vI a1, vI 0]) (st := [vR 1]) (show decode cX9_doTold 55 = .ok (.invokevirtual 369, 3) by decide +kernel) ml_X9_369 mt_X5_number min_X5_number mse_X5_number (by decide) (shc_k hsh 46 (by decide) (by decide)) rfl (Nat.le_of_ble_eq_true rfl) (by omega) (ok_mono p19 (fun w14 S15 F16 G17 e9 => ?_))
    obtain ⟨e1, e2, e3, e4⟩ := e9
    subst e1
    replace e2 := e2.symm; subst e2
    replace e3 := e3.symm; subst e3
    replace e4 := e4.symm; subst e4
    show Go d MX9_doTold 58 [some (vR 1), some (vI a1), some (vJ z6), none] [vI z18, vR 1] S F G Q
    refine go_aload_n (show decode cX9_doTold 58 = .ok (.aload_n 0, 1) by decide +kernel) (by rfl) ?_
    refine go_getRc (show decode cX9_doTold 59 = .ok (.getfield 31, 3) by decide +kernel) fl_X9_31 rfl (shc_k hsh 1 (by decide) (by decide)) (v := 46) (shc_r hsh 1 3 (by decide) (by decide) (by decide)) ?_
    refine go_iload_n (show decode cX9_doTold 62 = .ok (.iload_n 1, 1) by decide +kernel) (by rfl) ?_
    refine go_iconst (show decode cX9_doTold 63 = .ok (.iconst 1, 1) by decide +kernel) (by decide) ?_
    obtain ⟨z24, p25, h⟩ := h
    refine go_callV (d2 := d - 1) (M2 := MX5_number) (n := 2) (ci := 5) (av := [vI a1, vI 1]) (st := [vI z18, vR 1]) (show decode cX9_doTold 64 = .ok (.invokevirtual 369, 3) by decide +kernel) ml_X9_369 mt_X5_number min_X5_number mse_X5_number (by decide) (shc_k hsh 46 (by decide) (by decide)) rfl (Nat.le_of_ble_eq_true rfl) (by omega) (ok_mono p25 (fun w20 S21 F22 G23 e9 => ?_))
    obtain ⟨e1, e2, e3, e4⟩ := e9
    subst e1
    replace e2 := e2.symm; subst e2
    replace e3 := e3.symm; subst e3
    replace e4 := e4.symm; subst e4
    show Go d MX9_doTold 67 [some (vR 1), some (vI a1), some (vJ z6), none] [vI z24, vI z18, vR 1] S F G Q
    refine go_aload_n (show decode cX9_doTold 67 = .ok (.aload_n 0, 1) by decide +kernel) (by rfl) ?_
    refine go_getRc (show decode cX9_doTold 68 = .ok (.getfield 31, 3) by decide +kernel) fl_X9_31 rfl (shc_k hsh 1 (by decide) (by decide)) (v := 46) (shc_r hsh 1 3 (by decide) (by decide) (by decide)) ?_
    refine go_iload_n (show decode cX9_doTold 71 = .ok (.iload_n 1, 1) by decide +kernel) (by rfl) ?_
    refine go_iconst (show decode cX9_doTold 72 = .ok (.iconst 2, 1) by decide +kernel) (by decide) ?_
    obtain ⟨z30, p31, h⟩ := h
    refine go_callV (d2 := d - 1) (M2 := MX5_number) (n := 2) (ci := 5) (av := [vI a1, vI 2]) (st := [vI z24, vI z18, vR 1]) (show decode cX9_doTold 73 = .ok (.invokevirtual 369, 3) by decide +kernel) ml_X9_369 mt_X5_number min_X5_number mse_X5_number (by decide) (shc_k hsh 46 (by decide) (by decide)) rfl (Nat.le_of_ble_eq_true rfl) (by omega) (ok_mono p31 (fun w26 S27 F28 G29 e9 => ?_))
    obtain ⟨e1, e2, e3, e4⟩ := e9
    subst e1
    replace e2 := e2.symm; subst e2
    replace e3 := e3.symm; subst e3
    replace e4 := e4.symm; subst e4
    show Go d MX9_doTold 76 [some (vR 1), some (vI a1), some (vJ z6), none] [vI z30, vI z24, vI z18, vR 1] S F G Q
    refine go_aload_n (show decode cX9_doTold 76 = .ok (.aload_n 0, 1) by decide +kernel) (by rfl) ?_
    refine go_getRc (show decode cX9_doTold 77 = .ok (.getfield 31, 3) by decide +kernel) fl_X9_31 rfl (shc_k hsh 1 (by decide) (by decide)) (v := 46) (shc_r hsh 1 3 (by decide) (by decide) (by decide)) ?_
    refine go_iload_n (show decode cX9_doTold 80 = .ok (.iload_n 1, 1) by decide +kernel) (by rfl) ?_
    refine go_iconst (show decode cX9_doTold 81 = .ok (.iconst 3, 1) by decide +kernel) (by decide) ?_
    obtain ⟨z36, p37, h⟩ := h
    refine go_callV (d2 := d - 1) (M2 := MX5_number) (n := 2) (ci := 5) (av := [vI a1, vI 3]) (st := [vI z30, vI z24, vI z18, vR 1]) (show decode cX9_doTold 82 = .ok (.invokevirtual 369, 3) by decide +kernel) ml_X9_369 mt_X5_number min_X5_number mse_X5_number (by decide) (shc_k hsh 46 (by decide) (by decide)) rfl (Nat.le_of_ble_eq_true rfl) (by omega) (ok_mono p37 (fun w32 S33 F34 G35 e9 => ?_))
    obtain ⟨e1, e2, e3, e4⟩ := e9
    subst e1
    replace e2 := e2.symm; subst e2
    replace e3 := e3.symm; subst e3
    replace e4 := e4.symm; subst e4
    show Go d MX9_doTold 85 [some (vR 1), some (vI a1), some (vJ z6), none] [vI z36, vI z30, vI z24, vI z18, vR 1] S F G Q
    refine go_aload_n (show decode cX9_doTold 85 = .ok (.aload_n 0, 1) by decide +kernel) (by rfl) ?_
    refine go_getRc (show decode cX9_doTold 86 = .ok (.getfield 31, 3) by decide +kernel) fl_X9_31 rfl (shc_k hsh 1 (by decide) (by decide)) (v := 46) (shc_r hsh 1 3 (by decide) (by decide) (by decide)) ?_
    refine go_iload_n (show decode cX9_doTold 89 = .ok (.iload_n 1, 1) by decide +kernel) (by rfl) ?_
    refine go_iconst (show decode cX9_doTold 90 = .ok (.iconst 4, 1) by decide +kernel) (by decide) ?_
    obtain ⟨z42, p43, h⟩ := h
    refine go_callV (d2 := d - 1) (M2 := MX5_number) (n := 2) (ci := 5) (av := [vI a1, vI 4]) (st := [vI z36, vI z30, vI z24, vI z18, vR 1]) (show decode cX9_doTold 91 = .ok (.invokevirtual 369, 3) by decide +kernel) ml_X9_369 mt_X5_number min_X5_number mse_X5_number (by decide) (shc_k hsh 46 (by decide) (by decide)) rfl (Nat.le_of_ble_eq_true rfl) (by omega) (ok_mono p43 (fun w38 S39 F40 G41 e9 => ?_))
    obtain ⟨e1, e2, e3, e4⟩ := e9
    subst e1
    replace e2 := e2.symm; subst e2
    replace e3 := e3.symm; subst e3
    replace e4 := e4.symm; subst e4
    show Go d MX9_doTold 94 [some (vR 1), some (vI a1), some (vJ z6), none] [vI z42, vI z36, vI z30, vI z24, vI z18, vR 1] S F G Q
    refine go_lload_n (show decode cX9_doTold 94 = .ok (.lload_n 2, 1) by decide +kernel) (by rfl) ?_
    obtain ⟨q44, h⟩ := h
    refine go_l2i (show decode cX9_doTold 95 = .ok (.l2i, 1) by decide +kernel) q44 ?_
    refine go_callV (d2 := d - 1) (M2 := MX9_add) (n := 6) (ci := 9) (av := [vI z18, vI z24, vI z30, vI z36, vI z42, vI z6]) (st := []) (show decode cX9_doTold 96 = .ok (.invokevirtual 371, 3) by decide +kernel) ml_X9_371 mt_X9_add min_X9_add mse_X9_add (by decide) (shc_k hsh 1 (by decide) (by decide)) rfl (Nat.le_of_ble_eq_true rfl) (by omega) (ok_mono h (fun w45 S46 F47 G48 h => ?_))
    obtain ⟨e8, h⟩ := h
    replace e8 := e8.symm; subst e8
    obtain ⟨z49, e9, h⟩ := h
    subst e9
    show Go d MX9_doTold 99 [some (vR 1), some (vI a1), some (vJ z6), none] [vJ z49] S F47 G48 Q
    exact go_lret (show decode cX9_doTold 99 = .ok (.lreturn, 1) by decide +kernel) rfl h
  by_cases hc1 : z12 = 1
  · have h := h_1 hc1
    refine go_swIn (tgt := 100) (show decode cX9_doTold 17 = .ok (.tableswitch 146 0 3 #[31, 83, 134, 140], 31) by decide +kernel) (by omega) (by omega) (by rw [hc1]; rfl) (by decide) ?_
    refine go_aload_n (show decode cX9_doTold 100 = .ok (.aload_n 0, 1) by decide +kernel) (by rfl) ?_
    refine go_aload_n (show decode cX9_doTold 101 = .ok (.aload_n 0, 1) by decide +kernel) (by rfl) ?_
    refine go_getRc (show decode cX9_doTold 102 = .ok (.getfield 31, 3) by decide +kernel) fl_X9_31 rfl (shc_k hsh 1 (by decide) (by decide)) (v := 46) (shc_r hsh 1 3 (by decide) (by decide) (by decide)) ?_
    refine go_iload_n (show decode cX9_doTold 105 = .ok (.iload_n 1, 1) by decide +kernel) (by rfl) ?_
    refine go_iconst (show decode cX9_doTold 106 = .ok (.iconst 0, 1) by decide +kernel) (by decide) ?_
    obtain ⟨z54, p55, h⟩ := h
    refine go_callV (d2 := d - 1) (M2 := MX5_number) (n := 2) (ci := 5) (av := [vI a1, vI 0]) (st := [vR 1]) (show decode cX9_doTold 107 = .ok (.invokevirtual 369, 3) by decide +kernel) ml_X9_369 mt_X5_number min_X5_number mse_X5_number (by decide) (shc_k hsh 46 (by decide) (by decide)) rfl (Nat.le_of_ble_eq_true rfl) (by omega) (ok_mono p55 (fun w50 S51 F52 G53 e9 => ?_))
    obtain ⟨e1, e2, e3, e4⟩ := e9
    subst e1
    replace e2 := e2.symm; subst e2
    replace e3 := e3.symm; subst e3
    replace e4 := e4.symm; subst e4
    show Go d MX9_doTold 110 [some (vR 1), some (vI a1), some (vJ z6), none] [vI z54, vR 1] S F G Q
    refine go_aload_n (show decode cX9_doTold 110 = .ok (.aload_n 0, 1) by decide +kernel) (by rfl) ?_
    refine go_getRc (show decode cX9_doTold 111 = .ok (.getfield 31, 3) by decide +kernel) fl_X9_31 rfl (shc_k hsh 1 (by decide) (by decide)) (v := 46) (shc_r hsh 1 3 (by decide) (by decide) (by decide)) ?_
    refine go_iload_n (show decode cX9_doTold 114 = .ok (.iload_n 1, 1) by decide +kernel) (by rfl) ?_
    refine go_iconst (show decode cX9_doTold 115 = .ok (.iconst 1, 1) by decide +kernel) (by decide) ?_
    obtain ⟨z60, p61, h⟩ := h
    refine go_callV (d2 := d - 1) (M2 := MX5_number) (n := 2) (ci := 5) (av := [vI a1, vI 1]) (st := [vI z54, vR 1]) (show decode cX9_doTold 116 = .ok (.invokevirtual 369, 3) by decide +kernel) ml_X9_369 mt_X5_number min_X5_number mse_X5_number (by decide) (shc_k hsh 46 (by decide) (by decide)) rfl (Nat.le_of_ble_eq_true rfl) (by omega) (ok_mono p61 (fun w56 S57 F58 G59 e9 => ?_))
    obtain ⟨e1, e2, e3, e4⟩ := e9
    subst e1
    replace e2 := e2.symm; subst e2
    replace e3 := e3.symm; subst e3
    replace e4 := e4.symm; subst e4
    show Go d MX9_doTold 119 [some (vR 1), some (vI a1), some (vJ z6), none] [vI z60, vI z54, vR 1] S F G Q
    refine go_aload_n (show decode cX9_doTold 119 = .ok (.aload_n 0, 1) by decide +kernel) (by rfl) ?_
    refine go_getRc (show decode cX9_doTold 120 = .ok (.getfield 31, 3) by decide +kernel) fl_X9_31 rfl (shc_k hsh 1 (by decide) (by decide)) (v := 46) (shc_r hsh 1 3 (by decide) (by decide) (by decide)) ?_
    refine go_iload_n (show decode cX9_doTold 123 = .ok (.iload_n 1, 1) by decide +kernel) (by rfl) ?_
    refine go_iconst (show decode cX9_doTold 124 = .ok (.iconst 2, 1) by decide +kernel) (by decide) ?_
    obtain ⟨z66, p67, h⟩ := h
    refine go_callV (d2 := d - 1) (M2 := MX5_number) (n := 2) (ci := 5) (av := [vI a1, vI 2]) (st := [vI z60, vI z54, vR 1]) (show decode cX9_doTold 125 = .ok (.invokevirtual 369, 3) by decide +kernel) ml_X9_369 mt_X5_number min_X5_number mse_X5_number (by decide) (shc_k hsh 46 (by decide) (by decide)) rfl (Nat.le_of_ble_eq_true rfl) (by omega) (ok_mono p67 (fun w62 S63 F64 G65 e9 => ?_))
    obtain ⟨e1, e2, e3, e4⟩ := e9
    subst e1
    replace e2 := e2.symm; subst e2
    replace e3 := e3.symm; subst e3
    replace e4 := e4.symm; subst e4
    show Go d MX9_doTold 128 [some (vR 1), some (vI a1), some (vJ z6), none] [vI z66, vI z60, vI z54, vR 1] S F G Q
    refine go_aload_n (show decode cX9_doTold 128 = .ok (.aload_n 0, 1) by decide +kernel) (by rfl) ?_
    refine go_getRc (show decode cX9_doTold 129 = .ok (.getfield 31, 3) by decide +kernel) fl_X9_31 rfl (shc_k hsh 1 (by decide) (by decide)) (v := 46) (shc_r hsh 1 3 (by decide) (by decide) (by decide)) ?_
    refine go_iload_n (show decode cX9_doTold 132 = .ok (.iload_n 1, 1) by decide +kernel) (by rfl) ?_
    refine go_iconst (show decode cX9_doTold 133 = .ok (.iconst 3, 1) by decide +kernel) (by decide) ?_
    obtain ⟨z72, p73, h⟩ := h
    refine go_callV (d2 := d - 1) (M2 := MX5_number) (n := 2) (ci := 5) (av := [vI a1, vI 3]) (st := [vI z66, vI z60, vI z54, vR 1]) (show decode cX9_doTold 134 = .ok (.invokevirtual 369, 3) by decide +kernel) ml_X9_369 mt_X5_number min_X5_number mse_X5_number (by decide) (shc_k hsh 46 (by decide) (by decide)) rfl (Nat.le_of_ble_eq_true rfl) (by omega) (ok_mono p73 (fun w68 S69 F70 G71 e9 => ?_))
    obtain ⟨e1, e2, e3, e4⟩ := e9
    subst e1
    replace e2 := e2.symm; subst e2
    replace e3 := e3.symm; subst e3
    replace e4 := e4.symm; subst e4
    show Go d MX9_doTold 137 [some (vR 1), some (vI a1), some (vJ z6), none] [vI z72, vI z66, vI z60, vI z54, vR 1] S F G Q
    refine go_aload_n (show decode cX9_doTold 137 = .ok (.aload_n 0, 1) by decide +kernel) (by rfl) ?_
    refine go_getRc (show decode cX9_doTold 138 = .ok (.getfield 31, 3) by decide +kernel) fl_X9_31 rfl (shc_k hsh 1 (by decide) (by decide)) (v := 46) (shc_r hsh 1 3 (by decide) (by decide) (by decide)) ?_
    refine go_iload_n (show decode cX9_doTold 141 = .ok (.iload_n 1, 1) by decide +kernel) (by rfl) ?_
    refine go_iconst (show decode cX9_doTold 142 = .ok (.iconst 4, 1) by decide +kernel) (by decide) ?_
    obtain ⟨z78, p79, h⟩ := h
    refine go_callV (d2 := d - 1) (M2 := MX5_number) (n := 2) (ci := 5) (av := [vI a1, vI 4]) (st := [vI z72, vI z66, vI z60, vI z54, vR 1]) (show decode cX9_doTold 143 = .ok (.invokevirtual 369, 3) by decide +kernel) ml_X9_369 mt_X5_number min_X5_number mse_X5_number (by decide) (shc_k hsh 46 (by decide) (by decide)) rfl (Nat.le_of_ble_eq_true rfl) (by omega) (ok_mono p79 (fun w74 S75 F76 G77 e9 => ?_))
    obtain ⟨e1, e2, e3, e4⟩ := e9
    subst e1
    replace e2 := e2.symm; subst e2
    replace e3 := e3.symm; subst e3
    replace e4 := e4.symm; subst e4
    show Go d MX9_doTold 146 [some (vR 1), some (vI a1), some (vJ z6), none] [vI z78, vI z72, vI z66, vI z60, vI z54, vR 1] S F G Q
    refine go_lload_n (show decode cX9_doTold 146 = .ok (.lload_n 2, 1) by decide +kernel) (by rfl) ?_
    refine go_callV (d2 := d - 1) (M2 := MX9_pick) (n := 6) (ci := 9) (av := [vI z54, vI z60, vI z66, vI z72, vI z78, vJ z6]) (st := []) (show decode cX9_doTold 147 = .ok (.invokevirtual 375, 3) by decide +kernel) ml_X9_375 mt_X9_pick min_X9_pick mse_X9_pick (by decide) (shc_k hsh 1 (by decide) (by decide)) rfl (Nat.le_of_ble_eq_true rfl) (by omega) (ok_mono h (fun w80 S81 F82 G83 h => ?_))
    obtain ⟨e8, h⟩ := h
    replace e8 := e8.symm; subst e8
    obtain ⟨z84, e9, h⟩ := h
    subst e9
    show Go d MX9_doTold 150 [some (vR 1), some (vI a1), some (vJ z6), none] [vJ z84] S F82 G83 Q
    exact go_lret (show decode cX9_doTold 150 = .ok (.lreturn, 1) by decide +kernel) rfl h
  by_cases hc2 : z12 = 2
  · have h := h_2 hc2
    refine go_swIn (tgt := 151) (show decode cX9_doTold 17 = .ok (.tableswitch 146 0 3 #[31, 83, 134, 140], 31) by decide +kernel) (by omega) (by omega) (by rw [hc2]; rfl) (by decide) ?_
    refine go_aload_n (show decode cX9_doTold 151 = .ok (.aload_n 0, 1) by decide +kernel) (by rfl) ?_
    refine go_callV (d2 := d - 1) (M2 := MX9_begin) (n := 0) (ci := 9) (av := []) (st := []) (show decode cX9_doTold 152 = .ok (.invokevirtual 379, 3) by decide +kernel) ml_X9_379 mt_X9_begin min_X9_begin mse_X9_begin (by decide) (shc_k hsh 1 (by decide) (by decide)) rfl (Nat.le_of_ble_eq_true rfl) (by omega) (ok_mono h (fun w85 S86 F87 G88 h => ?_))
    obtain ⟨z89, e9, h⟩ := h
    subst e9
    obtain ⟨hsh, h⟩ := h
    show Go d MX9_doTold 155 [some (vR 1), some (vI a1), some (vJ z6), none] [vI z89] S86 F87 G88 Q
    refine go_i2l (show decode cX9_doTold 155 = .ok (.i2l, 1) by decide +kernel) ?_
    exact go_lret (show decode cX9_doTold 156 = .ok (.lreturn, 1) by decide +kernel) rfl h
  by_cases hc3 : z12 = 3
  · have h := h_3 hc3
    refine go_swIn (tgt := 157) (show decode cX9_doTold 17 = .ok (.tableswitch 146 0 3 #[31, 83, 134, 140], 31) by decide +kernel) (by omega) (by omega) (by rw [hc3]; rfl) (by decide) ?_
    refine go_aload_n (show decode cX9_doTold 157 = .ok (.aload_n 0, 1) by decide +kernel) (by rfl) ?_
    refine go_callV (d2 := d - 1) (M2 := MX9_commit) (n := 0) (ci := 9) (av := []) (st := []) (show decode cX9_doTold 158 = .ok (.invokevirtual 382, 3) by decide +kernel) ml_X9_382 mt_X9_commit min_X9_commit mse_X9_commit (by decide) (shc_k hsh 1 (by decide) (by decide)) rfl (Nat.le_of_ble_eq_true rfl) (by omega) (ok_mono h (fun w90 S91 F92 G93 h => ?_))
    obtain ⟨e8, h⟩ := h
    replace e8 := e8.symm; subst e8
    obtain ⟨z94, e9, h⟩ := h
    subst e9
    show Go d MX9_doTold 161 [some (vR 1), some (vI a1), some (vJ z6), none] [vI z94] S F92 G93 Q
    refine go_i2l (show decode cX9_doTold 161 = .ok (.i2l, 1) by decide +kernel) ?_
    exact go_lret (show decode cX9_doTold 162 = .ok (.lreturn, 1) by decide +kernel) rfl h
  exact absurd hd9 (by omega)
def V_X9_fault_0 (d : Nat) (S : AS) (F : AF) (G : AG) (Q : AQ) (a1 : Int) : Prop :=
  ((a1 = 0) →
    Q (some (vI (F 46 10))) S F G) ∧
  ((a1 = 1) →
    Q (some (vI (F 46 11))) S F G) ∧
  ((a1 = 2) →
    Q (some (vI (F 1 6))) S F G) ∧
  ((a1 < 0 ∨ 2 < a1) →
    Q (some (vI (-1))) S F G)
theorem R_X9_fault_0 {d : Nat} {S : AS} {F : AF} {G : AG} {Q : AQ} {a1 : Int} (hsh : ShC S) (h : V_X9_fault_0 d S F G Q a1) : Go d MX9_fault 0 [some (vR 1), some (vI a1)] [] S F G Q := by
  unfold V_X9_fault_0 at h
  refine go_iload_n (show decode cX9_fault 0 = .ok (.iload_n 1, 1) by decide +kernel) (by rfl) ?_
  obtain ⟨h_0, h_1, h_2, h_d⟩ := h
  by_cases hd9 : a1 < 0 ∨ 2 < a1
  · have h := h_d hd9
    refine go_swOut (tgt := 49) (show decode cX9_fault 1 = .ok (.tableswitch 48 0 2 #[27, 35, 43], 27) by decide +kernel) hd9 (by decide) ?_
    refine go_iconst (show decode cX9_fault 49 = .ok (.iconst (-1), 1) by decide +kernel) (by decide) ?_
    exact go_iret (show decode cX9_fault 50 = .ok (.ireturn, 1) by decide +kernel) rfl h
  by_cases hc0 : a1 = 0
  · have h := h_0 hc0
    refine go_swIn (tgt := 28) (show decode cX9_fault 1 = .ok (.tableswitch 48 0 2 #[27, 35, 43], 27) by decide +kernel) (by omega) (by omega) (by rw [hc0]; rfl) (by decide) ?_
    refine go_aload_n (show decode cX9_fault 28 = .ok (.aload_n 0, 1) by decide +kernel) (by rfl) ?_
    refine go_getRc (show decode cX9_fault 29 = .ok (.getfield 31, 3) by decide +kernel) fl_X9_31 rfl (shc_k hsh 1 (by decide) (by decide)) (v := 46) (shc_r hsh 1 3 (by decide) (by decide) (by decide)) ?_
    refine go_getI (show decode cX9_fault 32 = .ok (.getfield 256, 3) by decide +kernel) fl_X9_256 (Or.inl rfl) (shc_k hsh 46 (by decide) (by decide)) ?_
    exact go_iret (show decode cX9_fault 35 = .ok (.ireturn, 1) by decide +kernel) rfl h
  by_cases hc1 : a1 = 1
  · have h := h_1 hc1
    refine go_swIn (tgt := 36) (show decode cX9_fault 1 = .ok (.tableswitch 48 0 2 #[27, 35, 43], 27) by decide +kernel) (by omega) (by omega) (by rw [hc1]; rfl) (by decide) ?_
    refine go_aload_n (show decode cX9_fault 36 = .ok (.aload_n 0, 1) by decide +kernel) (by rfl) ?_
    refine go_getRc (show decode cX9_fault 37 = .ok (.getfield 31, 3) by decide +kernel) fl_X9_31 rfl (shc_k hsh 1 (by decide) (by decide)) (v := 46) (shc_r hsh 1 3 (by decide) (by decide) (by decide)) ?_
    refine go_getI (show decode cX9_fault 40 = .ok (.getfield 259, 3) by decide +kernel) fl_X9_259 (Or.inl rfl) (shc_k hsh 46 (by decide) (by decide)) ?_
    exact go_iret (show decode cX9_fault 43 = .ok (.ireturn, 1) by decide +kernel) rfl h
  by_cases hc2 : a1 = 2
  · have h := h_2 hc2
    refine go_swIn (tgt := 44) (show decode cX9_fault 1 = .ok (.tableswitch 48 0 2 #[27, 35, 43], 27) by decide +kernel) (by omega) (by omega) (by rw [hc2]; rfl) (by decide) ?_
    refine go_aload_n (show decode cX9_fault 44 = .ok (.aload_n 0, 1) by decide +kernel) (by rfl) ?_
    refine go_getI (show decode cX9_fault 45 = .ok (.getfield 246, 3) by decide +kernel) fl_X9_246 (Or.inl rfl) (shc_k hsh 1 (by decide) (by decide)) ?_
    exact go_iret (show decode cX9_fault 48 = .ok (.ireturn, 1) by decide +kernel) rfl h
  exact absurd hd9 (by omega)
def V_X9_sum_0 (d : Nat) (S : AS) (F : AF) (G : AG) (Q : AQ) (a1 : Int) (a2 : Int) (a3 : Int) (a4 : Int) (a5 : Int) : Prop :=
  (1 ≤ d) ∧
  ∃ z6 : Int, Pu (d - 1) MX9_isGoodOrAll [vI a1] S F G (some (vI z6)) ∧
  ((z6 = 0) →
    Q (some (vJ (-2))) S F G) ∧
  ((¬ z6 = 0) →
    Ok (d - 1) MX9_ask [vR 1, vI a2, vI a3, vI a4, vI a5] S F G (fun w8 S9 F10 G11 =>
    S9 = S ∧
    ∃ z12 : Int, w8 = some (vI z12) ∧
    ((¬ z12 = 0) →
      ∃ z17 : Int, Pu (d - 1) MX2_sumOf [vR 2, vI a1, vR 51] S F10 G11 (some (vJ z17)) ∧
      Q (some (vJ z17)) S F10 G11) ∧
    ((z12 = 0) →
      Q (some (vJ (-2))) S F10 G11)))
theorem R_X9_sum_0 {d : Nat} {S : AS} {F : AF} {G : AG} {Q : AQ} {a1 : Int} {a2 : Int} {a3 : Int} {a4 : Int} {a5 : Int} (hsh : ShC S) (h : V_X9_sum_0 d S F G Q a1 a2 a3 a4 a5) : Go d MX9_sum 0 [some (vR 1), some (vI a1), some (vI a2), some (vI a3), some (vI a4), some (vI a5)] [] S F G Q := by
  unfold V_X9_sum_0 at h
  refine go_iload_n (show decode cX9_sum 0 = .ok (.iload_n 1, 1) by decide +kernel) (by rfl) ?_
  obtain ⟨q1, h⟩ := h
  obtain ⟨z6, p7, h⟩ := h
  refine go_callS (d2 := d - 1) (M2 := MX9_isGoodOrAll) (n := 1) (av := [vI a1]) (st := []) (show decode cX9_sum 1 = .ok (.invokestatic 262, 3) by decide +kernel) ml_X9_262 mt_X9_isGoodOrAll mst_X9_isGoodOrAll rfl (Nat.le_of_ble_eq_true rfl) (by omega) (ok_mono p7 (fun w2 S3 F4 G5 e9 => ?_))
  obtain ⟨e1, e2, e3, e4⟩ := e9
  subst e1
  replace e2 := e2.symm; subst e2
  replace e3 := e3.symm; subst e3
  replace e4 := e4.symm; subst e4
  show Go d MX9_sum 4 [some (vR 1), some (vI a1), some (vI a2), some (vI a3), some (vI a4), some (vI a5)] [vI z6] S F G Q
  obtain ⟨ht, hf⟩ := h
  refine go_ifeq (tgt := 20) (show decode cX9_sum 4 = .ok (.ifCond .eq 16, 3) by decide +kernel) (by decide) (fun hc => ?_) (fun hc => ?_)
  · have h := ht hc
    refine go_ldc2 (show decode cX9_sum 20 = .ok (.ldc2_w 72, 3) by decide +kernel) lc_X9_72 (by decide) ?_
    exact go_lret (show decode cX9_sum 23 = .ok (.lreturn, 1) by decide +kernel) rfl h
  · have h := hf hc
    refine go_aload_n (show decode cX9_sum 7 = .ok (.aload_n 0, 1) by decide +kernel) (by rfl) ?_
    refine go_iload_n (show decode cX9_sum 8 = .ok (.iload_n 2, 1) by decide +kernel) (by rfl) ?_
    refine go_iload_n (show decode cX9_sum 9 = .ok (.iload_n 3, 1) by decide +kernel) (by rfl) ?_
    refine go_iload (show decode cX9_sum 10 = .ok (.iload 4, 2) by decide +kernel) (by rfl) ?_
    refine go_iload (show decode cX9_sum 12 = .ok (.iload 5, 2) by decide +kernel) (by rfl) ?_
    refine go_callV (d2 := d - 1) (M2 := MX9_ask) (n := 4) (ci := 9) (av := [vI a2, vI a3, vI a4, vI a5]) (st := []) (show decode cX9_sum 14 = .ok (.invokevirtual 68, 3) by decide +kernel) ml_X9_68 mt_X9_ask min_X9_ask mse_X9_ask (by decide) (shc_k hsh 1 (by decide) (by decide)) rfl (Nat.le_of_ble_eq_true rfl) (by omega) (ok_mono h (fun w8 S9 F10 G11 h => ?_))
    obtain ⟨e8, h⟩ := h
    replace e8 := e8.symm; subst e8
    obtain ⟨z12, e9, h⟩ := h
    subst e9
    show Go d MX9_sum 17 [some (vR 1), some (vI a1), some (vI a2), some (vI a3), some (vI a4), some (vI a5)] [vI z12] S F10 G11 Q
    obtain ⟨ht, hf⟩ := h
    refine go_ifne (tgt := 24) (show decode cX9_sum 17 = .ok (.ifCond .ne 7, 3) by decide +kernel) (by decide) (fun hc => ?_) (fun hc => ?_)
    · have h := ht hc
      refine go_aload_n (show decode cX9_sum 24 = .ok (.aload_n 0, 1) by decide +kernel) (by rfl) ?_
      refine go_getRc (show decode cX9_sum 25 = .ok (.getfield 20, 3) by decide +kernel) fl_X9_20 rfl (shc_k hsh 1 (by decide) (by decide)) (v := 2) (shc_r hsh 1 1 (by decide) (by decide) (by decide)) ?_
      refine go_iload_n (show decode cX9_sum 28 = .ok (.iload_n 1, 1) by decide +kernel) (by rfl) ?_
      refine go_aload_n (show decode cX9_sum 29 = .ok (.aload_n 0, 1) by decide +kernel) (by rfl) ?_
      refine go_getRc (show decode cX9_sum 30 = .ok (.getfield 38, 3) by decide +kernel) fl_X9_38 rfl (shc_k hsh 1 (by decide) (by decide)) (v := 51) (shc_r hsh 1 4 (by decide) (by decide) (by decide)) ?_
      obtain ⟨z17, p18, h⟩ := h
      refine go_callV (d2 := d - 1) (M2 := MX2_sumOf) (n := 2) (ci := 2) (av := [vI a1, vR 51]) (st := []) (show decode cX9_sum 33 = .ok (.invokevirtual 101, 3) by decide +kernel) ml_X9_101 mt_X2_sumOf min_X2_sumOf mse_X2_sumOf (by decide) (shc_k hsh 2 (by decide) (by decide)) rfl (Nat.le_of_ble_eq_true rfl) (by omega) (ok_mono p18 (fun w13 S14 F15 G16 e9 => ?_))
      obtain ⟨e1, e2, e3, e4⟩ := e9
      subst e1
      replace e2 := e2.symm; subst e2
      replace e3 := e3.symm; subst e3
      replace e4 := e4.symm; subst e4
      show Go d MX9_sum 36 [some (vR 1), some (vI a1), some (vI a2), some (vI a3), some (vI a4), some (vI a5)] [vJ z17] S F10 G11 Q
      exact go_lret (show decode cX9_sum 36 = .ok (.lreturn, 1) by decide +kernel) rfl h
    · have h := hf hc
      refine go_ldc2 (show decode cX9_sum 20 = .ok (.ldc2_w 72, 3) by decide +kernel) lc_X9_72 (by decide) ?_
      exact go_lret (show decode cX9_sum 23 = .ok (.lreturn, 1) by decide +kernel) rfl h
def V_X9_isGoodOrAll_0 (d : Nat) (S : AS) (F : AF) (G : AG) (Q : AQ) (a0 : Int) : Prop :=
  ((a0 = -1) →
    Q (some (vI 1)) S F G) ∧
  ((¬ a0 = -1) →
    (1 ≤ d) ∧
    ∃ z6 : Int, Pu (d - 1) MX9_isGood [vI a0] S F G (some (vI z6)) ∧
    ((z6 = 0) →
      Q (some (vI 0)) S F G) ∧
    ((¬ z6 = 0) →
      Q (some (vI 1)) S F G))
theorem R_X9_isGoodOrAll_0 {d : Nat} {S : AS} {F : AF} {G : AG} {Q : AQ} {a0 : Int} (hsh : ShC S) (h : V_X9_isGoodOrAll_0 d S F G Q a0) : Go d MX9_isGoodOrAll 0 [some (vI a0)] [] S F G Q := by
  unfold V_X9_isGoodOrAll_0 at h
  refine go_iload_n (show decode cX9_isGoodOrAll 0 = .ok (.iload_n 0, 1) by decide +kernel) (by rfl) ?_
  refine go_iconst (show decode cX9_isGoodOrAll 1 = .ok (.iconst (-1), 1) by decide +kernel) (by decide) ?_
  obtain ⟨ht, hf⟩ := h
  refine go_icmpeq (tgt := 12) (show decode cX9_isGoodOrAll 2 = .ok (.if_icmp .eq 10, 3) by decide +kernel) (by decide) (fun hc => ?_) (fun hc => ?_)
  · have h := ht hc
    refine go_iconst (show decode cX9_isGoodOrAll 12 = .ok (.iconst 1, 1) by decide +kernel) (by decide) ?_
    refine go_goto (tgt := 17) (show decode cX9_isGoodOrAll 13 = .ok (.goto 4, 3) by decide +kernel) (by decide) ?_
    exact go_zret (show decode cX9_isGoodOrAll 17 = .ok (.ireturn, 1) by decide +kernel) rfl (by decide) h
  · have h := hf hc
    refine go_iload_n (show decode cX9_isGoodOrAll 5 = .ok (.iload_n 0, 1) by decide +kernel) (by rfl) ?_
    obtain ⟨q1, h⟩ := h
    obtain ⟨z6, p7, h⟩ := h
    refine go_callS (d2 := d - 1) (M2 := MX9_isGood) (n := 1) (av := [vI a0]) (st := []) (show decode cX9_isGoodOrAll 6 = .ok (.invokestatic 64, 3) by decide +kernel) ml_X9_64 mt_X9_isGood mst_X9_isGood rfl (Nat.le_of_ble_eq_true rfl) (by omega) (ok_mono p7 (fun w2 S3 F4 G5 e9 => ?_))
    obtain ⟨e1, e2, e3, e4⟩ := e9
    subst e1
    replace e2 := e2.symm; subst e2
    replace e3 := e3.symm; subst e3
    replace e4 := e4.symm; subst e4
    show Go d MX9_isGoodOrAll 9 [some (vI a0)] [vI z6] S F G Q
    obtain ⟨ht, hf⟩ := h
    refine go_ifeq (tgt := 16) (show decode cX9_isGoodOrAll 9 = .ok (.ifCond .eq 7, 3) by decide +kernel) (by decide) (fun hc => ?_) (fun hc => ?_)
    · have h := ht hc
      refine go_iconst (show decode cX9_isGoodOrAll 16 = .ok (.iconst 0, 1) by decide +kernel) (by decide) ?_
      exact go_zret (show decode cX9_isGoodOrAll 17 = .ok (.ireturn, 1) by decide +kernel) rfl (by decide) h
    · have h := hf hc
      refine go_iconst (show decode cX9_isGoodOrAll 12 = .ok (.iconst 1, 1) by decide +kernel) (by decide) ?_
      refine go_goto (tgt := 17) (show decode cX9_isGoodOrAll 13 = .ok (.goto 4, 3) by decide +kernel) (by decide) ?_
      exact go_zret (show decode cX9_isGoodOrAll 17 = .ok (.ireturn, 1) by decide +kernel) rfl (by decide) h
def V_X9_at_0 (d : Nat) (S : AS) (F : AF) (G : AG) (Q : AQ) (a1 : Int) (a2 : Int) (a3 : Int) : Prop :=
  (1 ≤ d) ∧
  ∃ z6 : Int, Pu (d - 1) MX9_isGoodOrAll [vI a1] S F G (some (vI z6)) ∧
  ((z6 = 0) →
    Q (some (vJ (-2))) S F G) ∧
  ((¬ z6 = 0) →
    Ok (d - 1) MX9_ask [vR 1, vI a2, vI a3, vI a2, vI a3] S F G (fun w8 S9 F10 G11 =>
    S9 = S ∧
    ∃ z12 : Int, w8 = some (vI z12) ∧
    ((¬ z12 = 0) →
      ∃ z17 : Int, Pu (d - 1) MX2_sumOf [vR 2, vI a1, vR 51] S F10 G11 (some (vJ z17)) ∧
      Q (some (vJ z17)) S F10 G11) ∧
    ((z12 = 0) →
      Q (some (vJ (-2))) S F10 G11)))
theorem R_X9_at_0 {d : Nat} {S : AS} {F : AF} {G : AG} {Q : AQ} {a1 : Int} {a2 : Int} {a3 : Int} (hsh : ShC S) (h : V_X9_at_0 d S F G Q a1 a2 a3) : Go d MX9_at 0 [some (vR 1), some (vI a1), some (vI a2), some (vI a3)] [] S F G Q := by
  unfold V_X9_at_0 at h
  refine go_iload_n (show decode cX9_at 0 = .ok (.iload_n 1, 1) by decide +kernel) (by rfl) ?_
  obtain ⟨q1, h⟩ := h
  obtain ⟨z6, p7, h⟩ := h
  refine go_callS (d2 := d - 1) (M2 := MX9_isGoodOrAll) (n := 1) (av := [vI a1]) (st := []) (show decode cX9_at 1 = .ok (.invokestatic 262, 3) by decide +kernel) ml_X9_262 mt_X9_isGoodOrAll mst_X9_isGoodOrAll rfl (Nat.le_of_ble_eq_true rfl) (by omega) (ok_mono p7 (fun w2 S3 F4 G5 e9 => ?_))
  obtain ⟨e1, e2, e3, e4⟩ := e9
  subst e1
  replace e2 := e2.symm; subst e2
  replace e3 := e3.symm; subst e3
  replace e4 := e4.symm; subst e4
  show Go d MX9_at 4 [some (vR 1), some (vI a1), some (vI a2), some (vI a3)] [vI z6] S F G Q
  obtain ⟨ht, hf⟩ := h
  refine go_ifeq (tgt := 18) (show decode cX9_at 4 = .ok (.ifCond .eq 14, 3) by decide +kernel) (by decide) (fun hc => ?_) (fun hc => ?_)
  · have h := ht hc
    refine go_ldc2 (show decode cX9_at 18 = .ok (.ldc2_w 72, 3) by decide +kernel) lc_X9_72 (by decide) ?_
    exact go_lret (show decode cX9_at 21 = .ok (.lreturn, 1) by decide +kernel) rfl h
  · have h := hf hc
    refine go_aload_n (show decode cX9_at 7 = .ok (.aload_n 0, 1) by decide +kernel) (by rfl) ?_
    refine go_iload_n (show decode cX9_at 8 = .ok (.iload_n 2, 1) by decide +kernel) (by rfl) ?_
    refine go_iload_n (show decode cX9_at 9 = .ok (.iload_n 3, 1) by decide +kernel) (by rfl) ?_
    refine go_iload_n (show decode cX9_at 10 = .ok (.iload_n 2, 1) by decide +kernel) (by rfl) ?_
    refine go_iload_n (show decode cX9_at 11 = .ok (.iload_n 3, 1) by decide +kernel) (by rfl) ?_
    refine go_callV (d2 := d - 1) (M2 := MX9_ask) (n := 4) (ci := 9) (av := [vI a2, vI a3, vI a2, vI a3]) (st := []) (show decode cX9_at 12 = .ok (.invokevirtual 68, 3) by decide +kernel) ml_X9_68 mt_X9_ask min_X9_ask mse_X9_ask (by decide) (shc_k hsh 1 (by decide) (by decide)) rfl (Nat.le_of_ble_eq_true rfl) (by omega) (ok_mono h (fun w8 S9 F10 G11 h => ?_))
    obtain ⟨e8, h⟩ := h
    replace e8 := e8.symm; subst e8
    obtain ⟨z12, e9, h⟩ := h
    subst e9
    show Go d MX9_at 15 [some (vR 1), some (vI a1), some (vI a2), some (vI a3)] [vI z12] S F10 G11 Q
    obtain ⟨ht, hf⟩ := h
    refine go_ifne (tgt := 22) (show decode cX9_at 15 = .ok (.ifCond .ne 7, 3) by decide +kernel) (by decide) (fun hc => ?_) (fun hc => ?_)
    · have h := ht hc
      refine go_aload_n (show decode cX9_at 22 = .ok (.aload_n 0, 1) by decide +kernel) (by rfl) ?_
      refine go_getRc (show decode cX9_at 23 = .ok (.getfield 20, 3) by decide +kernel) fl_X9_20 rfl (shc_k hsh 1 (by decide) (by decide)) (v := 2) (shc_r hsh 1 1 (by decide) (by decide) (by decide)) ?_
      refine go_iload_n (show decode cX9_at 26 = .ok (.iload_n 1, 1) by decide +kernel) (by rfl) ?_
      refine go_aload_n (show decode cX9_at 27 = .ok (.aload_n 0, 1) by decide +kernel) (by rfl) ?_
      refine go_getRc (show decode cX9_at 28 = .ok (.getfield 38, 3) by decide +kernel) fl_X9_38 rfl (shc_k hsh 1 (by decide) (by decide)) (v := 51) (shc_r hsh 1 4 (by decide) (by decide) (by decide)) ?_
      obtain ⟨z17, p18, h⟩ := h
      refine go_callV (d2 := d - 1) (M2 := MX2_sumOf) (n := 2) (ci := 2) (av := [vI a1, vR 51]) (st := []) (show decode cX9_at 31 = .ok (.invokevirtual 101, 3) by decide +kernel) ml_X9_101 mt_X2_sumOf min_X2_sumOf mse_X2_sumOf (by decide) (shc_k hsh 2 (by decide) (by decide)) rfl (Nat.le_of_ble_eq_true rfl) (by omega) (ok_mono p18 (fun w13 S14 F15 G16 e9 => ?_))
      obtain ⟨e1, e2, e3, e4⟩ := e9
      subst e1
      replace e2 := e2.symm; subst e2
      replace e3 := e3.symm; subst e3
      replace e4 := e4.symm; subst e4
      show Go d MX9_at 34 [some (vR 1), some (vI a1), some (vI a2), some (vI a3)] [vJ z17] S F10 G11 Q
      exact go_lret (show decode cX9_at 34 = .ok (.lreturn, 1) by decide +kernel) rfl h
    · have h := hf hc
      refine go_ldc2 (show decode cX9_at 18 = .ok (.ldc2_w 72, 3) by decide +kernel) lc_X9_72 (by decide) ?_
      exact go_lret (show decode cX9_at 21 = .ok (.lreturn, 1) by decide +kernel) rfl h
def V_X9_bound_0 (d : Nat) (S : AS) (F : AF) (G : AG) (Q : AQ) (a1 : Int) (a2 : Int) (a3 : Int) (a4 : Int) (a5 : Int) (a6 : Int) : Prop :=
  (1 ≤ d) ∧
  ∃ z6 : Int, Pu (d - 1) MX9_isGoodOrAll [vI a1] S F G (some (vI z6)) ∧
  ((z6 = 0) →
    Q (some (vJ (-2))) S F G) ∧
  ((¬ z6 = 0) →
    Ok (d - 1) MX9_ask [vR 1, vI a2, vI a3, vI a4, vI a5] S F G (fun w8 S9 F10 G11 =>
    S9 = S ∧
    ∃ z12 : Int, w8 = some (vI z12) ∧
    ((z12 = 0) →
      Q (some (vJ (-2))) S F10 G11) ∧
    ((¬ z12 = 0) →
      ((a6 < 0) →
        Q (some (vJ (-2))) S F10 G11) ∧
      ((¬ a6 < 0) →
        ((a6 ≤ 1) →
          ((¬ a6 = 0) →
            ∃ z17 : Int, Pu (d - 1) MX2_mostIn [vR 2, vI a1, vR 51] S F10 G11 (some (vJ z17)) ∧
            Q (some (vJ z17)) S F10 G11) ∧
          ((a6 = 0) →
            ∃ z23 : Int, Pu (d - 1) MX2_leastIn [vR 2, vI a1, vR 51] S F10 G11 (some (vJ z23)) ∧
            Q (some (vJ z23)) S F10 G11)) ∧
        ((¬ a6 ≤ 1) →
          Q (some (vJ (-2))) S F10 G11)))))
theorem R_X9_bound_0 {d : Nat} {S : AS} {F : AF} {G : AG} {Q : AQ} {a1 : Int} {a2 : Int} {a3 : Int} {a4 : Int} {a5 : Int} {a6 : Int} (hsh : ShC S) (h : V_X9_bound_0 d S F G Q a1 a2 a3 a4 a5 a6) : Go d MX9_bound 0 [some (vR 1), some (vI a1), some (vI a2), some (vI a3), some (vI a4), some (vI a5), some (vI a6)] [] S F G Q := by
  unfold V_X9_bound_0 at h
  refine go_iload_n (show decode cX9_bound 0 = .ok (.iload_n 1, 1) by decide +kernel) (by rfl) ?_
  obtain ⟨q1, h⟩ := h
  obtain ⟨z6, p7, h⟩ := h
  refine go_callS (d2 := d - 1) (M2 := MX9_isGoodOrAll) (n := 1) (av := [vI a1]) (st := []) (show decode cX9_bound 1 = .ok (.invokestatic 262, 3) by decide +kernel) ml_X9_262 mt_X9_isGoodOrAll mst_X9_isGoodOrAll rfl (Nat.le_of_ble_eq_true rfl) (by omega) (ok_mono p7 (fun w2 S3 F4 G5 e9 => ?_))
  obtain ⟨e1, e2, e3, e4⟩ := e9
  subst e1
  replace e2 := e2.symm; subst e2
  replace e3 := e3.symm; subst e3
  replace e4 := e4.symm; subst e4
  show Go d MX9_bound 4 [some (vR 1), some (vI a1), some (vI a2), some (vI a3), some (vI a4), some (vI a5), some (vI a6)] [vI z6] S F G Q
  obtain ⟨ht, hf⟩ := h
  refine go_ifeq (tgt := 31) (show decode cX9_bound 4 = .ok (.ifCond .eq 27, 3) by decide +kernel) (by decide) (fun hc => ?_) (fun hc => ?_)
  · have h := ht hc
    refine go_ldc2 (show decode cX9_bound 31 = .ok (.ldc2_w 72, 3) by decide +kernel) lc_X9_72 (by decide) ?_
    exact go_lret (show decode cX9_bound 34 = .ok (.lreturn, 1) by decide +kernel) rfl h
  · have h := hf hc
    refine go_aload_n (show decode cX9_bound 7 = .ok (.aload_n 0, 1) by decide +kernel) (by rfl) ?_
    refine go_iload_n (show decode cX9_bound 8 = .ok (.iload_n 2, 1) by decide +kernel) (by rfl) ?_
    refine go_iload_n (show decode cX9_bound 9 = .ok (.iload_n 3, 1) by decide +kernel) (by rfl) ?_
    refine go_iload (show decode cX9_bound 10 = .ok (.iload 4, 2) by decide +kernel) (by rfl) ?_
    refine go_iload (show decode cX9_bound 12 = .ok (.iload 5, 2) by decide +kernel) (by rfl) ?_
    refine go_callV (d2 := d - 1) (M2 := MX9_ask) (n := 4) (ci := 9) (av := [vI a2, vI a3, vI a4, vI a5]) (st := []) (show decode cX9_bound 14 = .ok (.invokevirtual 68, 3) by decide +kernel) ml_X9_68 mt_X9_ask min_X9_ask mse_X9_ask (by decide) (shc_k hsh 1 (by decide) (by decide)) rfl (Nat.le_of_ble_eq_true rfl) (by omega) (ok_mono h (fun w8 S9 F10 G11 h => ?_))
    obtain ⟨e8, h⟩ := h
    replace e8 := e8.symm; subst e8
    obtain ⟨z12, e9, h⟩ := h
    subst e9
    show Go d MX9_bound 17 [some (vR 1), some (vI a1), some (vI a2), some (vI a3), some (vI a4), some (vI a5), some (vI a6)] [vI z12] S F10 G11 Q
    obtain ⟨ht, hf⟩ := h
    refine go_ifeq (tgt := 31) (show decode cX9_bound 17 = .ok (.ifCond .eq 14, 3) by decide +kernel) (by decide) (fun hc => ?_) (fun hc => ?_)
    · have h := ht hc
      refine go_ldc2 (show decode cX9_bound 31 = .ok (.ldc2_w 72, 3) by decide +kernel) lc_X9_72 (by decide) ?_
      exact go_lret (show decode cX9_bound 34 = .ok (.lreturn, 1) by decide +kernel) rfl h
    · have h := hf hc
      refine go_iload (show decode cX9_bound 20 = .ok (.iload 6, 2) by decide +kernel) (by rfl) ?_
      obtain ⟨ht, hf⟩ := h
      refine go_iflt (tgt := 31) (show decode cX9_bound 22 = .ok (.ifCond .lt 9, 3) by decide +kernel) (by decide) (fun hc => ?_) (fun hc => ?_)
      · have h := ht hc
        refine go_ldc2 (show decode cX9_bound 31 = .ok (.ldc2_w 72, 3) by decide +kernel) lc_X9_72 (by decide) ?_
        exact go_lret (show decode cX9_bound 34 = .ok (.lreturn, 1) by decide +kernel) rfl h
      · have h := hf hc
        refine go_iload (show decode cX9_bound 25 = .ok (.iload 6, 2) by decide +kernel) (by rfl) ?_
        refine go_iconst (show decode cX9_bound 27 = .ok (.iconst 1, 1) by decide +kernel) (by decide) ?_
        obtain ⟨ht, hf⟩ := h
        refine go_icmple (tgt := 35) (show decode cX9_bound 28 = .ok (.if_icmp .le 7, 3) by decide +kernel) (by decide) (fun hc => ?_) (fun hc => ?_)
        · have h := ht hc
          refine go_iload (show decode cX9_bound 35 = .ok (.iload 6, 2) by decide +kernel) (by rfl) ?_
          obtain ⟨ht, hf⟩ := h
          refine go_ifne (tgt := 55) (show decode cX9_bound 37 = .ok (.ifCond .ne 18, 3) by decide +kernel) (by decide) (fun hc => ?_) (fun hc => ?_)
          · have h := ht hc
            refine go_aload_n (show decode cX9_bound 55 = .ok (.aload_n 0, 1) by decide +kernel) (by rfl) ?_
            refine go_getRc (show decode cX9_bound 56 = .ok (.getfield 20, 3) by decide +kernel) fl_X9_20 rfl (shc_k hsh 1 (by decide) (by decide)) (v := 2) (shc_r hsh 1 1 (by decide) (by decide) (by decide)) ?_
            refine go_iload_n (show decode cX9_bound 59 = .ok (.iload_n 1, 1) by decide +kernel) (by rfl) ?_
            refine go_aload_n (show decode cX9_bound 60 = .ok (.aload_n 0, 1) by decide +kernel) (by rfl) ?_
            refine go_getRc (show decode cX9_bound 61 = .ok (.getfield 38, 3) by decide +kernel) fl_X9_38 rfl (shc_k hsh 1 (by decide) (by decide)) (v := 51) (shc_r hsh 1 4 (by decide) (by decide) (by decide)) ?_
            obtain ⟨z17, p18, h⟩ := h
            refine go_callV (d2 := d - 1) (M2 := MX2_mostIn) (n := 2) (ci := 2) (av := [vI a1, vR 51]) (st := []) (show decode cX9_bound 64 = .ok (.invokevirtual 268, 3) by decide +kernel) ml_X9_268 mt_X2_mostIn min_X2_mostIn mse_X2_mostIn (by decide) (shc_k hsh 2 (by decide) (by decide)) rfl (Nat.le_of_ble_eq_true rfl) (by omega) (ok_mono p18 (fun w13 S14 F15 G16 e9 => ?_))
            obtain ⟨e1, e2, e3, e4⟩ := e9
            subst e1
            replace e2 := e2.symm; subst e2
            replace e3 := e3.symm; subst e3
            replace e4 := e4.symm; subst e4
            show Go d MX9_bound 67 [some (vR 1), some (vI a1), some (vI a2), some (vI a3), some (vI a4), some (vI a5), some (vI a6)] [vJ z17] S F10 G11 Q
            exact go_lret (show decode cX9_bound 67 = .ok (.lreturn, 1) by decide +kernel) rfl h
          · have h := hf hc
            refine go_aload_n (show decode cX9_bound 40 = .ok (.aload_n 0, 1) by decide +kernel) (by rfl) ?_
            refine go_getRc (show decode cX9_bound 41 = .ok (.getfield 20, 3) by decide +kernel) fl_X9_20 rfl (shc_k hsh 1 (by decide) (by decide)) (v := 2) (shc_r hsh 1 1 (by decide) (by decide) (by decide)) ?_
            refine go_iload_n (show decode cX9_bound 44 = .ok (.iload_n 1, 1) by decide +kernel) (by rfl) ?_
            refine go_aload_n (show decode cX9_bound 45 = .ok (.aload_n 0, 1) by decide +kernel) (by rfl) ?_
            refine go_getRc (show decode cX9_bound 46 = .ok (.getfield 38, 3) by decide +kernel) fl_X9_38 rfl (shc_k hsh 1 (by decide) (by decide)) (v := 51) (shc_r hsh 1 4 (by decide) (by decide) (by decide)) ?_
            obtain ⟨z23, p24, h⟩ := h
            refine go_callV (d2 := d - 1) (M2 := MX2_leastIn) (n := 2) (ci := 2) (av := [vI a1, vR 51]) (st := []) (show decode cX9_bound 49 = .ok (.invokevirtual 265, 3) by decide +kernel) ml_X9_265 mt_X2_leastIn min_X2_leastIn mse_X2_leastIn (by decide) (shc_k hsh 2 (by decide) (by decide)) rfl (Nat.le_of_ble_eq_true rfl) (by omega) (ok_mono p24 (fun w19 S20 F21 G22 e9 => ?_))
            obtain ⟨e1, e2, e3, e4⟩ := e9
            subst e1
            replace e2 := e2.symm; subst e2
            replace e3 := e3.symm; subst e3
            replace e4 := e4.symm; subst e4
            show Go d MX9_bound 52 [some (vR 1), some (vI a1), some (vI a2), some (vI a3), some (vI a4), some (vI a5), some (vI a6)] [vJ z23] S F10 G11 Q
            refine go_goto (tgt := 67) (show decode cX9_bound 52 = .ok (.goto 15, 3) by decide +kernel) (by decide) ?_
            exact go_lret (show decode cX9_bound 67 = .ok (.lreturn, 1) by decide +kernel) rfl h
        · have h := hf hc
          refine go_ldc2 (show decode cX9_bound 31 = .ok (.ldc2_w 72, 3) by decide +kernel) lc_X9_72 (by decide) ?_
          exact go_lret (show decode cX9_bound 34 = .ok (.lreturn, 1) by decide +kernel) rfl h
def V_X9_empty_0 (d : Nat) (S : AS) (F : AF) (G : AG) (Q : AQ) (a1 : Int) (a2 : Int) (a3 : Int) (a4 : Int) : Prop :=
  (1 ≤ d) ∧
  Ok (d - 1) MX9_ask [vR 1, vI a1, vI a2, vI a3, vI a4] S F G (fun w2 S3 F4 G5 =>
  S3 = S ∧
  ∃ z6 : Int, w2 = some (vI z6) ∧
  ((¬ z6 = 0) →
    ∃ z11 : Int, Pu (d - 1) MX3_cells [vR 51] S F4 G5 (some (vJ z11)) ∧
    ∃ z17 : Int, Pu (d - 1) MX2_cellsFrom [vR 2, vI (-1), vR 51, vJ 1] S F4 G5 (some (vJ z17)) ∧
    (r64 (z11 - z17)) ∧
    Q (some (vJ (z11 - z17))) S F4 G5) ∧
  ((z6 = 0) →
    Q (some (vJ (-2))) S F4 G5))
theorem R_X9_empty_0 {d : Nat} {S : AS} {F : AF} {G : AG} {Q : AQ} {a1 : Int} {a2 : Int} {a3 : Int} {a4 : Int} (hsh : ShC S) (h : V_X9_empty_0 d S F G Q a1 a2 a3 a4) : Go d MX9_empty 0 [some (vR 1), some (vI a1), some (vI a2), some (vI a3), some (vI a4)] [] S F G Q := by
  unfold V_X9_empty_0 at h
  refine go_aload_n (show decode cX9_empty 0 = .ok (.aload_n 0, 1) by decide +kernel) (by rfl) ?_
  refine go_iload_n (show decode cX9_empty 1 = .ok (.iload_n 1, 1) by decide +kernel) (by rfl) ?_
  refine go_iload_n (show decode cX9_empty 2 = .ok (.iload_n 2, 1) by decide +kernel) (by rfl) ?_
  refine go_iload_n (show decode cX9_empty 3 = .ok (.iload_n 3, 1) by decide +kernel) (by rfl) ?_
  refine go_iload (show decode cX9_empty 4 = .ok (.iload 4, 2) by decide +kernel) (by rfl) ?_
  obtain ⟨q1, h⟩ := h
  refine go_callV (d2 := d - 1) (M2 := MX9_ask) (n := 4) (ci := 9) (av := [vI a1, vI a2, vI a3, vI a4]) (st := []) (show decode cX9_empty 6 = .ok (.invokevirtual 68, 3) by decide +kernel) ml_X9_68 mt_X9_ask min_X9_ask mse_X9_ask (by decide) (shc_k hsh 1 (by decide) (by decide)) rfl (Nat.le_of_ble_eq_true rfl) (by omega) (ok_mono h (fun w2 S3 F4 G5 h => ?_))
  obtain ⟨e8, h⟩ := h
  replace e8 := e8.symm; subst e8
  obtain ⟨z6, e9, h⟩ := h
  subst e9
  show Go d MX9_empty 9 [some (vR 1), some (vI a1), some (vI a2), some (vI a3), some (vI a4)] [vI z6] S F4 G5 Q
  obtain ⟨ht, hf⟩ := h
  refine go_ifne (tgt := 16) (show decode cX9_empty 9 = .ok (.ifCond .ne 7, 3) by decide +kernel) (by decide) (fun hc => ?_) (fun hc => ?_)
  · have h := ht hc
    refine go_aload_n (show decode cX9_empty 16 = .ok (.aload_n 0, 1) by decide +kernel) (by rfl) ?_
    refine go_getRc (show decode cX9_empty 17 = .ok (.getfield 38, 3) by decide +kernel) fl_X9_38 rfl (shc_k hsh 1 (by decide) (by decide)) (v := 51) (shc_r hsh 1 4 (by decide) (by decide) (by decide)) ?_
    obtain ⟨z11, p12, h⟩ := h
    refine go_callV (d2 := d - 1) (M2 := MX3_cells) (n := 0) (ci := 3) (av := []) (st := []) (show decode cX9_empty 20 = .ok (.invokevirtual 60, 3) by decide +kernel) ml_X9_60 mt_X3_cells min_X3_cells mse_X3_cells (by decide) (shc_k hsh 51 (by decide) (by decide)) rfl (Nat.le_of_ble_eq_true rfl) (by omega) (ok_mono p12 (fun w7 S8 F9 G10 e9 => ?_))
    obtain ⟨e1, e2, e3, e4⟩ := e9
    subst e1
    replace e2 := e2.symm; subst e2
    replace e3 := e3.symm; subst e3
    replace e4 := e4.symm; subst e4
    show Go d MX9_empty 23 [some (vR 1), some (vI a1), some (vI a2), some (vI a3), some (vI a4)] [vJ z11] S F4 G5 Q
    refine go_aload_n (show decode cX9_empty 23 = .ok (.aload_n 0, 1) by decide +kernel) (by rfl) ?_
    refine go_getRc (show decode cX9_empty 24 = .ok (.getfield 20, 3) by decide +kernel) fl_X9_20 rfl (shc_k hsh 1 (by decide) (by decide)) (v := 2) (shc_r hsh 1 1 (by decide) (by decide) (by decide)) ?_
    refine go_iconst (show decode cX9_empty 27 = .ok (.iconst (-1), 1) by decide +kernel) (by decide) ?_
    refine go_aload_n (show decode cX9_empty 28 = .ok (.aload_n 0, 1) by decide +kernel) (by rfl) ?_
    refine go_getRc (show decode cX9_empty 29 = .ok (.getfield 38, 3) by decide +kernel) fl_X9_38 rfl (shc_k hsh 1 (by decide) (by decide)) (v := 51) (shc_r hsh 1 4 (by decide) (by decide) (by decide)) ?_
    refine go_lconst (n := 1) (show decode cX9_empty 32 = .ok (.lconst 1, 1) by decide +kernel) ?_
    show Go d MX9_empty 33 [some (vR 1), some (vI a1), some (vI a2), some (vI a3), some (vI a4)] [vJ 1, vR 51, vI (-1), vR 2, vJ z11] S F4 G5 Q
    obtain ⟨z17, p18, h⟩ := h
    refine go_callV (d2 := d - 1) (M2 := MX2_cellsFrom) (n := 3) (ci := 2) (av := [vI (-1), vR 51, vJ 1]) (st := [vJ z11]) (show decode cX9_empty 33 = .ok (.invokevirtual 271, 3) by decide +kernel) ml_X9_271 mt_X2_cellsFrom min_X2_cellsFrom mse_X2_cellsFrom (by decide) (shc_k hsh 2 (by decide) (by decide)) rfl (Nat.le_of_ble_eq_true rfl) (by omega) (ok_mono p18 (fun w13 S14 F15 G16 e9 => ?_))
    obtain ⟨e1, e2, e3, e4⟩ := e9
    subst e1
    replace e2 := e2.symm; subst e2
    replace e3 := e3.symm; subst e3
    replace e4 := e4.symm; subst e4
    show Go d MX9_empty 36 [some (vR 1), some (vI a1), some (vI a2), some (vI a3), some (vI a4)] [vJ z17, vJ z11] S F4 G5 Q
    obtain ⟨q19, h⟩ := h
    refine go_lsub (show decode cX9_empty 36 = .ok (.lsub, 1) by decide +kernel) q19 ?_
    exact go_lret (show decode cX9_empty 37 = .ok (.lreturn, 1) by decide +kernel) rfl h
  · have h := hf hc
    refine go_ldc2 (show decode cX9_empty 12 = .ok (.ldc2_w 72, 3) by decide +kernel) lc_X9_72 (by decide) ?_
    exact go_lret (show decode cX9_empty 15 = .ok (.lreturn, 1) by decide +kernel) rfl h
def V_X9_share_0 (d : Nat) (S : AS) (F : AF) (G : AG) (Q : AQ) (a1 : Int) (a2 : Int) (a3 : Int) (a4 : Int) (a5 : Int) (a6 : Int) : Prop :=
  (1 ≤ d) ∧
  ∃ z6 : Int, Pu (d - 1) MX9_isGood [vI a1] S F G (some (vI z6)) ∧
  ((z6 = 0) →
    Q (some (vJ (-2))) S F G) ∧
  ((¬ z6 = 0) →
    Ok (d - 1) MX9_ask [vR 1, vI a2, vI a3, vI a4, vI a5] S F G (fun w8 S9 F10 G11 =>
    S9 = S ∧
    ∃ z12 : Int, w8 = some (vI z12) ∧
    ((z12 = 0) →
      Q (some (vJ (-2))) S F10 G11) ∧
    ((¬ z12 = 0) →
      ((a6 < 0) →
        Q (some (vJ (-2))) S F10 G11) ∧
      ((¬ a6 < 0) →
        ((a6 ≤ 1) →
          ∃ z17 : Int, Pu (d - 1) MX2_sumOf [vR 2, vI a1, vR 51] S F10 G11 (some (vJ z17)) ∧
          ∃ z23 : Int, Pu (d - 1) MX2_sumOf [vR 2, vI a1, vR 17] S F10 G11 (some (vJ z23)) ∧
          ∃ z29 : Int, Pu (d - 1) MX9_commonDivisor [vJ z17, vJ z23] S F10 G11 (some (vJ z29)) ∧
          ((1 ≤ z29) →
            ((¬ a6 = 0) →
              (¬ z29 = 0) ∧
              (r64 (Int.tdiv z23 z29)) ∧
              Q (some (vJ (Int.tdiv z23 z29))) S F10 G11) ∧
            ((a6 = 0) →
              (¬ z29 = 0) ∧
              (r64 (Int.tdiv z17 z29)) ∧
              Q (some (vJ (Int.tdiv z17 z29))) S F10 G11)) ∧
          ((¬ 1 ≤ z29) →
            Q (some (vJ a6)) S F10 G11)) ∧
        ((¬ a6 ≤ 1) →
          Q (some (vJ (-2))) S F10 G11)))))
theorem R_X9_share_0 {d : Nat} {S : AS} {F : AF} {G : AG} {Q : AQ} {a1 : Int} {a2 : Int} {a3 : Int} {a4 : Int} {a5 : Int} {a6 : Int} (hsh : ShC S) (h : V_X9_share_0 d S F G Q a1 a2 a3 a4 a5 a6) : Go d MX9_share 0 [some (vR 1), some (vI a1), some (vI a2), some (vI a3), some (vI a4), some (vI a5), some (vI a6), none, none, none, none, none, none] [] S F G Q := by
  unfold V_X9_share_0 at h
  refine go_iload_n (show decode cX9_share 0 = .ok (.iload_n 1, 1) by decide +kernel) (by rfl) ?_
  obtain ⟨q1, h⟩ := h
  obtain ⟨z6, p7, h⟩ := h
  refine go_callS (d2 := d - 1) (M2 := MX9_isGood) (n := 1) (av := [vI a1]) (st := []) (show decode cX9_share 1 = .ok (.invokestatic 64, 3) by decide +kernel) ml_X9_64 mt_X9_isGood mst_X9_isGood rfl (Nat.le_of_ble_eq_true rfl) (by omega) (ok_mono p7 (fun w2 S3 F4 G5 e9 => ?_))
  obtain ⟨e1, e2, e3, e4⟩ := e9
  subst e1
  replace e2 := e2.symm; subst e2
  replace e3 := e3.symm; subst e3
  replace e4 := e4.symm; subst e4
  show Go d MX9_share 4 [some (vR 1), some (vI a1), some (vI a2), some (vI a3), some (vI a4), some (vI a5), some (vI a6), none, none, none, none, none, none] [vI z6] S F G Q
  obtain ⟨ht, hf⟩ := h
  refine go_ifeq (tgt := 31) (show decode cX9_share 4 = .ok (.ifCond .eq 27, 3) by decide +kernel) (by decide) (fun hc => ?_) (fun hc => ?_)
  · have h := ht hc
    refine go_ldc2 (show decode cX9_share 31 = .ok (.ldc2_w 72, 3) by decide +kernel) lc_X9_72 (by decide) ?_
    exact go_lret (show decode cX9_share 34 = .ok (.lreturn, 1) by decide +kernel) rfl h
  · have h := hf hc
    refine go_aload_n (show decode cX9_share 7 = .ok (.aload_n 0, 1) by decide +kernel) (by rfl) ?_
    refine go_iload_n (show decode cX9_share 8 = .ok (.iload_n 2, 1) by decide +kernel) (by rfl) ?_
    refine go_iload_n (show decode cX9_share 9 = .ok (.iload_n 3, 1) by decide +kernel) (by rfl) ?_
    refine go_iload (show decode cX9_share 10 = .ok (.iload 4, 2) by decide +kernel) (by rfl) ?_
    refine go_iload (show decode cX9_share 12 = .ok (.iload 5, 2) by decide +kernel) (by rfl) ?_
    refine go_callV (d2 := d - 1) (M2 := MX9_ask) (n := 4) (ci := 9) (av := [vI a2, vI a3, vI a4, vI a5]) (st := []) (show decode cX9_share 14 = .ok (.invokevirtual 68, 3) by decide +kernel) ml_X9_68 mt_X9_ask min_X9_ask mse_X9_ask (by decide) (shc_k hsh 1 (by decide) (by decide)) rfl (Nat.le_of_ble_eq_true rfl) (by omega) (ok_mono h (fun w8 S9 F10 G11 h => ?_))
    obtain ⟨e8, h⟩ := h
    replace e8 := e8.symm; subst e8
    obtain ⟨z12, e9, h⟩ := h
    subst e9
    show Go d MX9_share 17 [some (vR 1), some (vI a1), some (vI a2), some (vI a3), some (vI a4), some (vI a5), some (vI a6), none, none, none, none, none, none] [vI z12] S F10 G11 Q
    obtain ⟨ht, hf⟩ := h
    refine go_ifeq (tgt := 31) (show decode cX9_share 17 = .ok (.ifCond .eq 14, 3) by decide +kernel) (by decide) (fun hc => ?_) (fun hc => ?_)
    · have h := ht hc
      refine go_ldc2 (show decode cX9_share 31 = .ok (.ldc2_w 72, 3) by decide +kernel) lc_X9_72 (by decide) ?_
      exact go_lret (show decode cX9_share 34 = .ok (.lreturn, 1) by decide +kernel) rfl h
    · have h := hf hc
      refine go_iload (show decode cX9_share 20 = .ok (.iload 6, 2) by decide +kernel) (by rfl) ?_
      obtain ⟨ht, hf⟩ := h
      refine go_iflt (tgt := 31) (show decode cX9_share 22 = .ok (.ifCond .lt 9, 3) by decide +kernel) (by decide) (fun hc => ?_) (fun hc => ?_)
      · have h := ht hc
        refine go_ldc2 (show decode cX9_share 31 = .ok (.ldc2_w 72, 3) by decide +kernel) lc_X9_72 (by decide) ?_
        exact go_lret (show decode cX9_share 34 = .ok (.lreturn, 1) by decide +kernel) rfl h
      · have h := hf hc
        refine go_iload (show decode cX9_share 25 = .ok (.iload 6, 2) by decide +kernel) (by rfl) ?_
        refine go_iconst (show decode cX9_share 27 = .ok (.iconst 1, 1) by decide +kernel) (by decide) ?_
        obtain ⟨ht, hf⟩ := h
        refine go_icmple (tgt := 35) (show decode cX9_share 28 = .ok (.if_icmp .le 7, 3) by decide +kernel) (by decide) (fun hc => ?_) (fun hc => ?_)
        · have h := ht hc
          refine go_aload_n (show decode cX9_share 35 = .ok (.aload_n 0, 1) by decide +kernel) (by rfl) ?_
          refine go_getRc (show decode cX9_share 36 = .ok (.getfield 20, 3) by decide +kernel) fl_X9_20 rfl (shc_k hsh 1 (by decide) (by decide)) (v := 2) (shc_r hsh 1 1 (by decide) (by decide) (by decide)) ?_
          refine go_iload_n (show decode cX9_share 39 = .ok (.iload_n 1, 1) by decide +kernel) (by rfl) ?_
          refine go_aload_n (show decode cX9_share 40 = .ok (.aload_n 0, 1) by decide +kernel) (by rfl) ?_
          refine go_getRc (show decode cX9_share 41 = .ok (.getfield 38, 3) by decide +kernel) fl_X9_38 rfl (shc_k hsh 1 (by decide) (by decide)) (v := 51) (shc_r hsh 1 4 (by decide) (by decide) (by decide)) ?_
          obtain ⟨z17, p18, h⟩ := h
          refine go_callV (d2 := d - 1) (M2 := MX2_sumOf) (n := 2) (ci := 2) (av := [vI a1, vR 51]) (st := []) (show decode cX9_share 44 = .ok (.invokevirtual 101, 3) by decide +kernel) ml_X9_101 mt_X2_sumOf min_X2_sumOf mse_X2_sumOf (by decide) (shc_k hsh 2 (by decide) (by decide)) rfl (Nat.le_of_ble_eq_true rfl) (by omega) (ok_mono p18 (fun w13 S14 F15 G16 e9 => ?_))
          obtain ⟨e1, e2, e3, e4⟩ := e9
          subst e1
          replace e2 := e2.symm; subst e2
          replace e3 := e3.symm; subst e3
          replace e4 := e4.symm; subst e4
          show Go d MX9_share 47 [some (vR 1), some (vI a1), some (vI a2), some (vI a3), some (vI a4), some (vI a5), some (vI a6), none, none, none, none, none, none] [vJ z17] S F10 G11 Q
          refine go_lstore (show decode cX9_share 47 = .ok (.lstore 7, 2) by decide +kernel) (by decide) ?_
          show Go d MX9_share 49 [some (vR 1), some (vI a1), some (vI a2), some (vI a3), some (vI a4), some (vI a5), some (vI a6), some (vJ z17), none, none, none, none, none] [] S F10 G11 Q
          refine go_aload_n (show decode cX9_share 49 = .ok (.aload_n 0, 1) by decide +kernel) (by rfl) ?_
          refine go_getRc (show decode cX9_share 50 = .ok (.getfield 20, 3) by decide +kernel) fl_X9_20 rfl (shc_k hsh 1 (by decide) (by decide)) (v := 2) (shc_r hsh 1 1 (by decide) (by decide) (by decide)) ?_
          refine go_iload_n (show decode cX9_share 53 = .ok (.iload_n 1, 1) by decide +kernel) (by rfl) ?_
          refine go_aload_n (show decode cX9_share 54 = .ok (.aload_n 0, 1) by decide +kernel) (by rfl) ?_
          refine go_getRc (show decode cX9_share 55 = .ok (.getfield 20, 3) by decide +kernel) fl_X9_20 rfl (shc_k hsh 1 (by decide) (by decide)) (v := 2) (shc_r hsh 1 1 (by decide) (by decide) (by decide)) ?_
          refine go_getRc (show decode cX9_share 58 = .ok (.getfield 57, 3) by decide +kernel) fl_X9_57 rfl (shc_k hsh 2 (by decide) (by decide)) (v := 17) (shc_r hsh 2 2 (by decide) (by decide) (by decide)) ?_
          obtain ⟨z23, p24, h⟩ := h
          refine go_callV (d2 := d - 1) (M2 := MX2_sumOf) (n := 2) (ci := 2) (av := [vI a1, vR 17]) (st := []) (show decode cX9_share 61 = .ok (.invokevirtual 101, 3) by decide +kernel) ml_X9_101 mt_X2_sumOf min_X2_sumOf mse_X2_sumOf (by decide) (shc_k hsh 2 (by decide) (by decide)) rfl (Nat.le_of_ble_eq_true rfl) (by omega) (ok_mono p24 (fun w19 S20 F21 G22 e9 => ?_))
          obtain ⟨e1, e2, e3, e4⟩ := e9
          subst e1
          replace e2 := e2.symm; subst e2
          replace e3 := e3.symm; subst e3
          replace e4 := e4.symm; subst e4
          show Go d MX9_share 64 [some (vR 1), some (vI a1), some (vI a2), some (vI a3), some (vI a4), some (vI a5), some (vI a6), some (vJ z17), none, none, none, none, none] [vJ z23] S F10 G11 Q
          refine go_lstore (show decode cX9_share 64 = .ok (.lstore 9, 2) by decide +kernel) (by decide) ?_
          show Go d MX9_share 66 [some (vR 1), some (vI a1), some (vI a2), some (vI a3), some (vI a4), some (vI a5), some (vI a6), some (vJ z17), none, some (vJ z23), none, none, none] [] S F10 G11 Q
          refine go_lload (show decode cX9_share 66 = .ok (.lload 7, 2) by decide +kernel) (by rfl) ?_
          refine go_lload (show decode cX9_share 68 = .ok (.lload 9, 2) by decide +kernel) (by rfl) ?_
          obtain ⟨z29, p30, h⟩ := h
          refine go_callS (d2 := d - 1) (M2 := MX9_commonDivisor) (n := 2) (av := [vJ z17, vJ z23]) (st := []) (show decode cX9_share 70 = .ok (.invokestatic 275, 3) by decide +kernel) ml_X9_275 mt_X9_commonDivisor mst_X9_commonDivisor rfl (Nat.le_of_ble_eq_true rfl) (by omega) (ok_mono p30 (fun w25 S26 F27 G28 e9 => ?_))
          obtain ⟨e1, e2, e3, e4⟩ := e9
          subst e1
          replace e2 := e2.symm; subst e2
          replace e3 := e3.symm; subst e3
          replace e4 := e4.symm; subst e4
          show Go d MX9_share 73 [some (vR 1), some (vI a1), some (vI a2), some (vI a3), some (vI a4), some (vI a5), some (vI a6), some (vJ z17), none, some (vJ z23), none, none, none] [vJ z29] S F10 G11 Q
          refine go_lstore (show decode cX9_share 73 = .ok (.lstore 11, 2) by decide +kernel) (by decide) ?_
          show Go d MX9_share 75 [some (vR 1), some (vI a1), some (vI a2), some (vI a3), some (vI a4), some (vI a5), some (vI a6), some (vJ z17), none, some (vJ z23), none, some (vJ z29), none] [] S F10 G11 Q
          refine go_lload (show decode cX9_share 75 = .ok (.lload 11, 2) by decide +kernel) (by rfl) ?_
          refine go_lconst (n := 1) (show decode cX9_share 77 = .ok (.lconst 1, 1) by decide +kernel) ?_
          show Go d MX9_share 78 [some (vR 1), some (vI a1), some (vI a2), some (vI a3), some (vI a4), some (vI a5), some (vI a6), some (vJ z17), none, some (vJ z23), none, some (vJ z29), none] [vJ 1, vJ z29] S F10 G11 Q
          obtain ⟨ht, hf⟩ := h
          refine go_jge (tgt := 86) (show decode cX9_share 78 = .ok (.lcmp, 1) by decide +kernel) (show decode cX9_share 79 = .ok (.ifCond .ge 7, 3) by decide +kernel) (by decide) (fun hc => ?_) (fun hc => ?_)
          · have h := ht hc
            refine go_iload (show decode cX9_share 86 = .ok (.iload 6, 2) by decide +kernel) (by rfl) ?_
            obtain ⟨ht, hf⟩ := h
            refine go_ifne (tgt := 99) (show decode cX9_share 88 = .ok (.ifCond .ne 11, 3) by decide +kernel) (by decide) (fun hc => ?_) (fun hc => ?_)
            · have h := ht hc
              refine go_lload (show decode cX9_share 99 = .ok (.lload 9, 2) by decide +kernel) (by rfl) ?_
              refine go_lload (show decode cX9_share 101 = .ok (.lload 11, 2) by decide +kernel) (by rfl) ?_
              obtain ⟨q31, h⟩ := h
              obtain ⟨q32, h⟩ := h
              refine go_ldiv (show decode cX9_share 103 = .ok (.ldiv, 1) by decide +kernel) q31 q32 ?_
              exact go_lret (show decode cX9_share 104 = .ok (.lreturn, 1) by decide +kernel) rfl h
            · have h := hf hc
              refine go_lload (show decode cX9_share 91 = .ok (.lload 7, 2) by decide +kernel) (by rfl) ?_
              refine go_lload (show decode cX9_share 93 = .ok (.lload 11, 2) by decide +kernel) (by rfl) ?_
              obtain ⟨q33, h⟩ := h
              obtain ⟨q34, h⟩ := h
              refine go_ldiv (show decode cX9_share 95 = .ok (.ldiv, 1) by decide +kernel) q33 q34 ?_
              refine go_goto (tgt := 104) (show decode cX9_share 96 = .ok (.goto 8, 3) by decide +kernel) (by decide) ?_
              exact go_lret (show decode cX9_share 104 = .ok (.lreturn, 1) by decide +kernel) rfl h
          · have h := hf hc
            refine go_iload (show decode cX9_share 82 = .ok (.iload 6, 2) by decide +kernel) (by rfl) ?_
            refine go_i2l (show decode cX9_share 84 = .ok (.i2l, 1) by decide +kernel) ?_
            exact go_lret (show decode cX9_share 85 = .ok (.lreturn, 1) by decide +kernel) rfl h
        · have h := hf hc
          refine go_ldc2 (show decode cX9_share 31 = .ok (.ldc2_w 72, 3) by decide +kernel) lc_X9_72 (by decide) ?_
          exact go_lret (show decode cX9_share 34 = .ok (.lreturn, 1) by decide +kernel) rfl h
def V_X9_commonDivisor_9 (d : Nat) (S : AS) (F : AF) (G : AG) (Q : AQ) (a0 : Int) (a2 : Int) (a4 : Int) (a6 : Int) (a8 : Int) : Prop :=
  ((200 ≤ a8) →
    Q (some (vJ a4)) S F G) ∧
  ((¬ 200 ≤ a8) →
    ((a6 = 0) →
      Q (some (vJ a4)) S F G) ∧
    ((¬ a6 = 0) →
      (¬ a6 = 0) ∧
      (r64 (Int.tdiv a4 a6)) ∧
      (r64 (Int.tmod a4 a6)) ∧
      ∀ x4 : Int, x4 = Int.tmod a4 a6 →
      (r32 (a8 + 1)) ∧
      Go d MX9_commonDivisor 9 [some (vJ a0), none, some (vJ a2), none, some (vJ a6), none, some (vJ x4), none, some (vI (a8 + 1)), none, none] [] S F G Q))
theorem R_X9_commonDivisor_9 {d : Nat} {S : AS} {F : AF} {G : AG} {Q : AQ} {a0 : Int} {a2 : Int} {a4 : Int} {a6 : Int} {a8 : Int} (hsh : ShC S) (h : V_X9_commonDivisor_9 d S F G Q a0 a2 a4 a6 a8) : Go d MX9_commonDivisor 9 [some (vJ a0), none, some (vJ a2), none, some (vJ a4), none, some (vJ a6), none, some (vI a8), none, none] [] S F G Q := by
  unfold V_X9_commonDivisor_9 at h
  refine go_iload (show decode cX9_commonDivisor 9 = .ok (.iload 8, 2) by decide +kernel) (by rfl) ?_
  refine go_sipush (show decode cX9_commonDivisor 11 = .ok (.sipush 200, 3) by decide +kernel) (by decide) ?_
  obtain ⟨ht, hf⟩ := h
  refine go_icmpge (tgt := 45) (show decode cX9_commonDivisor 14 = .ok (.if_icmp .ge 31, 3) by decide +kernel) (by decide) (fun hc => ?_) (fun hc => ?_)
  · have h := ht hc
    refine go_lload (show decode cX9_commonDivisor 45 = .ok (.lload 4, 2) by decide +kernel) (by rfl) ?_
    exact go_lret (show decode cX9_commonDivisor 47 = .ok (.lreturn, 1) by decide +kernel) rfl h
  · have h := hf hc
    refine go_lload (show decode cX9_commonDivisor 17 = .ok (.lload 6, 2) by decide +kernel) (by rfl) ?_
    refine go_lconst (n := 0) (show decode cX9_commonDivisor 19 = .ok (.lconst 0, 1) by decide +kernel) ?_
    show Go d MX9_commonDivisor 20 [some (vJ a0), none, some (vJ a2), none, some (vJ a4), none, some (vJ a6), none, some (vI a8), none, none] [vJ 0, vJ a6] S F G Q
    obtain ⟨ht, hf⟩ := h
    refine go_jeq (tgt := 45) (show decode cX9_commonDivisor 20 = .ok (.lcmp, 1) by decide +kernel) (show decode cX9_commonDivisor 21 = .ok (.ifCond .eq 24, 3) by decide +kernel) (by decide) (fun hc => ?_) (fun hc => ?_)
    · have h := ht hc
      refine go_lload (show decode cX9_commonDivisor 45 = .ok (.lload 4, 2) by decide +kernel) (by rfl) ?_
      exact go_lret (show decode cX9_commonDivisor 47 = .ok (.lreturn, 1) by decide +kernel) rfl h
    · have h := hf hc
      refine go_lload (show decode cX9_commonDivisor 24 = .ok (.lload 4, 2) by decide +kernel) (by rfl) ?_
      refine go_lload (show decode cX9_commonDivisor 26 = .ok (.lload 6, 2) by decide +kernel) (by rfl) ?_
      obtain ⟨q1, h⟩ := h
      obtain ⟨q2, h⟩ := h
      obtain ⟨q3, h⟩ := h
      refine go_lrem (show decode cX9_commonDivisor 28 = .ok (.lrem, 1) by decide +kernel) q1 q2 q3 ?_
      obtain ⟨x4, x4e⟩ : ∃ x4 : Int, x4 = Int.tmod a4 a6 := ⟨_, rfl⟩
      have h := h x4 x4e
      rw [← x4e]
      refine go_lstore (show decode cX9_commonDivisor 29 = .ok (.lstore 9, 2) by decide +kernel) (by decide) ?_
      show Go d MX9_commonDivisor 31 [some (vJ a0), none, some (vJ a2), none, some (vJ a4), none, some (vJ a6), none, some (vI a8), some (vJ x4), none] [] S F G Q
      refine go_lload (show decode cX9_commonDivisor 31 = .ok (.lload 6, 2) by decide +kernel) (by rfl) ?_
      refine go_lstore (show decode cX9_commonDivisor 33 = .ok (.lstore 4, 2) by decide +kernel) (by decide) ?_
      show Go d MX9_commonDivisor 35 [some (vJ a0), none, some (vJ a2), none, some (vJ a6), none, some (vJ a6), none, some (vI a8), some (vJ x4), none] [] S F G Q
      refine go_lload (show decode cX9_commonDivisor 35 = .ok (.lload 9, 2) by decide +kernel) (by rfl) ?_
      refine go_lstore (show decode cX9_commonDivisor 37 = .ok (.lstore 6, 2) by decide +kernel) (by decide) ?_
      show Go d MX9_commonDivisor 39 [some (vJ a0), none, some (vJ a2), none, some (vJ a6), none, some (vJ x4), none, some (vI a8), some (vJ x4), none] [] S F G Q
      obtain ⟨q5, h⟩ := h
      refine go_iinc (show decode cX9_commonDivisor 39 = .ok (.iinc 8 1, 3) by decide +kernel) (by rfl) q5 (by decide) ?_
      show Go d MX9_commonDivisor 42 [some (vJ a0), none, some (vJ a2), none, some (vJ a6), none, some (vJ x4), none, some (vI (a8 + 1)), some (vJ x4), none] [] S F G Q
      refine go_goto (tgt := 9) (show decode cX9_commonDivisor 42 = .ok (.goto (-33), 3) by decide +kernel) (by decide) ?_
      refine go_clr 9 ?_
      exact h
def V_X9_commonDivisor_0 (d : Nat) (S : AS) (F : AF) (G : AG) (Q : AQ) (a0 : Int) (a2 : Int) : Prop :=
  Go d MX9_commonDivisor 9 [some (vJ a0), none, some (vJ a2), none, some (vJ a0), none, some (vJ a2), none, some (vI 0), none, none] [] S F G Q
theorem R_X9_commonDivisor_0 {d : Nat} {S : AS} {F : AF} {G : AG} {Q : AQ} {a0 : Int} {a2 : Int} (hsh : ShC S) (h : V_X9_commonDivisor_0 d S F G Q a0 a2) : Go d MX9_commonDivisor 0 [some (vJ a0), none, some (vJ a2), none, none, none, none, none, none, none, none] [] S F G Q := by
  unfold V_X9_commonDivisor_0 at h
  refine go_lload_n (show decode cX9_commonDivisor 0 = .ok (.lload_n 0, 1) by decide +kernel) (by rfl) ?_
  refine go_lstore (show decode cX9_commonDivisor 1 = .ok (.lstore 4, 2) by decide +kernel) (by decide) ?_
  show Go d MX9_commonDivisor 3 [some (vJ a0), none, some (vJ a2), none, some (vJ a0), none, none, none, none, none, none] [] S F G Q
  refine go_lload_n (show decode cX9_commonDivisor 3 = .ok (.lload_n 2, 1) by decide +kernel) (by rfl) ?_
  refine go_lstore (show decode cX9_commonDivisor 4 = .ok (.lstore 6, 2) by decide +kernel) (by decide) ?_
  show Go d MX9_commonDivisor 6 [some (vJ a0), none, some (vJ a2), none, some (vJ a0), none, some (vJ a2), none, none, none, none] [] S F G Q
  refine go_iconst (show decode cX9_commonDivisor 6 = .ok (.iconst 0, 1) by decide +kernel) (by decide) ?_
  refine go_istore (show decode cX9_commonDivisor 7 = .ok (.istore 8, 2) by decide +kernel) (by decide) ?_
  show Go d MX9_commonDivisor 9 [some (vJ a0), none, some (vJ a2), none, some (vJ a0), none, some (vJ a2), none, some (vI 0), none, none] [] S F G Q
  exact h
def V_X9_atLeast_0 (d : Nat) (S : AS) (F : AF) (G : AG) (Q : AQ) (a1 : Int) (a2 : Int) (a3 : Int) (a4 : Int) (a5 : Int) (a6 : Int) : Prop :=
  (1 ≤ d) ∧
  ∃ z6 : Int, Pu (d - 1) MX9_isGoodOrAll [vI a1] S F G (some (vI z6)) ∧
  ((z6 = 0) →
    Q (some (vJ (-2))) S F G) ∧
  ((¬ z6 = 0) →
    Ok (d - 1) MX9_ask [vR 1, vI a2, vI a3, vI a4, vI a5] S F G (fun w8 S9 F10 G11 =>
    S9 = S ∧
    ∃ z12 : Int, w8 = some (vI z12) ∧
    ((¬ z12 = 0) →
      ((0 ≤ a6) →
        ∃ z17 : Int, Pu (d - 1) MX2_cellsFrom [vR 2, vI a1, vR 51, vJ a6] S F10 G11 (some (vJ z17)) ∧
        Q (some (vJ z17)) S F10 G11) ∧
      ((¬ 0 ≤ a6) →
        Q (some (vJ (-3))) S F10 G11)) ∧
    ((z12 = 0) →
      Q (some (vJ (-2))) S F10 G11)))
theorem R_X9_atLeast_0 {d : Nat} {S : AS} {F : AF} {G : AG} {Q : AQ} {a1 : Int} {a2 : Int} {a3 : Int} {a4 : Int} {a5 : Int} {a6 : Int} (hsh : ShC S) (h : V_X9_atLeast_0 d S F G Q a1 a2 a3 a4 a5 a6) : Go d MX9_atLeast 0 [some (vR 1), some (vI a1), some (vI a2), some (vI a3), some (vI a4), some (vI a5), some (vJ a6), none] [] S F G Q := by
  unfold V_X9_atLeast_0 at h
  refine go_iload_n (show decode cX9_atLeast 0 = .ok (.iload_n 1, 1) by decide +kernel) (by rfl) ?_
  obtain ⟨q1, h⟩ := h
  obtain ⟨z6, p7, h⟩ := h
  refine go_callS (d2 := d - 1) (M2 := MX9_isGoodOrAll) (n := 1) (av := [vI a1]) (st := []) (show decode cX9_atLeast 1 = .ok (.invokestatic 262, 3) by decide +kernel) ml_X9_262 mt_X9_isGoodOrAll mst_X9_isGoodOrAll rfl (Nat.le_of_ble_eq_true rfl) (by omega) (ok_mono p7 (fun w2 S3 F4 G5 e9 => ?_))
  obtain ⟨e1, e2, e3, e4⟩ := e9
  subst e1
  replace e2 := e2.symm; subst e2
  replace e3 := e3.symm; subst e3
  replace e4 := e4.symm; subst e4
  show Go d MX9_atLeast 4 [some (vR 1), some (vI a1), some (vI a2), some (vI a3), some (vI a4), some (vI a5), some (vJ a6), none] [vI z6] S F G Q
  obtain ⟨ht, hf⟩ := h
  refine go_ifeq (tgt := 20) (show decode cX9_atLeast 4 = .ok (.ifCond .eq 16, 3) by decide +kernel) (by decide) (fun hc => ?_) (fun hc => ?_)
  · have h := ht hc
    refine go_ldc2 (show decode cX9_atLeast 20 = .ok (.ldc2_w 72, 3) by decide +kernel) lc_X9_72 (by decide) ?_
    exact go_lret (show decode cX9_atLeast 23 = .ok (.lreturn, 1) by decide +kernel) rfl h
  · have h := hf hc
    refine go_aload_n (show decode cX9_atLeast 7 = .ok (.aload_n 0, 1) by decide +kernel) (by rfl) ?_
    refine go_iload_n (show decode cX9_atLeast 8 = .ok (.iload_n 2, 1) by decide +kernel) (by rfl) ?_
    refine go_iload_n (show decode cX9_atLeast 9 = .ok (.iload_n 3, 1) by decide +kernel) (by rfl) ?_
    refine go_iload (show decode cX9_atLeast 10 = .ok (.iload 4, 2) by decide +kernel) (by rfl) ?_
    refine go_iload (show decode cX9_atLeast 12 = .ok (.iload 5, 2) by decide +kernel) (by rfl) ?_
    refine go_callV (d2 := d - 1) (M2 := MX9_ask) (n := 4) (ci := 9) (av := [vI a2, vI a3, vI a4, vI a5]) (st := []) (show decode cX9_atLeast 14 = .ok (.invokevirtual 68, 3) by decide +kernel) ml_X9_68 mt_X9_ask min_X9_ask mse_X9_ask (by decide) (shc_k hsh 1 (by decide) (by decide)) rfl (Nat.le_of_ble_eq_true rfl) (by omega) (ok_mono h (fun w8 S9 F10 G11 h => ?_))
    obtain ⟨e8, h⟩ := h
    replace e8 := e8.symm; subst e8
    obtain ⟨z12, e9, h⟩ := h
    subst e9
    show Go d MX9_atLeast 17 [some (vR 1), some (vI a1), some (vI a2), some (vI a3), some (vI a4), some (vI a5), some (vJ a6), none] [vI z12] S F10 G11 Q
    obtain ⟨ht, hf⟩ := h
    refine go_ifne (tgt := 24) (show decode cX9_atLeast 17 = .ok (.ifCond .ne 7, 3) by decide +kernel) (by decide) (fun hc => ?_) (fun hc => ?_)
    · have h := ht hc
      refine go_lload (show decode cX9_atLeast 24 = .ok (.lload 6, 2) by decide +kernel) (by rfl) ?_
      refine go_lconst (n := 0) (show decode cX9_atLeast 26 = .ok (.lconst 0, 1) by decide +kernel) ?_
      show Go d MX9_atLeast 27 [some (vR 1), some (vI a1), some (vI a2), some (vI a3), some (vI a4), some (vI a5), some (vJ a6), none] [vJ 0, vJ a6] S F10 G11 Q
      obtain ⟨ht, hf⟩ := h
      refine go_jge (tgt := 35) (show decode cX9_atLeast 27 = .ok (.lcmp, 1) by decide +kernel) (show decode cX9_atLeast 28 = .ok (.ifCond .ge 7, 3) by decide +kernel) (by decide) (fun hc => ?_) (fun hc => ?_)
      · have h := ht hc
        refine go_aload_n (show decode cX9_atLeast 35 = .ok (.aload_n 0, 1) by decide +kernel) (by rfl) ?_
        refine go_getRc (show decode cX9_atLeast 36 = .ok (.getfield 20, 3) by decide +kernel) fl_X9_20 rfl (shc_k hsh 1 (by decide) (by decide)) (v := 2) (shc_r hsh 1 1 (by decide) (by decide) (by decide)) ?_
        refine go_iload_n (show decode cX9_atLeast 39 = .ok (.iload_n 1, 1) by decide +kernel) (by rfl) ?_
        refine go_aload_n (show decode cX9_atLeast 40 = .ok (.aload_n 0, 1) by decide +kernel) (by rfl) ?_
        refine go_getRc (show decode cX9_atLeast 41 = .ok (.getfield 38, 3) by decide +kernel) fl_X9_38 rfl (shc_k hsh 1 (by decide) (by decide)) (v := 51) (shc_r hsh 1 4 (by decide) (by decide) (by decide)) ?_
        refine go_lload (show decode cX9_atLeast 44 = .ok (.lload 6, 2) by decide +kernel) (by rfl) ?_
        obtain ⟨z17, p18, h⟩ := h
        refine go_callV (d2 := d - 1) (M2 := MX2_cellsFrom) (n := 3) (ci := 2) (av := [vI a1, vR 51, vJ a6]) (st := []) (show decode cX9_atLeast 46 = .ok (.invokevirtual 271, 3) by decide +kernel) ml_X9_271 mt_X2_cellsFrom min_X2_cellsFrom mse_X2_cellsFrom (by decide) (shc_k hsh 2 (by decide) (by decide)) rfl (Nat.le_of_ble_eq_true rfl) (by omega) (ok_mono p18 (fun w13 S14 F15 G16 e9 => ?_))
        obtain ⟨e1, e2, e3, e4⟩ := e9
        subst e1
        replace e2 := e2.symm; subst e2
        replace e3 := e3.symm; subst e3
        replace e4 := e4.symm; subst e4
        show Go d MX9_atLeast 49 [some (vR 1), some (vI a1), some (vI a2), some (vI a3), some (vI a4), some (vI a5), some (vJ a6), none] [vJ z17] S F10 G11 Q
        exact go_lret (show decode cX9_atLeast 49 = .ok (.lreturn, 1) by decide +kernel) rfl h
      · have h := hf hc
        refine go_ldc2 (show decode cX9_atLeast 31 = .ok (.ldc2_w 53, 3) by decide +kernel) lc_X9_53 (by decide) ?_
        exact go_lret (show decode cX9_atLeast 34 = .ok (.lreturn, 1) by decide +kernel) rfl h
    · have h := hf hc
      refine go_ldc2 (show decode cX9_atLeast 20 = .ok (.ldc2_w 72, 3) by decide +kernel) lc_X9_72 (by decide) ?_
      exact go_lret (show decode cX9_atLeast 23 = .ok (.lreturn, 1) by decide +kernel) rfl h
def V_X9_value_0 (d : Nat) (S : AS) (F : AF) (G : AG) (Q : AQ) (a1 : Int) (a2 : Int) (a3 : Int) (a4 : Int) (a5 : Int) (a6 : Int) : Prop :=
  (1 ≤ d) ∧
  ∃ z6 : Int, Pu (d - 1) MX9_isGoodOrAll [vI a1] S F G (some (vI z6)) ∧
  ((z6 = 0) →
    Q (some (vJ (-2))) S F G) ∧
  ((¬ z6 = 0) →
    Ok (d - 1) MX9_ask [vR 1, vI a2, vI a3, vI a4, vI a5] S F G (fun w8 S9 F10 G11 =>
    S9 = S ∧
    ∃ z12 : Int, w8 = some (vI z12) ∧
    ((¬ z12 = 0) →
      ((1 ≤ a6) →
        ∃ z17 : Int, Pu (d - 1) MX3_cells [vR 51] S F10 G11 (some (vJ z17)) ∧
        ((a6 ≤ z17) →
          ∃ z23 : Int, Pu (d - 1) MX2_valueOfRank [vR 2, vI a1, vR 51, vJ a6] S F10 G11 (some (vJ z23)) ∧
          Q (some (vJ z23)) S F10 G11) ∧
        ((¬ a6 ≤ z17) →
          Q (some (vJ (-1))) S F10 G11)) ∧
      ((¬ 1 ≤ a6) →
        Q (some (vJ (-3))) S F10 G11)) ∧
    ((z12 = 0) →
      Q (some (vJ (-2))) S F10 G11)))
theorem R_X9_value_0 {d : Nat} {S : AS} {F : AF} {G : AG} {Q : AQ} {a1 : Int} {a2 : Int} {a3 : Int} {a4 : Int} {a5 : Int} {a6 : Int} (hsh : ShC S) (h : V_X9_value_0 d S F G Q a1 a2 a3 a4 a5 a6) : Go d MX9_value 0 [some (vR 1), some (vI a1), some (vI a2), some (vI a3), some (vI a4), some (vI a5), some (vJ a6), none] [] S F G Q := by
  unfold V_X9_value_0 at h
  refine go_iload_n (show decode cX9_value 0 = .ok (.iload_n 1, 1) by decide +kernel) (by rfl) ?_
  obtain ⟨q1, h⟩ := h
  obtain ⟨z6, p7, h⟩ := h
  refine go_callS (d2 := d - 1) (M2 := MX9_isGoodOrAll) (n := 1) (av := [vI a1]) (st := []) (show decode cX9_value 1 = .ok (.invokestatic 262, 3) by decide +kernel) ml_X9_262 mt_X9_isGoodOrAll mst_X9_isGoodOrAll rfl (Nat.le_of_ble_eq_true rfl) (by omega) (ok_mono p7 (fun w2 S3 F4 G5 e9 => ?_))
  obtain ⟨e1, e2, e3, e4⟩ := e9
  subst e1
  replace e2 := e2.symm; subst e2
  replace e3 := e3.symm; subst e3
  replace e4 := e4.symm; subst e4
  show Go d MX9_value 4 [some (vR 1), some (vI a1), some (vI a2), some (vI a3), some (vI a4), some (vI a5), some (vJ a6), none] [vI z6] S F G Q
  obtain ⟨ht, hf⟩ := h
  refine go_ifeq (tgt := 20) (show decode cX9_value 4 = .ok (.ifCond .eq 16, 3) by decide +kernel) (by decide) (fun hc => ?_) (fun hc => ?_)
  · have h := ht hc
    refine go_ldc2 (show decode cX9_value 20 = .ok (.ldc2_w 72, 3) by decide +kernel) lc_X9_72 (by decide) ?_
    exact go_lret (show decode cX9_value 23 = .ok (.lreturn, 1) by decide +kernel) rfl h
  · have h := hf hc
    refine go_aload_n (show decode cX9_value 7 = .ok (.aload_n 0, 1) by decide +kernel) (by rfl) ?_
    refine go_iload_n (show decode cX9_value 8 = .ok (.iload_n 2, 1) by decide +kernel) (by rfl) ?_
    refine go_iload_n (show decode cX9_value 9 = .ok (.iload_n 3, 1) by decide +kernel) (by rfl) ?_
    refine go_iload (show decode cX9_value 10 = .ok (.iload 4, 2) by decide +kernel) (by rfl) ?_
    refine go_iload (show decode cX9_value 12 = .ok (.iload 5, 2) by decide +kernel) (by rfl) ?_
    refine go_callV (d2 := d - 1) (M2 := MX9_ask) (n := 4) (ci := 9) (av := [vI a2, vI a3, vI a4, vI a5]) (st := []) (show decode cX9_value 14 = .ok (.invokevirtual 68, 3) by decide +kernel) ml_X9_68 mt_X9_ask min_X9_ask mse_X9_ask (by decide) (shc_k hsh 1 (by decide) (by decide)) rfl (Nat.le_of_ble_eq_true rfl) (by omega) (ok_mono h (fun w8 S9 F10 G11 h => ?_))
    obtain ⟨e8, h⟩ := h
    replace e8 := e8.symm; subst e8
    obtain ⟨z12, e9, h⟩ := h
    subst e9
    show Go d MX9_value 17 [some (vR 1), some (vI a1), some (vI a2), some (vI a3), some (vI a4), some (vI a5), some (vJ a6), none] [vI z12] S F10 G11 Q
    obtain ⟨ht, hf⟩ := h
    refine go_ifne (tgt := 24) (show decode cX9_value 17 = .ok (.ifCond .ne 7, 3) by decide +kernel) (by decide) (fun hc => ?_) (fun hc => ?_)
    · have h := ht hc
      refine go_lload (show decode cX9_value 24 = .ok (.lload 6, 2) by decide +kernel) (by rfl) ?_
      refine go_lconst (n := 1) (show decode cX9_value 26 = .ok (.lconst 1, 1) by decide +kernel) ?_
      show Go d MX9_value 27 [some (vR 1), some (vI a1), some (vI a2), some (vI a3), some (vI a4), some (vI a5), some (vJ a6), none] [vJ 1, vJ a6] S F10 G11 Q
      obtain ⟨ht, hf⟩ := h
      refine go_jge (tgt := 35) (show decode cX9_value 27 = .ok (.lcmp, 1) by decide +kernel) (show decode cX9_value 28 = .ok (.ifCond .ge 7, 3) by decide +kernel) (by decide) (fun hc => ?_) (fun hc => ?_)
      · have h := ht hc
        refine go_lload (show decode cX9_value 35 = .ok (.lload 6, 2) by decide +kernel) (by rfl) ?_
        refine go_aload_n (show decode cX9_value 37 = .ok (.aload_n 0, 1) by decide +kernel) (by rfl) ?_
        refine go_getRc (show decode cX9_value 38 = .ok (.getfield 38, 3) by decide +kernel) fl_X9_38 rfl (shc_k hsh 1 (by decide) (by decide)) (v := 51) (shc_r hsh 1 4 (by decide) (by decide) (by decide)) ?_
        obtain ⟨z17, p18, h⟩ := h
        refine go_callV (d2 := d - 1) (M2 := MX3_cells) (n := 0) (ci := 3) (av := []) (st := [vJ a6]) (show decode cX9_value 41 = .ok (.invokevirtual 60, 3) by decide +kernel) ml_X9_60 mt_X3_cells min_X3_cells mse_X3_cells (by decide) (shc_k hsh 51 (by decide) (by decide)) rfl (Nat.le_of_ble_eq_true rfl) (by omega) (ok_mono p18 (fun w13 S14 F15 G16 e9 => ?_))
        obtain ⟨e1, e2, e3, e4⟩ := e9
        subst e1
        replace e2 := e2.symm; subst e2
        replace e3 := e3.symm; subst e3
        replace e4 := e4.symm; subst e4
        show Go d MX9_value 44 [some (vR 1), some (vI a1), some (vI a2), some (vI a3), some (vI a4), some (vI a5), some (vJ a6), none] [vJ z17, vJ a6] S F10 G11 Q
        obtain ⟨ht, hf⟩ := h
        refine go_jle (tgt := 52) (show decode cX9_value 44 = .ok (.lcmp, 1) by decide +kernel) (show decode cX9_value 45 = .ok (.ifCond .le 7, 3) by decide +kernel) (by decide) (fun hc => ?_) (fun hc => ?_)
        · have h := ht hc
          refine go_aload_n (show decode cX9_value 52 = .ok (.aload_n 0, 1) by decide +kernel) (by rfl) ?_
          refine go_getRc (show decode cX9_value 53 = .ok (.getfield 20, 3) by decide +kernel) fl_X9_20 rfl (shc_k hsh 1 (by decide) (by decide)) (v := 2) (shc_r hsh 1 1 (by decide) (by decide) (by decide)) ?_
          refine go_iload_n (show decode cX9_value 56 = .ok (.iload_n 1, 1) by decide +kernel) (by rfl) ?_
          refine go_aload_n (show decode cX9_value 57 = .ok (.aload_n 0, 1) by decide +kernel) (by rfl) ?_
          refine go_getRc (show decode cX9_value 58 = .ok (.getfield 38, 3) by decide +kernel) fl_X9_38 rfl (shc_k hsh 1 (by decide) (by decide)) (v := 51) (shc_r hsh 1 4 (by decide) (by decide) (by decide)) ?_
          refine go_lload (show decode cX9_value 61 = .ok (.lload 6, 2) by decide +kernel) (by rfl) ?_
          obtain ⟨z23, p24, h⟩ := h
          refine go_callV (d2 := d - 1) (M2 := MX2_valueOfRank) (n := 3) (ci := 2) (av := [vI a1, vR 51, vJ a6]) (st := []) (show decode cX9_value 63 = .ok (.invokevirtual 278, 3) by decide +kernel) ml_X9_278 mt_X2_valueOfRank min_X2_valueOfRank mse_X2_valueOfRank (by decide) (shc_k hsh 2 (by decide) (by decide)) rfl (Nat.le_of_ble_eq_true rfl) (by omega) (ok_mono p24 (fun w19 S20 F21 G22 e9 => ?_))
          obtain ⟨e1, e2, e3, e4⟩ := e9
          subst e1
          replace e2 := e2.symm; subst e2
          replace e3 := e3.symm; subst e3
          replace e4 := e4.symm; subst e4
          show Go d MX9_value 66 [some (vR 1), some (vI a1), some (vI a2), some (vI a3), some (vI a4), some (vI a5), some (vJ a6), none] [vJ z23] S F10 G11 Q
          exact go_lret (show decode cX9_value 66 = .ok (.lreturn, 1) by decide +kernel) rfl h
        · have h := hf hc
          refine go_ldc2 (show decode cX9_value 48 = .ok (.ldc2_w 216, 3) by decide +kernel) lc_X9_216 (by decide) ?_
          exact go_lret (show decode cX9_value 51 = .ok (.lreturn, 1) by decide +kernel) rfl h
      · have h := hf hc
        refine go_ldc2 (show decode cX9_value 31 = .ok (.ldc2_w 53, 3) by decide +kernel) lc_X9_53 (by decide) ?_
        exact go_lret (show decode cX9_value 34 = .ok (.lreturn, 1) by decide +kernel) rfl h
    · have h := hf hc
      refine go_ldc2 (show decode cX9_value 20 = .ok (.ldc2_w 72, 3) by decide +kernel) lc_X9_72 (by decide) ?_
      exact go_lret (show decode cX9_value 23 = .ok (.lreturn, 1) by decide +kernel) rfl h
def V_X9_hole_0 (d : Nat) (S : AS) (F : AF) (G : AG) (Q : AQ) (a1 : Int) : Prop :=
  ((a1 < 0) →
    Q (some (vJ (-2))) S F G) ∧
  ((¬ a1 < 0) →
    ((a1 ≤ 4) →
      (1 ≤ d) ∧
      Ok (d - 1) MX7_findHole [vR 34] S F G (fun w2 S3 F4 G5 =>
      S3 = S ∧
      ∃ z6 : Int, w2 = some (vI z6) ∧
      ((¬ z6 = 0) →
        ((¬ a1 = 4) →
          ∃ z11 : Int, Pu (d - 1) MX3_side [vR 35, vI a1] S F4 G5 (some (vI z11)) ∧
          Q (some (vJ z11)) S F4 G5) ∧
        ((a1 = 4) →
          ∃ z17 : Int, Pu (d - 1) MX3_cells [vR 35] S F4 G5 (some (vJ z17)) ∧
          Q (some (vJ z17)) S F4 G5)) ∧
      ((z6 = 0) →
        Q (some (vJ (-1))) S F4 G5))) ∧
    ((¬ a1 ≤ 4) →
      Q (some (vJ (-2))) S F G))
theorem R_X9_hole_0 {d : Nat} {S : AS} {F : AF} {G : AG} {Q : AQ} {a1 : Int} (hsh : ShC S) (h : V_X9_hole_0 d S F G Q a1) : Go d MX9_hole 0 [some (vR 1), some (vI a1)] [] S F G Q := by
  unfold V_X9_hole_0 at h
  refine go_iload_n (show decode cX9_hole 0 = .ok (.iload_n 1, 1) by decide +kernel) (by rfl) ?_
  obtain ⟨ht, hf⟩ := h
  refine go_iflt (tgt := 9) (show decode cX9_hole 1 = .ok (.ifCond .lt 8, 3) by decide +kernel) (by decide) (fun hc => ?_) (fun hc => ?_)
  · have h := ht hc
    refine go_ldc2 (show decode cX9_hole 9 = .ok (.ldc2_w 72, 3) by decide +kernel) lc_X9_72 (by decide) ?_
    exact go_lret (show decode cX9_hole 12 = .ok (.lreturn, 1) by decide +kernel) rfl h
  · have h := hf hc
    refine go_iload_n (show decode cX9_hole 4 = .ok (.iload_n 1, 1) by decide +kernel) (by rfl) ?_
    refine go_iconst (show decode cX9_hole 5 = .ok (.iconst 4, 1) by decide +kernel) (by decide) ?_
    obtain ⟨ht, hf⟩ := h
    refine go_icmple (tgt := 13) (show decode cX9_hole 6 = .ok (.if_icmp .le 7, 3) by decide +kernel) (by decide) (fun hc => ?_) (fun hc => ?_)
    · have h := ht hc
      refine go_aload_n (show decode cX9_hole 13 = .ok (.aload_n 0, 1) by decide +kernel) (by rfl) ?_
      refine go_getRc (show decode cX9_hole 14 = .ok (.getfield 12, 3) by decide +kernel) fl_X9_12 rfl (shc_k hsh 1 (by decide) (by decide)) (v := 34) (shc_r hsh 1 0 (by decide) (by decide) (by decide)) ?_
      obtain ⟨q1, h⟩ := h
      refine go_callV (d2 := d - 1) (M2 := MX7_findHole) (n := 0) (ci := 7) (av := []) (st := []) (show decode cX9_hole 17 = .ok (.invokevirtual 281, 3) by decide +kernel) ml_X9_281 mt_X7_findHole min_X7_findHole mse_X7_findHole (by decide) (shc_k hsh 34 (by decide) (by decide)) rfl (Nat.le_of_ble_eq_true rfl) (by omega) (ok_mono h (fun w2 S3 F4 G5 h => ?_))
      obtain ⟨e8, h⟩ := h
      replace e8 := e8.symm; subst e8
      obtain ⟨z6, e9, h⟩ := h
      subst e9
      show Go d MX9_hole 20 [some (vR 1), some (vI a1)] [vI z6] S F4 G5 Q
      obtain ⟨ht, hf⟩ := h
      refine go_ifne (tgt := 27) (show decode cX9_hole 20 = .ok (.ifCond .ne 7, 3) by decide +kernel) (by decide) (fun hc => ?_) (fun hc => ?_)
      · have h := ht hc
        refine go_iload_n (show decode cX9_hole 27 = .ok (.iload_n 1, 1) by decide +kernel) (by rfl) ?_
        refine go_iconst (show decode cX9_hole 28 = .ok (.iconst 4, 1) by decide +kernel) (by decide) ?_
        obtain ⟨ht, hf⟩ := h
        refine go_icmpne (tgt := 45) (show decode cX9_hole 29 = .ok (.if_icmp .ne 16, 3) by decide +kernel) (by decide) (fun hc => ?_) (fun hc => ?_)
        · have h := ht hc
          refine go_aload_n (show decode cX9_hole 45 = .ok (.aload_n 0, 1) by decide +kernel) (by rfl) ?_
          refine go_getRc (show decode cX9_hole 46 = .ok (.getfield 12, 3) by decide +kernel) fl_X9_12 rfl (shc_k hsh 1 (by decide) (by decide)) (v := 34) (shc_r hsh 1 0 (by decide) (by decide) (by decide)) ?_
          refine go_getRc (show decode cX9_hole 49 = .ok (.getfield 284, 3) by decide +kernel) fl_X9_284 rfl (shc_k hsh 34 (by decide) (by decide)) (v := 35) (shc_r hsh 34 1 (by decide) (by decide) (by decide)) ?_
          refine go_iload_n (show decode cX9_hole 52 = .ok (.iload_n 1, 1) by decide +kernel) (by rfl) ?_
          obtain ⟨z11, p12, h⟩ := h
          refine go_callV (d2 := d - 1) (M2 := MX3_side) (n := 1) (ci := 3) (av := [vI a1]) (st := []) (show decode cX9_hole 53 = .ok (.invokevirtual 218, 3) by decide +kernel) ml_X9_218 mt_X3_side min_X3_side mse_X3_side (by decide) (shc_k hsh 35 (by decide) (by decide)) rfl (Nat.le_of_ble_eq_true rfl) (by omega) (ok_mono p12 (fun w7 S8 F9 G10 e9 => ?_))
          obtain ⟨e1, e2, e3, e4⟩ := e9
          subst e1
          replace e2 := e2.symm; subst e2
          replace e3 := e3.symm; subst e3
          replace e4 := e4.symm; subst e4
          show Go d MX9_hole 56 [some (vR 1), some (vI a1)] [vI z11] S F4 G5 Q
          refine go_i2l (show decode cX9_hole 56 = .ok (.i2l, 1) by decide +kernel) ?_
          exact go_lret (show decode cX9_hole 57 = .ok (.lreturn, 1) by decide +kernel) rfl h
        · have h := hf hc
          refine go_aload_n (show decode cX9_hole 32 = .ok (.aload_n 0, 1) by decide +kernel) (by rfl) ?_
          refine go_getRc (show decode cX9_hole 33 = .ok (.getfield 12, 3) by decide +kernel) fl_X9_12 rfl (shc_k hsh 1 (by decide) (by decide)) (v := 34) (shc_r hsh 1 0 (by decide) (by decide) (by decide)) ?_
          refine go_getRc (show decode cX9_hole 36 = .ok (.getfield 284, 3) by decide +kernel) fl_X9_284 rfl (shc_k hsh 34 (by decide) (by decide)) (v := 35) (shc_r hsh 34 1 (by decide) (by decide) (by decide)) ?_
          obtain ⟨z17, p18, h⟩ := h
          refine go_callV (d2 := d - 1) (M2 := MX3_cells) (n := 0) (ci := 3) (av := []) (st := []) (show decode cX9_hole 39 = .ok (.invokevirtual 60, 3) by decide +kernel) ml_X9_60 mt_X3_cells min_X3_cells mse_X3_cells (by decide) (shc_k hsh 35 (by decide) (by decide)) rfl (Nat.le_of_ble_eq_true rfl) (by omega) (ok_mono p18 (fun w13 S14 F15 G16 e9 => ?_))
          obtain ⟨e1, e2, e3, e4⟩ := e9
          subst e1
          replace e2 := e2.symm; subst e2
          replace e3 := e3.symm; subst e3
          replace e4 := e4.symm; subst e4
          show Go d MX9_hole 42 [some (vR 1), some (vI a1)] [vJ z17] S F4 G5 Q
          refine go_goto (tgt := 57) (show decode cX9_hole 42 = .ok (.goto 15, 3) by decide +kernel) (by decide) ?_
          exact go_lret (show decode cX9_hole 57 = .ok (.lreturn, 1) by decide +kernel) rfl h
      · have h := hf hc
        refine go_ldc2 (show decode cX9_hole 23 = .ok (.ldc2_w 216, 3) by decide +kernel) lc_X9_216 (by decide) ?_
        exact go_lret (show decode cX9_hole 26 = .ok (.lreturn, 1) by decide +kernel) rfl h
    · have h := hf hc
      refine go_ldc2 (show decode cX9_hole 9 = .ok (.ldc2_w 72, 3) by decide +kernel) lc_X9_72 (by decide) ?_
      exact go_lret (show decode cX9_hole 12 = .ok (.lreturn, 1) by decide +kernel) rfl h
def V_X9_before_0 (d : Nat) (S : AS) (F : AF) (G : AG) (Q : AQ) (a1 : Int) (a2 : Int) (a3 : Int) (a4 : Int) (a5 : Int) (a6 : Int) : Prop :=
  (1 ≤ d) ∧
  ∃ z6 : Nat, Pu (d - 1) MX2_savedAt [vR 2, vI a1] S F G (some (vR z6)) ∧
  ((z6 = 0) →
    Q (some (vJ (-2))) S F G) ∧
  ((¬ z6 = 0) →
    ∃ z12 : Int, Pu (d - 1) MX9_isGood [vI a2] S F G (some (vI z12)) ∧
    ((z12 = 0) →
      Q (some (vJ (-2))) S F G) ∧
    ((¬ z12 = 0) →
      Ok (d - 1) MX9_ask [vR 1, vI a3, vI a4, vI a5, vI a6] S F G (fun w14 S15 F16 G17 =>
      S15 = S ∧
      ∃ z18 : Int, w14 = some (vI z18) ∧
      ((¬ z18 = 0) →
        ∃ z23 : Int, Pu (d - 1) MX2_sumWhenSaved [vR 2, vR z6, vI a2, vR 51] S F16 G17 (some (vJ z23)) ∧
        Q (some (vJ z23)) S F16 G17) ∧
      ((z18 = 0) →
        Q (some (vJ (-2))) S F16 G17))))
theorem R_X9_before_0 {d : Nat} {S : AS} {F : AF} {G : AG} {Q : AQ} {a1 : Int} {a2 : Int} {a3 : Int} {a4 : Int} {a5 : Int} {a6 : Int} (hsh : ShC S) (h : V_X9_before_0 d S F G Q a1 a2 a3 a4 a5 a6) : Go d MX9_before 0 [some (vR 1), some (vI a1), some (vI a2), some (vI a3), some (vI a4), some (vI a5), some (vI a6), none] [] S F G Q := by
  unfold V_X9_before_0 at h
  refine go_aload_n (show decode cX9_before 0 = .ok (.aload_n 0, 1) by decide +kernel) (by rfl) ?_
  refine go_getRc (show decode cX9_before 1 = .ok (.getfield 20, 3) by decide +kernel) fl_X9_20 rfl (shc_k hsh 1 (by decide) (by decide)) (v := 2) (shc_r hsh 1 1 (by decide) (by decide) (by decide)) ?_
  refine go_iload_n (show decode cX9_before 4 = .ok (.iload_n 1, 1) by decide +kernel) (by rfl) ?_
  obtain ⟨q1, h⟩ := h
  obtain ⟨z6, p7, h⟩ := h
  refine go_callV (d2 := d - 1) (M2 := MX2_savedAt) (n := 1) (ci := 2) (av := [vI a1]) (st := []) (show decode cX9_before 5 = .ok (.invokevirtual 287, 3) by decide +kernel) ml_X9_287 mt_X2_savedAt min_X2_savedAt mse_X2_savedAt (by decide) (shc_k hsh 2 (by decide) (by decide)) rfl (Nat.le_of_ble_eq_true rfl) (by omega) (ok_mono p7 (fun w2 S3 F4 G5 e9 => ?_))
  obtain ⟨e1, e2, e3, e4⟩ := e9
  subst e1
  replace e2 := e2.symm; subst e2
  replace e3 := e3.symm; subst e3
  replace e4 := e4.symm; subst e4
  show Go d MX9_before 8 [some (vR 1), some (vI a1), some (vI a2), some (vI a3), some (vI a4), some (vI a5), some (vI a6), none] [vR z6] S F G Q
  refine go_astore (show decode cX9_before 8 = .ok (.astore 7, 2) by decide +kernel) (by decide) ?_
  show Go d MX9_before 10 [some (vR 1), some (vI a1), some (vI a2), some (vI a3), some (vI a4), some (vI a5), some (vI a6), some (vR z6)] [] S F G Q
  refine go_aload (show decode cX9_before 10 = .ok (.aload 7, 2) by decide +kernel) (by rfl) ?_
  obtain ⟨ht, hf⟩ := h
  refine go_ifnull (tgt := 36) (show decode cX9_before 12 = .ok (.ifnull 24, 3) by decide +kernel) (by decide) (fun hc => ?_) (fun hc => ?_)
  · have h := ht hc
    refine go_ldc2 (show decode cX9_before 36 = .ok (.ldc2_w 72, 3) by decide +kernel) lc_X9_72 (by decide) ?_
    exact go_lret (show decode cX9_before 39 = .ok (.lreturn, 1) by decide +kernel) rfl h
  · have h := hf hc
    refine go_iload_n (show decode cX9_before 15 = .ok (.iload_n 2, 1) by decide +kernel) (by rfl) ?_
    obtain ⟨z12, p13, h⟩ := h
    refine go_callS (d2 := d - 1) (M2 := MX9_isGood) (n := 1) (av := [vI a2]) (st := []) (show decode cX9_before 16 = .ok (.invokestatic 64, 3) by decide +kernel) ml_X9_64 mt_X9_isGood mst_X9_isGood rfl (Nat.le_of_ble_eq_true rfl) (by omega) (ok_mono p13 (fun w8 S9 F10 G11 e9 => ?_))
    obtain ⟨e1, e2, e3, e4⟩ := e9
    subst e1
    replace e2 := e2.symm; subst e2
    replace e3 := e3.symm; subst e3
    replace e4 := e4.symm; subst e4
    show Go d MX9_before 19 [some (vR 1), some (vI a1), some (vI a2), some (vI a3), some (vI a4), some (vI a5), some (vI a6), some (vR z6)] [vI z12] S F G Q
    obtain ⟨ht, hf⟩ := h
    refine go_ifeq (tgt := 36) (show decode cX9_before 19 = .ok (.ifCond .eq 17, 3) by decide +kernel) (by decide) (fun hc => ?_) (fun hc => ?_)
    · have h := ht hc
      refine go_ldc2 (show decode cX9_before 36 = .ok (.ldc2_w 72, 3) by decide +kernel) lc_X9_72 (by decide) ?_
      exact go_lret (show decode cX9_before 39 = .ok (.lreturn, 1) by decide +kernel) rfl h
    · have h := hf hc
      refine go_aload_n (show decode cX9_before 22 = .ok (.aload_n 0, 1) by decide +kernel) (by rfl) ?_
      refine go_iload_n (show decode cX9_before 23 = .ok (.iload_n 3, 1) by decide +kernel) (by rfl) ?_
      refine go_iload (show decode cX9_before 24 = .ok (.iload 4, 2) by decide +kernel) (by rfl) ?_
      refine go_iload (show decode cX9_before 26 = .ok (.iload 5, 2) by decide +kernel) (by rfl) ?_
      refine go_iload (show decode cX9_before 28 = .ok (.iload 6, 2) by decide +kernel) (by rfl) ?_
      refine go_callV (d2 := d - 1) (M2 := MX9_ask) (n := 4) (ci := 9) (av := [vI a3, vI a4, vI a5, vI a6]) (st := []) (show decode cX9_before 30 = .ok (.invokevirtual 68, 3) by decide +kernel) ml_X9_68 mt_X9_ask min_X9_ask mse_X9_ask (by decide) (shc_k hsh 1 (by decide) (by decide)) rfl (Nat.le_of_ble_eq_true rfl) (by omega) (ok_mono h (fun w14 S15 F16 G17 h => ?_))
      obtain ⟨e8, h⟩ := h
      replace e8 := e8.symm; subst e8
      obtain ⟨z18, e9, h⟩ := h
      subst e9
      show Go d MX9_before 33 [some (vR 1), some (vI a1), some (vI a2), some (vI a3), some (vI a4), some (vI a5), some (vI a6), some (vR z6)] [vI z18] S F16 G17 Q
      obtain ⟨ht, hf⟩ := h
      refine go_ifne (tgt := 40) (show decode cX9_before 33 = .ok (.ifCond .ne 7, 3) by decide +kernel) (by decide) (fun hc => ?_) (fun hc => ?_)
      · have h := ht hc
        refine go_aload_n (show decode cX9_before 40 = .ok (.aload_n 0, 1) by decide +kernel) (by rfl) ?_
        refine go_getRc (show decode cX9_before 41 = .ok (.getfield 20, 3) by decide +kernel) fl_X9_20 rfl (shc_k hsh 1 (by decide) (by decide)) (v := 2) (shc_r hsh 1 1 (by decide) (by decide) (by decide)) ?_
        refine go_aload (show decode cX9_before 44 = .ok (.aload 7, 2) by decide +kernel) (by rfl) ?_
        refine go_iload_n (show decode cX9_before 46 = .ok (.iload_n 2, 1) by decide +kernel) (by rfl) ?_
        refine go_aload_n (show decode cX9_before 47 = .ok (.aload_n 0, 1) by decide +kernel) (by rfl) ?_
        refine go_getRc (show decode cX9_before 48 = .ok (.getfield 38, 3) by decide +kernel) fl_X9_38 rfl (shc_k hsh 1 (by decide) (by decide)) (v := 51) (shc_r hsh 1 4 (by decide) (by decide) (by decide)) ?_
        obtain ⟨z23, p24, h⟩ := h
        refine go_callV (d2 := d - 1) (M2 := MX2_sumWhenSaved) (n := 3) (ci := 2) (av := [vR z6, vI a2, vR 51]) (st := []) (show decode cX9_before 51 = .ok (.invokevirtual 291, 3) by decide +kernel) ml_X9_291 mt_X2_sumWhenSaved min_X2_sumWhenSaved mse_X2_sumWhenSaved (by decide) (shc_k hsh 2 (by decide) (by decide)) rfl (Nat.le_of_ble_eq_true rfl) (by omega) (ok_mono p24 (fun w19 S20 F21 G22 e9 => ?_))
        obtain ⟨e1, e2, e3, e4⟩ := e9
        subst e1
        replace e2 := e2.symm; subst e2
        replace e3 := e3.symm; subst e3
        replace e4 := e4.symm; subst e4
        show Go d MX9_before 54 [some (vR 1), some (vI a1), some (vI a2), some (vI a3), some (vI a4), some (vI a5), some (vI a6), some (vR z6)] [vJ z23] S F16 G17 Q
        exact go_lret (show decode cX9_before 54 = .ok (.lreturn, 1) by decide +kernel) rfl h
      · have h := hf hc
        refine go_ldc2 (show decode cX9_before 36 = .ok (.ldc2_w 72, 3) by decide +kernel) lc_X9_72 (by decide) ?_
        exact go_lret (show decode cX9_before 39 = .ok (.lreturn, 1) by decide +kernel) rfl h
def V_X9_find_0 (d : Nat) (S : AS) (F : AF) (G : AG) (Q : AQ) (a1 : Int) (a2 : Int) (a3 : Int) : Prop :=
  (1 ≤ d) ∧
  ∃ z6 : Int, Pu (d - 1) MX9_isGood [vI a1] S F G (some (vI z6)) ∧
  ((z6 = 0) →
    Q (some (vJ (-2))) S F G) ∧
  ((¬ z6 = 0) →
    ∃ z12 : Int, Pu (d - 1) MX9_isAxis [vI a2] S F G (some (vI z12)) ∧
    ((¬ z12 = 0) →
      Ok (d - 1) MX9_numberOfUnit [vR 1, vI a1, vI a2, vR 17, vJ a3] S F G (fun w14 S15 F16 G17 =>
      S15 = S ∧
      ∃ z18 : Int, w14 = some (vJ z18) ∧
      Q (some (vJ z18)) S F16 G17)) ∧
    ((z12 = 0) →
      Q (some (vJ (-2))) S F G))
theorem R_X9_find_0 {d : Nat} {S : AS} {F : AF} {G : AG} {Q : AQ} {a1 : Int} {a2 : Int} {a3 : Int} (hsh : ShC S) (h : V_X9_find_0 d S F G Q a1 a2 a3) : Go d MX9_find 0 [some (vR 1), some (vI a1), some (vI a2), some (vJ a3), none] [] S F G Q := by
  unfold V_X9_find_0 at h
  refine go_iload_n (show decode cX9_find 0 = .ok (.iload_n 1, 1) by decide +kernel) (by rfl) ?_
  obtain ⟨q1, h⟩ := h
  obtain ⟨z6, p7, h⟩ := h
  refine go_callS (d2 := d - 1) (M2 := MX9_isGood) (n := 1) (av := [vI a1]) (st := []) (show decode cX9_find 1 = .ok (.invokestatic 64, 3) by decide +kernel) ml_X9_64 mt_X9_isGood mst_X9_isGood rfl (Nat.le_of_ble_eq_true rfl) (by omega) (ok_mono p7 (fun w2 S3 F4 G5 e9 => ?_))
  obtain ⟨e1, e2, e3, e4⟩ := e9
  subst e1
  replace e2 := e2.symm; subst e2
  replace e3 := e3.symm; subst e3
  replace e4 := e4.symm; subst e4
  show Go d MX9_find 4 [some (vR 1), some (vI a1), some (vI a2), some (vJ a3), none] [vI z6] S F G Q
  obtain ⟨ht, hf⟩ := h
  refine go_ifeq (tgt := 14) (show decode cX9_find 4 = .ok (.ifCond .eq 10, 3) by decide +kernel) (by decide) (fun hc => ?_) (fun hc => ?_)
  · have h := ht hc
    refine go_ldc2 (show decode cX9_find 14 = .ok (.ldc2_w 72, 3) by decide +kernel) lc_X9_72 (by decide) ?_
    exact go_lret (show decode cX9_find 17 = .ok (.lreturn, 1) by decide +kernel) rfl h
  · have h := hf hc
    refine go_iload_n (show decode cX9_find 7 = .ok (.iload_n 2, 1) by decide +kernel) (by rfl) ?_
    obtain ⟨z12, p13, h⟩ := h
    refine go_callS (d2 := d - 1) (M2 := MX9_isAxis) (n := 1) (av := [vI a2]) (st := []) (show decode cX9_find 8 = .ok (.invokestatic 295, 3) by decide +kernel) ml_X9_295 mt_X9_isAxis mst_X9_isAxis rfl (Nat.le_of_ble_eq_true rfl) (by omega) (ok_mono p13 (fun w8 S9 F10 G11 e9 => ?_))
    obtain ⟨e1, e2, e3, e4⟩ := e9
    subst e1
    replace e2 := e2.symm; subst e2
    replace e3 := e3.symm; subst e3
    replace e4 := e4.symm; subst e4
    show Go d MX9_find 11 [some (vR 1), some (vI a1), some (vI a2), some (vJ a3), none] [vI z12] S F G Q
    obtain ⟨ht, hf⟩ := h
    refine go_ifne (tgt := 18) (show decode cX9_find 11 = .ok (.ifCond .ne 7, 3) by decide +kernel) (by decide) (fun hc => ?_) (fun hc => ?_)
    · have h := ht hc
      refine go_aload_n (show decode cX9_find 18 = .ok (.aload_n 0, 1) by decide +kernel) (by rfl) ?_
      refine go_iload_n (show decode cX9_find 19 = .ok (.iload_n 1, 1) by decide +kernel) (by rfl) ?_
      refine go_iload_n (show decode cX9_find 20 = .ok (.iload_n 2, 1) by decide +kernel) (by rfl) ?_
      refine go_aload_n (show decode cX9_find 21 = .ok (.aload_n 0, 1) by decide +kernel) (by rfl) ?_
      refine go_getRc (show decode cX9_find 22 = .ok (.getfield 20, 3) by decide +kernel) fl_X9_20 rfl (shc_k hsh 1 (by decide) (by decide)) (v := 2) (shc_r hsh 1 1 (by decide) (by decide) (by decide)) ?_
      refine go_getRc (show decode cX9_find 25 = .ok (.getfield 57, 3) by decide +kernel) fl_X9_57 rfl (shc_k hsh 2 (by decide) (by decide)) (v := 17) (shc_r hsh 2 2 (by decide) (by decide) (by decide)) ?_
      refine go_lload_n (show decode cX9_find 28 = .ok (.lload_n 3, 1) by decide +kernel) (by rfl) ?_
      refine go_callV (d2 := d - 1) (M2 := MX9_numberOfUnit) (n := 4) (ci := 9) (av := [vI a1, vI a2, vR 17, vJ a3]) (st := []) (show decode cX9_find 29 = .ok (.invokevirtual 298, 3) by decide +kernel) ml_X9_298 mt_X9_numberOfUnit min_X9_numberOfUnit mse_X9_numberOfUnit (by decide) (shc_k hsh 1 (by decide) (by decide)) rfl (Nat.le_of_ble_eq_true rfl) (by omega) (ok_mono h (fun w14 S15 F16 G17 h => ?_))
      obtain ⟨e8, h⟩ := h
      replace e8 := e8.symm; subst e8
      obtain ⟨z18, e9, h⟩ := h
      subst e9
      show Go d MX9_find 32 [some (vR 1), some (vI a1), some (vI a2), some (vJ a3), none] [vJ z18] S F16 G17 Q
      exact go_lret (show decode cX9_find 32 = .ok (.lreturn, 1) by decide +kernel) rfl h
    · have h := hf hc
      refine go_ldc2 (show decode cX9_find 14 = .ok (.ldc2_w 72, 3) by decide +kernel) lc_X9_72 (by decide) ?_
      exact go_lret (show decode cX9_find 17 = .ok (.lreturn, 1) by decide +kernel) rfl h
def V_X9_isAxis_0 (d : Nat) (S : AS) (F : AF) (G : AG) (Q : AQ) (a0 : Int) : Prop :=
  ((a0 = 0) →
    Q (some (vI 1)) S F G) ∧
  ((¬ a0 = 0) →
    ((¬ a0 = 1) →
      Q (some (vI 0)) S F G) ∧
    ((a0 = 1) →
      Q (some (vI 1)) S F G))
theorem R_X9_isAxis_0 {d : Nat} {S : AS} {F : AF} {G : AG} {Q : AQ} {a0 : Int} (hsh : ShC S) (h : V_X9_isAxis_0 d S F G Q a0) : Go d MX9_isAxis 0 [some (vI a0)] [] S F G Q := by
  unfold V_X9_isAxis_0 at h
  refine go_iload_n (show decode cX9_isAxis 0 = .ok (.iload_n 0, 1) by decide +kernel) (by rfl) ?_
  obtain ⟨ht, hf⟩ := h
  refine go_ifeq (tgt := 9) (show decode cX9_isAxis 1 = .ok (.ifCond .eq 8, 3) by decide +kernel) (by decide) (fun hc => ?_) (fun hc => ?_)
  · have h := ht hc
    refine go_iconst (show decode cX9_isAxis 9 = .ok (.iconst 1, 1) by decide +kernel) (by decide) ?_
    refine go_goto (tgt := 14) (show decode cX9_isAxis 10 = .ok (.goto 4, 3) by decide +kernel) (by decide) ?_
    exact go_zret (show decode cX9_isAxis 14 = .ok (.ireturn, 1) by decide +kernel) rfl (by decide) h
  · have h := hf hc
    refine go_iload_n (show decode cX9_isAxis 4 = .ok (.iload_n 0, 1) by decide +kernel) (by rfl) ?_
    refine go_iconst (show decode cX9_isAxis 5 = .ok (.iconst 1, 1) by decide +kernel) (by decide) ?_
    obtain ⟨ht, hf⟩ := h
    refine go_icmpne (tgt := 13) (show decode cX9_isAxis 6 = .ok (.if_icmp .ne 7, 3) by decide +kernel) (by decide) (fun hc => ?_) (fun hc => ?_)
    · have h := ht hc
      refine go_iconst (show decode cX9_isAxis 13 = .ok (.iconst 0, 1) by decide +kernel) (by decide) ?_
      exact go_zret (show decode cX9_isAxis 14 = .ok (.ireturn, 1) by decide +kernel) rfl (by decide) h
    · have h := hf hc
      refine go_iconst (show decode cX9_isAxis 9 = .ok (.iconst 1, 1) by decide +kernel) (by decide) ?_
      refine go_goto (tgt := 14) (show decode cX9_isAxis 10 = .ok (.goto 4, 3) by decide +kernel) (by decide) ?_
      exact go_zret (show decode cX9_isAxis 14 = .ok (.ireturn, 1) by decide +kernel) rfl (by decide) h
def V_X9_numberOfUnit_0 (d : Nat) (S : AS) (F : AF) (G : AG) (Q : AQ) (a1 : Int) (a2 : Int) (a3 : Nat) (a4 : Int) : Prop :=
  ((1 ≤ a4) →
    (1 ≤ d) ∧
    Ok (d - 1) MX7_locate [vR 34, vI a1, vI a2, vR a3, vJ a4] S F G (fun w2 S3 F4 G5 =>
    S3 = S ∧
    ∃ z6 : Int, w2 = some (vI z6) ∧
    ((z6 = 0) →
      Q (some (vJ (-1))) S F4 G5) ∧
    ((¬ z6 = 0) →
      ∃ z11 : Int, Pu (d - 1) MX2_number [vR 2, vI (F4 34 4), vI (F4 34 5)] S F4 G5 (some (vJ z11)) ∧
      Q (some (vJ z11)) S F4 G5))) ∧
  ((¬ 1 ≤ a4) →
    Q (some (vJ (-3))) S F G)
theorem R_X9_numberOfUnit_0 {d : Nat} {S : AS} {F : AF} {G : AG} {Q : AQ} {a1 : Int} {a2 : Int} {a3 : Nat} {a4 : Int} (hsh : ShC S) (hk3 : AtRect S a3) (h : V_X9_numberOfUnit_0 d S F G Q a1 a2 a3 a4) : Go d MX9_numberOfUnit 0 [some (vR 1), some (vI a1), some (vI a2), some (vR a3), some (vJ a4), none] [] S F G Q := by
  unfold V_X9_numberOfUnit_0 at h
  refine go_lload (show decode cX9_numberOfUnit 0 = .ok (.lload 4, 2) by decide +kernel) (by rfl) ?_
  refine go_lconst (n := 1) (show decode cX9_numberOfUnit 2 = .ok (.lconst 1, 1) by decide +kernel) ?_
  show Go d MX9_numberOfUnit 3 [some (vR 1), some (vI a1), some (vI a2), some (vR a3), some (vJ a4), none] [vJ 1, vJ a4] S F G Q
  obtain ⟨ht, hf⟩ := h
  refine go_jge (tgt := 11) (show decode cX9_numberOfUnit 3 = .ok (.lcmp, 1) by decide +kernel) (show decode cX9_numberOfUnit 4 = .ok (.ifCond .ge 7, 3) by decide +kernel) (by decide) (fun hc => ?_) (fun hc => ?_)
  · have h := ht hc
    refine go_aload_n (show decode cX9_numberOfUnit 11 = .ok (.aload_n 0, 1) by decide +kernel) (by rfl) ?_
    refine go_getRc (show decode cX9_numberOfUnit 12 = .ok (.getfield 12, 3) by decide +kernel) fl_X9_12 rfl (shc_k hsh 1 (by decide) (by decide)) (v := 34) (shc_r hsh 1 0 (by decide) (by decide) (by decide)) ?_
    refine go_iload_n (show decode cX9_numberOfUnit 15 = .ok (.iload_n 1, 1) by decide +kernel) (by rfl) ?_
    refine go_iload_n (show decode cX9_numberOfUnit 16 = .ok (.iload_n 2, 1) by decide +kernel) (by rfl) ?_
    refine go_aload_n (show decode cX9_numberOfUnit 17 = .ok (.aload_n 3, 1) by decide +kernel) (by rfl) ?_
    refine go_lload (show decode cX9_numberOfUnit 18 = .ok (.lload 4, 2) by decide +kernel) (by rfl) ?_
    obtain ⟨q1, h⟩ := h
    refine go_callV (d2 := d - 1) (M2 := MX7_locate) (n := 4) (ci := 7) (av := [vI a1, vI a2, vR a3, vJ a4]) (st := []) (show decode cX9_numberOfUnit 20 = .ok (.invokevirtual 107, 3) by decide +kernel) ml_X9_107 mt_X7_locate min_X7_locate mse_X7_locate (by decide) (shc_k hsh 34 (by decide) (by decide)) rfl (Nat.le_of_ble_eq_true rfl) (by omega) (ok_mono h (fun w2 S3 F4 G5 h => ?_))
    obtain ⟨e8, h⟩ := h
    replace e8 := e8.symm; subst e8
    obtain ⟨z6, e9, h⟩ := h
    subst e9
    show Go d MX9_numberOfUnit 23 [some (vR 1), some (vI a1), some (vI a2), some (vR a3), some (vJ a4), none] [vI z6] S F4 G5 Q
    obtain ⟨ht, hf⟩ := h
    refine go_ifeq (tgt := 50) (show decode cX9_numberOfUnit 23 = .ok (.ifCond .eq 27, 3) by decide +kernel) (by decide) (fun hc => ?_) (fun hc => ?_)
    · have h := ht hc
      refine go_ldc2 (show decode cX9_numberOfUnit 50 = .ok (.ldc2_w 216, 3) by decide +kernel) lc_X9_216 (by decide) ?_
      exact go_lret (show decode cX9_numberOfUnit 53 = .ok (.lreturn, 1) by decide +kernel) rfl h
    · have h := hf hc
      refine go_aload_n (show decode cX9_numberOfUnit 26 = .ok (.aload_n 0, 1) by decide +kernel) (by rfl) ?_
      refine go_getRc (show decode cX9_numberOfUnit 27 = .ok (.getfield 20, 3) by decide +kernel) fl_X9_20 rfl (shc_k hsh 1 (by decide) (by decide)) (v := 2) (shc_r hsh 1 1 (by decide) (by decide) (by decide)) ?_
      refine go_aload_n (show decode cX9_numberOfUnit 30 = .ok (.aload_n 0, 1) by decide +kernel) (by rfl) ?_
      refine go_getRc (show decode cX9_numberOfUnit 31 = .ok (.getfield 12, 3) by decide +kernel) fl_X9_12 rfl (shc_k hsh 1 (by decide) (by decide)) (v := 34) (shc_r hsh 1 0 (by decide) (by decide) (by decide)) ?_
      refine go_getI (show decode cX9_numberOfUnit 34 = .ok (.getfield 113, 3) by decide +kernel) fl_X9_113 (Or.inl rfl) (shc_k hsh 34 (by decide) (by decide)) ?_
      refine go_aload_n (show decode cX9_numberOfUnit 37 = .ok (.aload_n 0, 1) by decide +kernel) (by rfl) ?_
      refine go_getRc (show decode cX9_numberOfUnit 38 = .ok (.getfield 12, 3) by decide +kernel) fl_X9_12 rfl (shc_k hsh 1 (by decide) (by decide)) (v := 34) (shc_r hsh 1 0 (by decide) (by decide) (by decide)) ?_
      refine go_getI (show decode cX9_numberOfUnit 41 = .ok (.getfield 117, 3) by decide +kernel) fl_X9_117 (Or.inl rfl) (shc_k hsh 34 (by decide) (by decide)) ?_
      obtain ⟨z11, p12, h⟩ := h
      refine go_callV (d2 := d - 1) (M2 := MX2_number) (n := 2) (ci := 2) (av := [vI (F4 34 4), vI (F4 34 5)]) (st := []) (show decode cX9_numberOfUnit 44 = .ok (.invokevirtual 141, 3) by decide +kernel) ml_X9_141 mt_X2_number min_X2_number mse_X2_number (by decide) (shc_k hsh 2 (by decide) (by decide)) rfl (Nat.le_of_ble_eq_true rfl) (by omega) (ok_mono p12 (fun w7 S8 F9 G10 e9 => ?_))
      obtain ⟨e1, e2, e3, e4⟩ := e9
      subst e1
      replace e2 := e2.symm; subst e2
      replace e3 := e3.symm; subst e3
      replace e4 := e4.symm; subst e4
      show Go d MX9_numberOfUnit 47 [some (vR 1), some (vI a1), some (vI a2), some (vR a3), some (vJ a4), none] [vJ z11] S F4 G5 Q
      refine go_goto (tgt := 53) (show decode cX9_numberOfUnit 47 = .ok (.goto 6, 3) by decide +kernel) (by decide) ?_
      exact go_lret (show decode cX9_numberOfUnit 53 = .ok (.lreturn, 1) by decide +kernel) rfl h
  · have h := hf hc
    refine go_ldc2 (show decode cX9_numberOfUnit 7 = .ok (.ldc2_w 53, 3) by decide +kernel) lc_X9_53 (by decide) ?_
    exact go_lret (show decode cX9_numberOfUnit 10 = .ok (.lreturn, 1) by decide +kernel) rfl h
def V_X9_findIn_0 (d : Nat) (S : AS) (F : AF) (G : AG) (Q : AQ) (a1 : Int) (a2 : Int) (a3 : Int) (a4 : Int) (a5 : Int) (a6 : Int) : Prop :=
  (1 ≤ d) ∧
  ∃ z6 : Int, Pu (d - 1) MX9_isGood [vI a1] S F G (some (vI z6)) ∧
  ((z6 = 0) →
    Q (some (vJ (-2))) S F G) ∧
  ((¬ z6 = 0) →
    Ok (d - 1) MX9_ask [vR 1, vI a2, vI a3, vI a4, vI a5] S F G (fun w8 S9 F10 G11 =>
    S9 = S ∧
    ∃ z12 : Int, w8 = some (vI z12) ∧
    ((¬ z12 = 0) →
      Ok (d - 1) MX9_numberOfUnit [vR 1, vI a1, vI 0, vR 51, vJ a6] S F10 G11 (fun w13 S14 F15 G16 =>
      S14 = S ∧
      ∃ z17 : Int, w13 = some (vJ z17) ∧
      Q (some (vJ z17)) S F15 G16)) ∧
    ((z12 = 0) →
      Q (some (vJ (-2))) S F10 G11)))
theorem R_X9_findIn_0 {d : Nat} {S : AS} {F : AF} {G : AG} {Q : AQ} {a1 : Int} {a2 : Int} {a3 : Int} {a4 : Int} {a5 : Int} {a6 : Int} (hsh : ShC S) (h : V_X9_findIn_0 d S F G Q a1 a2 a3 a4 a5 a6) : Go d MX9_findIn 0 [some (vR 1), some (vI a1), some (vI a2), some (vI a3), some (vI a4), some (vI a5), some (vJ a6), none] [] S F G Q := by
  unfold V_X9_findIn_0 at h
  refine go_iload_n (show decode cX9_findIn 0 = .ok (.iload_n 1, 1) by decide +kernel) (by rfl) ?_
  obtain ⟨q1, h⟩ := h
  obtain ⟨z6, p7, h⟩ := h
  refine go_callS (d2 := d - 1) (M2 := MX9_isGood) (n := 1) (av := [vI a1]) (st := []) (show decode cX9_findIn 1 = .ok (.invokestatic 64, 3) by decide +kernel) ml_X9_64 mt_X9_isGood mst_X9_isGood rfl (Nat.le_of_ble_eq_true rfl) (by omega) (ok_mono p7 (fun w2 S3 F4 G5 e9 => ?_))
  obtain ⟨e1, e2, e3, e4⟩ := e9
  subst e1
  replace e2 := e2.symm; subst e2
  replace e3 := e3.symm; subst e3
  replace e4 := e4.symm; subst e4
  show Go d MX9_findIn 4 [some (vR 1), some (vI a1), some (vI a2), some (vI a3), some (vI a4), some (vI a5), some (vJ a6), none] [vI z6] S F G Q
  obtain ⟨ht, hf⟩ := h
  refine go_ifeq (tgt := 20) (show decode cX9_findIn 4 = .ok (.ifCond .eq 16, 3) by decide +kernel) (by decide) (fun hc => ?_) (fun hc => ?_)
  · have h := ht hc
    refine go_ldc2 (show decode cX9_findIn 20 = .ok (.ldc2_w 72, 3) by decide +kernel) lc_X9_72 (by decide) ?_
    exact go_lret (show decode cX9_findIn 23 = .ok (.lreturn, 1) by decide +kernel) rfl h
  · have h := hf hc
    refine go_aload_n (show decode cX9_findIn 7 = .ok (.aload_n 0, 1) by decide +kernel) (by rfl) ?_
    refine go_iload_n (show decode cX9_findIn 8 = .ok (.iload_n 2, 1) by decide +kernel) (by rfl) ?_
    refine go_iload_n (show decode cX9_findIn 9 = .ok (.iload_n 3, 1) by decide +kernel) (by rfl) ?_
    refine go_iload (show decode cX9_findIn 10 = .ok (.iload 4, 2) by decide +kernel) (by rfl) ?_
    refine go_iload (show decode cX9_findIn 12 = .ok (.iload 5, 2) by decide +kernel) (by rfl) ?_
    refine go_callV (d2 := d - 1) (M2 := MX9_ask) (n := 4) (ci := 9) (av := [vI a2, vI a3, vI a4, vI a5]) (st := []) (show decode cX9_findIn 14 = .ok (.invokevirtual 68, 3) by decide +kernel) ml_X9_68 mt_X9_ask min_X9_ask mse_X9_ask (by decide) (shc_k hsh 1 (by decide) (by decide)) rfl (Nat.le_of_ble_eq_true rfl) (by omega) (ok_mono h (fun w8 S9 F10 G11 h => ?_))
    obtain ⟨e8, h⟩ := h
    replace e8 := e8.symm; subst e8
    obtain ⟨z12, e9, h⟩ := h
    subst e9
    show Go d MX9_findIn 17 [some (vR 1), some (vI a1), some (vI a2), some (vI a3), some (vI a4), some (vI a5), some (vJ a6), none] [vI z12] S F10 G11 Q
    obtain ⟨ht, hf⟩ := h
    refine go_ifne (tgt := 24) (show decode cX9_findIn 17 = .ok (.ifCond .ne 7, 3) by decide +kernel) (by decide) (fun hc => ?_) (fun hc => ?_)
    · have h := ht hc
      refine go_aload_n (show decode cX9_findIn 24 = .ok (.aload_n 0, 1) by decide +kernel) (by rfl) ?_
      refine go_iload_n (show decode cX9_findIn 25 = .ok (.iload_n 1, 1) by decide +kernel) (by rfl) ?_
      refine go_iconst (show decode cX9_findIn 26 = .ok (.iconst 0, 1) by decide +kernel) (by decide) ?_
      refine go_aload_n (show decode cX9_findIn 27 = .ok (.aload_n 0, 1) by decide +kernel) (by rfl) ?_
      refine go_getRc (show decode cX9_findIn 28 = .ok (.getfield 38, 3) by decide +kernel) fl_X9_38 rfl (shc_k hsh 1 (by decide) (by decide)) (v := 51) (shc_r hsh 1 4 (by decide) (by decide) (by decide)) ?_
      refine go_lload (show decode cX9_findIn 31 = .ok (.lload 6, 2) by decide +kernel) (by rfl) ?_
      refine go_callV (d2 := d - 1) (M2 := MX9_numberOfUnit) (n := 4) (ci := 9) (av := [vI a1, vI 0, vR 51, vJ a6]) (st := []) (show decode cX9_findIn 33 = .ok (.invokevirtual 298, 3) by decide +kernel) ml_X9_298 mt_X9_numberOfUnit min_X9_numberOfUnit mse_X9_numberOfUnit (by decide) (shc_k hsh 1 (by decide) (by decide)) rfl (Nat.le_of_ble_eq_true rfl) (by omega) (ok_mono h (fun w13 S14 F15 G16 h => ?_))
      obtain ⟨e8, h⟩ := h
      replace e8 := e8.symm; subst e8
      obtain ⟨z17, e9, h⟩ := h
      subst e9
      show Go d MX9_findIn 36 [some (vR 1), some (vI a1), some (vI a2), some (vI a3), some (vI a4), some (vI a5), some (vJ a6), none] [vJ z17] S F15 G16 Q
      exact go_lret (show decode cX9_findIn 36 = .ok (.lreturn, 1) by decide +kernel) rfl h
    · have h := hf hc
      refine go_ldc2 (show decode cX9_findIn 20 = .ok (.ldc2_w 72, 3) by decide +kernel) lc_X9_72 (by decide) ?_
      exact go_lret (show decode cX9_findIn 23 = .ok (.lreturn, 1) by decide +kernel) rfl h
def V_X9_touched_0 (d : Nat) (S : AS) (F : AF) (G : AG) (Q : AQ) (a1 : Int) (a2 : Int) (a3 : Int) (a4 : Int) (a5 : Int) (a6 : Int) : Prop :=
  (1 ≤ d) ∧
  ∃ z6 : Int, Pu (d - 1) MX9_isGood [vI a1] S F G (some (vI z6)) ∧
  ((z6 = 0) →
    Q (some (vJ (-2))) S F G) ∧
  ((¬ z6 = 0) →
    Ok (d - 1) MX9_ask [vR 1, vI a2, vI a3, vI a4, vI a5] S F G (fun w8 S9 F10 G11 =>
    S9 = S ∧
    ∃ z12 : Int, w8 = some (vI z12) ∧
    ((¬ z12 = 0) →
      ((1 ≤ a6) →
        Ok (d - 1) MX7_locate [vR 34, vI a1, vI 0, vR 51, vJ a6] S F10 G11 (fun w13 S14 F15 G16 =>
        S14 = S ∧
        ∃ z17 : Int, w13 = some (vI z17) ∧
        ((z17 = 0) →
          Q (some (vJ (-1))) S F15 G16) ∧
        ((¬ z17 = 0) →
          Q (some (vJ (F15 34 7))) S F15 G16))) ∧
      ((¬ 1 ≤ a6) →
        Q (some (vJ (-3))) S F10 G11)) ∧
    ((z12 = 0) →
      Q (some (vJ (-2))) S F10 G11)))
theorem R_X9_touched_0 {d : Nat} {S : AS} {F : AF} {G : AG} {Q : AQ} {a1 : Int} {a2 : Int} {a3 : Int} {a4 : Int} {a5 : Int} {a6 : Int} (hsh : ShC S) (h : V_X9_touched_0 d S F G Q a1 a2 a3 a4 a5 a6) : Go d MX9_touched 0 [some (vR 1), some (vI a1), some (vI a2), some (vI a3), some (vI a4), some (vI a5), some (vJ a6), none] [] S F G Q := by
  unfold V_X9_touched_0 at h
  refine go_iload_n (show decode cX9_touched 0 = .ok (.iload_n 1, 1) by decide +kernel) (by rfl) ?_
  obtain ⟨q1, h⟩ := h
  obtain ⟨z6, p7, h⟩ := h
  refine go_callS (d2 := d - 1) (M2 := MX9_isGood) (n := 1) (av := [vI a1]) (st := []) (show decode cX9_touched 1 = .ok (.invokestatic 64, 3) by decide +kernel) ml_X9_64 mt_X9_isGood mst_X9_isGood rfl (Nat.le_of_ble_eq_true rfl) (by omega) (ok_mono p7 (fun w2 S3 F4 G5 e9 => ?_))
  obtain ⟨e1, e2, e3, e4⟩ := e9
  subst e1
  replace e2 := e2.symm; subst e2
  replace e3 := e3.symm; subst e3
  replace e4 := e4.symm; subst e4
  show Go d MX9_touched 4 [some (vR 1), some (vI a1), some (vI a2), some (vI a3), some (vI a4), some (vI a5), some (vJ a6), none] [vI z6] S F G Q
  obtain ⟨ht, hf⟩ := h
  refine go_ifeq (tgt := 20) (show decode cX9_touched 4 = .ok (.ifCond .eq 16, 3) by decide +kernel) (by decide) (fun hc => ?_) (fun hc => ?_)
  · have h := ht hc
    refine go_ldc2 (show decode cX9_touched 20 = .ok (.ldc2_w 72, 3) by decide +kernel) lc_X9_72 (by decide) ?_
    exact go_lret (show decode cX9_touched 23 = .ok (.lreturn, 1) by decide +kernel) rfl h
  · have h := hf hc
    refine go_aload_n (show decode cX9_touched 7 = .ok (.aload_n 0, 1) by decide +kernel) (by rfl) ?_
    refine go_iload_n (show decode cX9_touched 8 = .ok (.iload_n 2, 1) by decide +kernel) (by rfl) ?_
    refine go_iload_n (show decode cX9_touched 9 = .ok (.iload_n 3, 1) by decide +kernel) (by rfl) ?_
    refine go_iload (show decode cX9_touched 10 = .ok (.iload 4, 2) by decide +kernel) (by rfl) ?_
    refine go_iload (show decode cX9_touched 12 = .ok (.iload 5, 2) by decide +kernel) (by rfl) ?_
    refine go_callV (d2 := d - 1) (M2 := MX9_ask) (n := 4) (ci := 9) (av := [vI a2, vI a3, vI a4, vI a5]) (st := []) (show decode cX9_touched 14 = .ok (.invokevirtual 68, 3) by decide +kernel) ml_X9_68 mt_X9_ask min_X9_ask mse_X9_ask (by decide) (shc_k hsh 1 (by decide) (by decide)) rfl (Nat.le_of_ble_eq_true rfl) (by omega) (ok_mono h (fun w8 S9 F10 G11 h => ?_))
    obtain ⟨e8, h⟩ := h
    replace e8 := e8.symm; subst e8
    obtain ⟨z12, e9, h⟩ := h
    subst e9
    show Go d MX9_touched 17 [some (vR 1), some (vI a1), some (vI a2), some (vI a3), some (vI a4), some (vI a5), some (vJ a6), none] [vI z12] S F10 G11 Q
    obtain ⟨ht, hf⟩ := h
    refine go_ifne (tgt := 24) (show decode cX9_touched 17 = .ok (.ifCond .ne 7, 3) by decide +kernel) (by decide) (fun hc => ?_) (fun hc => ?_)
    · have h := ht hc
      refine go_lload (show decode cX9_touched 24 = .ok (.lload 6, 2) by decide +kernel) (by rfl) ?_
      refine go_lconst (n := 1) (show decode cX9_touched 26 = .ok (.lconst 1, 1) by decide +kernel) ?_
      show Go d MX9_touched 27 [some (vR 1), some (vI a1), some (vI a2), some (vI a3), some (vI a4), some (vI a5), some (vJ a6), none] [vJ 1, vJ a6] S F10 G11 Q
      obtain ⟨ht, hf⟩ := h
      refine go_jge (tgt := 35) (show decode cX9_touched 27 = .ok (.lcmp, 1) by decide +kernel) (show decode cX9_touched 28 = .ok (.ifCond .ge 7, 3) by decide +kernel) (by decide) (fun hc => ?_) (fun hc => ?_)
      · have h := ht hc
        refine go_aload_n (show decode cX9_touched 35 = .ok (.aload_n 0, 1) by decide +kernel) (by rfl) ?_
        refine go_getRc (show decode cX9_touched 36 = .ok (.getfield 12, 3) by decide +kernel) fl_X9_12 rfl (shc_k hsh 1 (by decide) (by decide)) (v := 34) (shc_r hsh 1 0 (by decide) (by decide) (by decide)) ?_
        refine go_iload_n (show decode cX9_touched 39 = .ok (.iload_n 1, 1) by decide +kernel) (by rfl) ?_
        refine go_iconst (show decode cX9_touched 40 = .ok (.iconst 0, 1) by decide +kernel) (by decide) ?_
        refine go_aload_n (show decode cX9_touched 41 = .ok (.aload_n 0, 1) by decide +kernel) (by rfl) ?_
        refine go_getRc (show decode cX9_touched 42 = .ok (.getfield 38, 3) by decide +kernel) fl_X9_38 rfl (shc_k hsh 1 (by decide) (by decide)) (v := 51) (shc_r hsh 1 4 (by decide) (by decide) (by decide)) ?_
        refine go_lload (show decode cX9_touched 45 = .ok (.lload 6, 2) by decide +kernel) (by rfl) ?_
        refine go_callV (d2 := d - 1) (M2 := MX7_locate) (n := 4) (ci := 7) (av := [vI a1, vI 0, vR 51, vJ a6]) (st := []) (show decode cX9_touched 47 = .ok (.invokevirtual 107, 3) by decide +kernel) ml_X9_107 mt_X7_locate min_X7_locate mse_X7_locate (by decide) (shc_k hsh 34 (by decide) (by decide)) rfl (Nat.le_of_ble_eq_true rfl) (by omega) (ok_mono h (fun w13 S14 F15 G16 h => ?_))
        obtain ⟨e8, h⟩ := h
        replace e8 := e8.symm; subst e8
        obtain ⟨z17, e9, h⟩ := h
        subst e9
        show Go d MX9_touched 50 [some (vR 1), some (vI a1), some (vI a2), some (vI a3), some (vI a4), some (vI a5), some (vJ a6), none] [vI z17] S F15 G16 Q
        obtain ⟨ht, hf⟩ := h
        refine go_ifeq (tgt := 63) (show decode cX9_touched 50 = .ok (.ifCond .eq 13, 3) by decide +kernel) (by decide) (fun hc => ?_) (fun hc => ?_)
        · have h := ht hc
          refine go_ldc2 (show decode cX9_touched 63 = .ok (.ldc2_w 216, 3) by decide +kernel) lc_X9_216 (by decide) ?_
          exact go_lret (show decode cX9_touched 66 = .ok (.lreturn, 1) by decide +kernel) rfl h
        · have h := hf hc
          refine go_aload_n (show decode cX9_touched 53 = .ok (.aload_n 0, 1) by decide +kernel) (by rfl) ?_
          refine go_getRc (show decode cX9_touched 54 = .ok (.getfield 12, 3) by decide +kernel) fl_X9_12 rfl (shc_k hsh 1 (by decide) (by decide)) (v := 34) (shc_r hsh 1 0 (by decide) (by decide) (by decide)) ?_
          refine go_getJ (show decode cX9_touched 57 = .ok (.getfield 302, 3) by decide +kernel) fl_X9_302 rfl (shc_k hsh 34 (by decide) (by decide)) ?_
          refine go_goto (tgt := 66) (show decode cX9_touched 60 = .ok (.goto 6, 3) by decide +kernel) (by decide) ?_
          exact go_lret (show decode cX9_touched 66 = .ok (.lreturn, 1) by decide +kernel) rfl h
      · have h := hf hc
        refine go_ldc2 (show decode cX9_touched 31 = .ok (.ldc2_w 53, 3) by decide +kernel) lc_X9_53 (by decide) ?_
        exact go_lret (show decode cX9_touched 34 = .ok (.lreturn, 1) by decide +kernel) rfl h
    · have h := hf hc
      refine go_ldc2 (show decode cX9_touched 20 = .ok (.ldc2_w 72, 3) by decide +kernel) lc_X9_72 (by decide) ?_
      exact go_lret (show decode cX9_touched 23 = .ok (.lreturn, 1) by decide +kernel) rfl h
def V_X9_ahead_112 (d : Nat) (S : AS) (F : AF) (G : AG) (Q : AQ) (a1 : Int) (a2 : Int) (a3 : Int) (a4 : Int) : Prop :=
  (1 ≤ d) ∧
  ∃ z6 : Int, Pu (d - 1) MX2_sumOf [vR 2, vI a1, vR 51] S F G (some (vJ z6)) ∧
  ∃ z12 : Int, Pu (d - 1) MX2_sumOf [vR 2, vI a1, vR 52] S F G (some (vJ z12)) ∧
  (r64 (z6 + z12)) ∧
  Q (some (vJ (z6 + z12))) S F G
theorem R_X9_ahead_112 {d : Nat} {S : AS} {F : AF} {G : AG} {Q : AQ} {a1 : Int} {a2 : Int} {a3 : Int} {a4 : Int} (hsh : ShC S) (h : V_X9_ahead_112 d S F G Q a1 a2 a3 a4) : Go d MX9_ahead 112 [some (vR 1), some (vI a1), some (vI a2), some (vI a3), some (vI a4)] [] S F G Q := by
  unfold V_X9_ahead_112 at h
  refine go_aload_n (show decode cX9_ahead 112 = .ok (.aload_n 0, 1) by decide +kernel) (by rfl) ?_
  refine go_getRc (show decode cX9_ahead 113 = .ok (.getfield 20, 3) by decide +kernel) fl_X9_20 rfl (shc_k hsh 1 (by decide) (by decide)) (v := 2) (shc_r hsh 1 1 (by decide) (by decide) (by decide)) ?_
  refine go_iload_n (show decode cX9_ahead 116 = .ok (.iload_n 1, 1) by decide +kernel) (by rfl) ?_
  refine go_aload_n (show decode cX9_ahead 117 = .ok (.aload_n 0, 1) by decide +kernel) (by rfl) ?_
  refine go_getRc (show decode cX9_ahead 118 = .ok (.getfield 38, 3) by decide +kernel) fl_X9_38 rfl (shc_k hsh 1 (by decide) (by decide)) (v := 51) (shc_r hsh 1 4 (by decide) (by decide) (by decide)) ?_
  obtain ⟨q1, h⟩ := h
  obtain ⟨z6, p7, h⟩ := h
  refine go_callV (d2 := d - 1) (M2 := MX2_sumOf) (n := 2) (ci := 2) (av := [vI a1, vR 51]) (st := []) (show decode cX9_ahead 121 = .ok (.invokevirtual 101, 3) by decide +kernel) ml_X9_101 mt_X2_sumOf min_X2_sumOf mse_X2_sumOf (by decide) (shc_k hsh 2 (by decide) (by decide)) rfl (Nat.le_of_ble_eq_true rfl) (by omega) (ok_mono p7 (fun w2 S3 F4 G5 e9 => ?_))
  obtain ⟨e1, e2, e3, e4⟩ := e9
  subst e1
  replace e2 := e2.symm; subst e2
  replace e3 := e3.symm; subst e3
  replace e4 := e4.symm; subst e4
  show Go d MX9_ahead 124 [some (vR 1), some (vI a1), some (vI a2), some (vI a3), some (vI a4)] [vJ z6] S F G Q
  refine go_aload_n (show decode cX9_ahead 124 = .ok (.aload_n 0, 1) by decide +kernel) (by rfl) ?_
  refine go_getRc (show decode cX9_ahead 125 = .ok (.getfield 20, 3) by decide +kernel) fl_X9_20 rfl (shc_k hsh 1 (by decide) (by decide)) (v := 2) (shc_r hsh 1 1 (by decide) (by decide) (by decide)) ?_
  refine go_iload_n (show decode cX9_ahead 128 = .ok (.iload_n 1, 1) by decide +kernel) (by rfl) ?_
  refine go_aload_n (show decode cX9_ahead 129 = .ok (.aload_n 0, 1) by decide +kernel) (by rfl) ?_
  refine go_getRc (show decode cX9_ahead 130 = .ok (.getfield 42, 3) by decide +kernel) fl_X9_42 rfl (shc_k hsh 1 (by decide) (by decide)) (v := 52) (shc_r hsh 1 5 (by decide) (by decide) (by decide)) ?_
  obtain ⟨z12, p13, h⟩ := h
  refine go_callV (d2 := d - 1) (M2 := MX2_sumOf) (n := 2) (ci := 2) (av := [vI a1, vR 52]) (st := [vJ z6]) (show decode cX9_ahead 133 = .ok (.invokevirtual 101, 3) by decide +kernel) ml_X9_101 mt_X2_sumOf min_X2_sumOf mse_X2_sumOf (by decide) (shc_k hsh 2 (by decide) (by decide)) rfl (Nat.le_of_ble_eq_true rfl) (by omega) (ok_mono p13 (fun w8 S9 F10 G11 e9 => ?_))
  obtain ⟨e1, e2, e3, e4⟩ := e9
  subst e1
  replace e2 := e2.symm; subst e2
  replace e3 := e3.symm; subst e3
  replace e4 := e4.symm; subst e4
  show Go d MX9_ahead 136 [some (vR 1), some (vI a1), some (vI a2), some (vI a3), some (vI a4)] [vJ z12, vJ z6] S F G Q
  obtain ⟨q14, h⟩ := h
  refine go_ladd (show decode cX9_ahead 136 = .ok (.ladd, 1) by decide +kernel) q14 ?_
  exact go_lret (show decode cX9_ahead 137 = .ok (.lreturn, 1) by decide +kernel) rfl h
def V_X9_ahead_0 (d : Nat) (S : AS) (F : AF) (G : AG) (Q : AQ) (a1 : Int) (a2 : Int) (a3 : Int) (a4 : Int) : Prop :=
  (1 ≤ d) ∧
  ∃ z6 : Int, Pu (d - 1) MX9_isGood [vI a1] S F G (some (vI z6)) ∧
  ((z6 = 0) →
    Q (some (vJ (-2))) S F G) ∧
  ((¬ z6 = 0) →
    ∃ z12 : Int, Pu (d - 1) MX9_isAxis [vI a2] S F G (some (vI z12)) ∧
    ((z12 = 0) →
      Q (some (vJ (-2))) S F G) ∧
    ((¬ z12 = 0) →
      Ok (d - 1) MX9_ask [vR 1, vI a3, vI a4, vI a3, vI a4] S F G (fun w14 S15 F16 G17 =>
      S15 = S ∧
      ∃ z18 : Int, w14 = some (vI z18) ∧
      ((¬ z18 = 0) →
        ((¬ a2 = 0) →
          (r32 (a3 - 1)) ∧
          Ok (d - 1) MX3_set [vR 51, vI 0, vI 0, vI (a3 - 1), vI (F16 17 3)] S F16 G17 (fun w20 S21 F22 G23 =>
          S21 = S ∧
          w20 = none ∧
          (r32 (a4 - 1)) ∧
          Ok (d - 1) MX3_set [vR 52, vI a3, vI 0, vI a3, vI (a4 - 1)] S F22 G23 (fun w25 S26 F27 G28 =>
          S26 = S ∧
          w25 = none ∧
          V_X9_ahead_112 d S F27 G28 Q a1 a2 a3 a4))) ∧
        ((a2 = 0) →
          (r32 (a4 - 1)) ∧
          Ok (d - 1) MX3_set [vR 51, vI 0, vI 0, vI (F16 17 2), vI (a4 - 1)] S F16 G17 (fun w30 S31 F32 G33 =>
          S31 = S ∧
          w30 = none ∧
          (r32 (a3 - 1)) ∧
          Ok (d - 1) MX3_set [vR 52, vI 0, vI a4, vI (a3 - 1), vI a4] S F32 G33 (fun w35 S36 F37 G38 =>
          S36 = S ∧
          w35 = none ∧
          V_X9_ahead_112 d S F37 G38 Q a1 a2 a3 a4)))) ∧
      ((z18 = 0) →
        Q (some (vJ (-2))) S F16 G17))))
theorem R_X9_ahead_0 {d : Nat} {S : AS} {F : AF} {G : AG} {Q : AQ} {a1 : Int} {a2 : Int} {a3 : Int} {a4 : Int} (hsh : ShC S) (h : V_X9_ahead_0 d S F G Q a1 a2 a3 a4) : Go d MX9_ahead 0 [some (vR 1), some (vI a1), some (vI a2), some (vI a3), some (vI a4)] [] S F G Q := by
  unfold V_X9_ahead_0 at h
  refine go_iload_n (show decode cX9_ahead 0 = .ok (.iload_n 1, 1) by decide +kernel) (by rfl) ?_
  obtain ⟨q1, h⟩ := h
  obtain ⟨z6, p7, h⟩ := h
  refine go_callS (d2 := d - 1) (M2 := MX9_isGood) (n := 1) (av := [vI a1]) (st := []) (show decode cX9_ahead 1 = .ok (.invokestatic 64, 3) by decide +kernel) ml_X9_64 mt_X9_isGood mst_X9_isGood rfl (Nat.le_of_ble_eq_true rfl) (by omega) (ok_mono p7 (fun w2 S3 F4 G5 e9 => ?_))
  obtain ⟨e1, e2, e3, e4⟩ := e9
  subst e1
  replace e2 := e2.symm; subst e2
  replace e3 := e3.symm; subst e3
  replace e4 := e4.symm; subst e4
  show Go d MX9_ahead 4 [some (vR 1), some (vI a1), some (vI a2), some (vI a3), some (vI a4)] [vI z6] S F G Q
  obtain ⟨ht, hf⟩ := h
  refine go_ifeq (tgt := 27) (show decode cX9_ahead 4 = .ok (.ifCond .eq 23, 3) by decide +kernel) (by decide) (fun hc => ?_) (fun hc => ?_)
  · have h := ht hc
    refine go_ldc2 (show decode cX9_ahead 27 = .ok (.ldc2_w 72, 3) by decide +kernel) lc_X9_72 (by decide) ?_
    exact go_lret (show decode cX9_ahead 30 = .ok (.lreturn, 1) by decide +kernel) rfl h
  · have h := hf hc
    refine go_iload_n (show decode cX9_ahead 7 = .ok (.iload_n 2, 1) by decide +kernel) (by rfl) ?_
    obtain ⟨z12, p13, h⟩ := h
    refine go_callS (d2 := d - 1) (M2 := MX9_isAxis) (n := 1) (av := [vI a2]) (st := []) (show decode cX9_ahead 8 = .ok (.invokestatic 295, 3) by decide +kernel) ml_X9_295 mt_X9_isAxis mst_X9_isAxis rfl (Nat.le_of_ble_eq_true rfl) (by omega) (ok_mono p13 (fun w8 S9 F10 G11 e9 => ?_))
    obtain ⟨e1, e2, e3, e4⟩ := e9
    subst e1
    replace e2 := e2.symm; subst e2
    replace e3 := e3.symm; subst e3
    replace e4 := e4.symm; subst e4
    show Go d MX9_ahead 11 [some (vR 1), some (vI a1), some (vI a2), some (vI a3), some (vI a4)] [vI z12] S F G Q
    obtain ⟨ht, hf⟩ := h
    refine go_ifeq (tgt := 27) (show decode cX9_ahead 11 = .ok (.ifCond .eq 16, 3) by decide +kernel) (by decide) (fun hc => ?_) (fun hc => ?_)
    · have h := ht hc
      refine go_ldc2 (show decode cX9_ahead 27 = .ok (.ldc2_w 72, 3) by decide +kernel) lc_X9_72 (by decide) ?_
      exact go_lret (show decode cX9_ahead 30 = .ok (.lreturn, 1) by decide +kernel) rfl h
    · have h := hf hc
      refine go_aload_n (show decode cX9_ahead 14 = .ok (.aload_n 0, 1) by decide +kernel) (by rfl) ?_
      refine go_iload_n (show decode cX9_ahead 15 = .ok (.iload_n 3, 1) by decide +kernel) (by rfl) ?_
      refine go_iload (show decode cX9_ahead 16 = .ok (.iload 4, 2) by decide +kernel) (by rfl) ?_
      refine go_iload_n (show decode cX9_ahead 18 = .ok (.iload_n 3, 1) by decide +kernel) (by rfl) ?_
      refine go_iload (show decode cX9_ahead 19 = .ok (.iload 4, 2) by decide +kernel) (by rfl) ?_
      refine go_callV (d2 := d - 1) (M2 := MX9_ask) (n := 4) (ci := 9) (av := [vI a3, vI a4, vI a3, vI a4]) (st := []) (show decode cX9_ahead 21 = .ok (.invokevirtual 68, 3) by decide +kernel) ml_X9_68 mt_X9_ask min_X9_ask mse_X9_ask (by decide) (shc_k hsh 1 (by decide) (by decide)) rfl (Nat.le_of_ble_eq_true rfl) (by omega) (ok_mono h (fun w14 S15 F16 G17 h => ?_))
      obtain ⟨e8, h⟩ := h
      replace e8 := e8.symm; subst e8
      obtain ⟨z18, e9, h⟩ := h
      subst e9
      show Go d MX9_ahead 24 [some (vR 1), some (vI a1), some (vI a2), some (vI a3), some (vI a4)] [vI z18] S F16 G17 Q
      obtain ⟨ht, hf⟩ := h
      refine go_ifne (tgt := 31) (show decode cX9_ahead 24 = .ok (.ifCond .ne 7, 3) by decide +kernel) (by decide) (fun hc => ?_) (fun hc => ?_)
      · have h := ht hc
        refine go_iload_n (show decode cX9_ahead 31 = .ok (.iload_n 2, 1) by decide +kernel) (by rfl) ?_
        obtain ⟨ht, hf⟩ := h
        refine go_ifne (tgt := 76) (show decode cX9_ahead 32 = .ok (.ifCond .ne 44, 3) by decide +kernel) (by decide) (fun hc => ?_) (fun hc => ?_)
        · have h := ht hc
          refine go_aload_n (show decode cX9_ahead 76 = .ok (.aload_n 0, 1) by decide +kernel) (by rfl) ?_
          refine go_getRc (show decode cX9_ahead 77 = .ok (.getfield 38, 3) by decide +kernel) fl_X9_38 rfl (shc_k hsh 1 (by decide) (by decide)) (v := 51) (shc_r hsh 1 4 (by decide) (by decide) (by decide)) ?_
          refine go_iconst (show decode cX9_ahead 80 = .ok (.iconst 0, 1) by decide +kernel) (by decide) ?_
          refine go_iconst (show decode cX9_ahead 81 = .ok (.iconst 0, 1) by decide +kernel) (by decide) ?_
          refine go_iload_n (show decode cX9_ahead 82 = .ok (.iload_n 3, 1) by decide +kernel) (by rfl) ?_
          refine go_iconst (show decode cX9_ahead 83 = .ok (.iconst 1, 1) by decide +kernel) (by decide) ?_
          obtain ⟨q19, h⟩ := h
          refine go_isub (show decode cX9_ahead 84 = .ok (.isub, 1) by decide +kernel) q19 ?_
          refine go_aload_n (show decode cX9_ahead 85 = .ok (.aload_n 0, 1) by decide +kernel) (by rfl) ?_
          refine go_getRc (show decode cX9_ahead 86 = .ok (.getfield 20, 3) by decide +kernel) fl_X9_20 rfl (shc_k hsh 1 (by decide) (by decide)) (v := 2) (shc_r hsh 1 1 (by decide) (by decide) (by decide)) ?_
          refine go_getRc (show decode cX9_ahead 89 = .ok (.getfield 57, 3) by decide +kernel) fl_X9_57 rfl (shc_k hsh 2 (by decide) (by decide)) (v := 17) (shc_r hsh 2 2 (by decide) (by decide) (by decide)) ?_
          refine go_getI (show decode cX9_ahead 92 = .ok (.getfield 308, 3) by decide +kernel) fl_X9_308 (Or.inl rfl) (shc_k hsh 17 (by decide) (by decide)) ?_
          refine go_callV (d2 := d - 1) (M2 := MX3_set) (n := 4) (ci := 3) (av := [vI 0, vI 0, vI (a3 - 1), vI (F16 17 3)]) (st := []) (show decode cX9_ahead 95 = .ok (.invokevirtual 148, 3) by decide +kernel) ml_X9_148 mt_X3_set min_X3_set mse_X3_set (by decide) (shc_k hsh 51 (by decide) (by decide)) rfl (Nat.le_of_ble_eq_true rfl) (by omega) (ok_mono h (fun w20 S21 F22 G23 h => ?_))
          obtain ⟨e8, h⟩ := h
          replace e8 := e8.symm; subst e8
          obtain ⟨e9, h⟩ := h
          subst e9
          show Go d MX9_ahead 98 [some (vR 1), some (vI a1), some (vI a2), some (vI a3), some (vI a4)] [] S F22 G23 Q
          refine go_aload_n (show decode cX9_ahead 98 = .ok (.aload_n 0, 1) by decide +kernel) (by rfl) ?_
          refine go_getRc (show decode cX9_ahead 99 = .ok (.getfield 42, 3) by decide +kernel) fl_X9_42 rfl (shc_k hsh 1 (by decide) (by decide)) (v := 52) (shc_r hsh 1 5 (by decide) (by decide) (by decide)) ?_
          refine go_iload_n (show decode cX9_ahead 102 = .ok (.iload_n 3, 1) by decide +kernel) (by rfl) ?_
          refine go_iconst (show decode cX9_ahead 103 = .ok (.iconst 0, 1) by decide +kernel) (by decide) ?_
          refine go_iload_n (show decode cX9_ahead 104 = .ok (.iload_n 3, 1) by decide +kernel) (by rfl) ?_
          refine go_iload (show decode cX9_ahead 105 = .ok (.iload 4, 2) by decide +kernel) (by rfl) ?_
          refine go_iconst (show decode cX9_ahead 107 = .ok (.iconst 1, 1) by decide +kernel) (by decide) ?_
          obtain ⟨q24, h⟩ := h
          refine go_isub (show decode cX9_ahead 108 = .ok (.isub, 1) by decide +kernel) q24 ?_
          refine go_callV (d2 := d - 1) (M2 := MX3_set) (n := 4) (ci := 3) (av := [vI a3, vI 0, vI a3, vI (a4 - 1)]) (st := []) (show decode cX9_ahead 109 = .ok (.invokevirtual 148, 3) by decide +kernel) ml_X9_148 mt_X3_set min_X3_set mse_X3_set (by decide) (shc_k hsh 52 (by decide) (by decide)) rfl (Nat.le_of_ble_eq_true rfl) (by omega) (ok_mono h (fun w25 S26 F27 G28 h => ?_))
          obtain ⟨e8, h⟩ := h
          replace e8 := e8.symm; subst e8
          obtain ⟨e9, h⟩ := h
          subst e9
          show Go d MX9_ahead 112 [some (vR 1), some (vI a1), some (vI a2), some (vI a3), some (vI a4)] [] S F27 G28 Q
          exact R_X9_ahead_112 hsh h
        · have h := hf hc
          refine go_aload_n (show decode cX9_ahead 35 = .ok (.aload_n 0, 1) by decide +kernel) (by rfl) ?_
          refine go_getRc (show decode cX9_ahead 36 = .ok (.getfield 38, 3) by decide +kernel) fl_X9_38 rfl (shc_k hsh 1 (by decide) (by decide)) (v := 51) (shc_r hsh 1 4 (by decide) (by decide) (by decide)) ?_
          refine go_iconst (show decode cX9_ahead 39 = .ok (.iconst 0, 1) by decide +kernel) (by decide) ?_
          refine go_iconst (show decode cX9_ahead 40 = .ok (.iconst 0, 1) by decide +kernel) (by decide) ?_
          refine go_aload_n (show decode cX9_ahead 41 = .ok (.aload_n 0, 1) by decide +kernel) (by rfl) ?_
          refine go_getRc (show decode cX9_ahead 42 = .ok (.getfield 20, 3) by decide +kernel) fl_X9_20 rfl (shc_k hsh 1 (by decide) (by decide)) (v := 2) (shc_r hsh 1 1 (by decide) (by decide) (by decide)) ?_
          refine go_getRc (show decode cX9_ahead 45 = .ok (.getfield 57, 3) by decide +kernel) fl_X9_57 rfl (shc_k hsh 2 (by decide) (by decide)) (v := 17) (shc_r hsh 2 2 (by decide) (by decide) (by decide)) ?_
          refine go_getI (show decode cX9_ahead 48 = .ok (.getfield 305, 3) by decide +kernel) fl_X9_305 (Or.inl rfl) (shc_k hsh 17 (by decide) (by decide)) ?_
          refine go_iload (show decode cX9_ahead 51 = .ok (.iload 4, 2) by decide +kernel) (by rfl) ?_
          refine go_iconst (show decode cX9_ahead 53 = .ok (.iconst 1, 1) by decide +kernel) (by decide) ?_
          obtain ⟨q29, h⟩ := h
          refine go_isub (show decode cX9_ahead 54 = .ok (.isub, 1) by decide +kernel) q29 ?_
          refine go_callV (d2 := d - 1) (M2 := MX3_set) (n := 4) (ci := 3) (av := [vI 0, vI 0, vI (F16 17 2), vI (a4 - 1)]) (st := []) (show decode cX9_ahead 55 = .ok (.invokevirtual 148, 3) by decide +kernel) ml_X9_148 mt_X3_set min_X3_set mse_X3_set (by decide) (shc_k hsh 51 (by decide) (by decide)) rfl (Nat.le_of_ble_eq_true rfl) (by omega) (ok_mono h (fun w30 S31 F32 G33 h => ?_))
          obtain ⟨e8, h⟩ := h
          replace e8 := e8.symm; subst e8
          obtain ⟨e9, h⟩ := h
          subst e9
          show Go d MX9_ahead 58 [some (vR 1), some (vI a1), some (vI a2), some (vI a3), some (vI a4)] [] S F32 G33 Q
          refine go_aload_n (show decode cX9_ahead 58 = .ok (.aload_n 0, 1) by decide +kernel) (by rfl) ?_
          refine go_getRc (show decode cX9_ahead 59 = .ok (.getfield 42, 3) by decide +kernel) fl_X9_42 rfl (shc_k hsh 1 (by decide) (by decide)) (v := 52) (shc_r hsh 1 5 (by decide) (by decide) (by decide)) ?_
          refine go_iconst (show decode cX9_ahead 62 = .ok (.iconst 0, 1) by decide +kernel) (by decide) ?_
          refine go_iload (show decode cX9_ahead 63 = .ok (.iload 4, 2) by decide +kernel) (by rfl) ?_
          refine go_iload_n (show decode cX9_ahead 65 = .ok (.iload_n 3, 1) by decide +kernel) (by rfl) ?_
          refine go_iconst (show decode cX9_ahead 66 = .ok (.iconst 1, 1) by decide +kernel) (by decide) ?_
          obtain ⟨q34, h⟩ := h
          refine go_isub (show decode cX9_ahead 67 = .ok (.isub, 1) by decide +kernel) q34 ?_
          refine go_iload (show decode cX9_ahead 68 = .ok (.iload 4, 2) by decide +kernel) (by rfl) ?_
          refine go_callV (d2 := d - 1) (M2 := MX3_set) (n := 4) (ci := 3) (av := [vI 0, vI a4, vI (a3 - 1), vI a4]) (st := []) (show decode cX9_ahead 70 = .ok (.invokevirtual 148, 3) by decide +kernel) ml_X9_148 mt_X3_set min_X3_set mse_X3_set (by decide) (shc_k hsh 52 (by decide) (by decide)) rfl (Nat.le_of_ble_eq_true rfl) (by omega) (ok_mono h (fun w35 S36 F37 G38 h => ?_))
          obtain ⟨e8, h⟩ := h
          replace e8 := e8.symm; subst e8
          obtain ⟨e9, h⟩ := h
          subst e9
          show Go d MX9_ahead 73 [some (vR 1), some (vI a1), some (vI a2), some (vI a3), some (vI a4)] [] S F37 G38 Q
          refine go_goto (tgt := 112) (show decode cX9_ahead 73 = .ok (.goto 39, 3) by decide +kernel) (by decide) ?_
          exact R_X9_ahead_112 hsh h
      · have h := hf hc
        refine go_ldc2 (show decode cX9_ahead 27 = .ok (.ldc2_w 72, 3) by decide +kernel) lc_X9_72 (by decide) ?_
        exact go_lret (show decode cX9_ahead 30 = .ok (.lreturn, 1) by decide +kernel) rfl h
