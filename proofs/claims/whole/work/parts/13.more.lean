theorem go_clr {d : Nat} {M : AM} {pc : Nat} {L : AL} {st : List AV} {S : AS} {F : AF} {G : AG} {Q : AQ} (i : Nat) (k : Go d M pc (L.set i none) st S F G Q) : Go d M pc L st S F G Q := by
  have hsub : ∀ (j : Nat) (v : AV), (L.set i none)[j]? = some (some v) → L[j]? = some (some v) := by
    intro j v hj
    by_cases e : j = i
    · subst e
      rw [List.getElem?_set] at hj
      simp only [if_true] at hj
      split at hj <;> cases hj
    · rw [List.getElem?_set_ne (fun q => e q.symm)] at hj
      exact hj
  intro h1 h2 h3
  obtain ⟨r, S', F', G', a, b, g⟩ := k h1 h2 (fun j v hj => h3 j v (hsub j v hj))
  refine ⟨r, S', F', G', a, b, ?_⟩
  intro p l e R s m args below meth c H locs cells slots Qs D ad ca tys A H0 ls x1 x2 x3 x4 x5 x6 x7 x8 x9 x10 x11
  exact g p l e R s m args below meth c H locs cells slots Qs D ad ca tys A H0 ls x1 x2 x3 x4 x5 x6 x7 x8 x9 ⟨x10.1, x10.2.1, fun j v hj => x10.2.2 j v (hsub j v hj)⟩ x11
theorem cmpJ_eq {x y : Int} : cmpJ x y = 0 ↔ x = y := by
  simp only [cmpJ]
  split
  · omega
  · split <;> omega
theorem go_jeq {d : Nat} {M : AM} {pc : Nat} {L : AL} {st : List AV} {S : AS} {F : AF} {G : AG} {Q : AQ} {x y : Int} {off : Int} {tgt : Nat} (hd : decode M.2.1 pc = .ok (.lcmp, 1)) (hd2 : decode M.2.1 (pc + 1) = .ok (.ifCond .eq off, 3)) (ht : ((pc + 1 : Nat) : Int) + off = (tgt : Int)) (kt : x = y → Go d M tgt L st S F G Q) (kf : ¬ x = y → Go d M (pc + 4) L st S F G Q) : Go d M pc L (vJ y :: vJ x :: st) S F G Q :=
  go_lcmp hd (go_ifeq hd2 ht (fun h => kt (by have := @cmpJ_eq x y; omega)) (fun h => kf (by have := @cmpJ_eq x y; omega)))
theorem cmpJ_ne {x y : Int} : ¬ cmpJ x y = 0 ↔ ¬ x = y := by
  simp only [cmpJ]
  split
  · omega
  · split <;> omega
theorem go_jne {d : Nat} {M : AM} {pc : Nat} {L : AL} {st : List AV} {S : AS} {F : AF} {G : AG} {Q : AQ} {x y : Int} {off : Int} {tgt : Nat} (hd : decode M.2.1 pc = .ok (.lcmp, 1)) (hd2 : decode M.2.1 (pc + 1) = .ok (.ifCond .ne off, 3)) (ht : ((pc + 1 : Nat) : Int) + off = (tgt : Int)) (kt : ¬ x = y → Go d M tgt L st S F G Q) (kf : x = y → Go d M (pc + 4) L st S F G Q) : Go d M pc L (vJ y :: vJ x :: st) S F G Q :=
  go_lcmp hd (go_ifne hd2 ht (fun h => kt (by have := @cmpJ_ne x y; omega)) (fun h => kf (by have := @cmpJ_ne x y; omega)))
theorem cmpJ_lt {x y : Int} : cmpJ x y < 0 ↔ x < y := by
  simp only [cmpJ]
  split
  · omega
  · split <;> omega
theorem go_jlt {d : Nat} {M : AM} {pc : Nat} {L : AL} {st : List AV} {S : AS} {F : AF} {G : AG} {Q : AQ} {x y : Int} {off : Int} {tgt : Nat} (hd : decode M.2.1 pc = .ok (.lcmp, 1)) (hd2 : decode M.2.1 (pc + 1) = .ok (.ifCond .lt off, 3)) (ht : ((pc + 1 : Nat) : Int) + off = (tgt : Int)) (kt : x < y → Go d M tgt L st S F G Q) (kf : ¬ x < y → Go d M (pc + 4) L st S F G Q) : Go d M pc L (vJ y :: vJ x :: st) S F G Q :=
  go_lcmp hd (go_iflt hd2 ht (fun h => kt (by have := @cmpJ_lt x y; omega)) (fun h => kf (by have := @cmpJ_lt x y; omega)))
theorem cmpJ_ge {x y : Int} : 0 ≤ cmpJ x y ↔ y ≤ x := by
  simp only [cmpJ]
  split
  · omega
  · split <;> omega
theorem go_jge {d : Nat} {M : AM} {pc : Nat} {L : AL} {st : List AV} {S : AS} {F : AF} {G : AG} {Q : AQ} {x y : Int} {off : Int} {tgt : Nat} (hd : decode M.2.1 pc = .ok (.lcmp, 1)) (hd2 : decode M.2.1 (pc + 1) = .ok (.ifCond .ge off, 3)) (ht : ((pc + 1 : Nat) : Int) + off = (tgt : Int)) (kt : y ≤ x → Go d M tgt L st S F G Q) (kf : ¬ y ≤ x → Go d M (pc + 4) L st S F G Q) : Go d M pc L (vJ y :: vJ x :: st) S F G Q :=
  go_lcmp hd (go_ifge hd2 ht (fun h => kt (by have := @cmpJ_ge x y; omega)) (fun h => kf (by have := @cmpJ_ge x y; omega)))
theorem cmpJ_gt {x y : Int} : 0 < cmpJ x y ↔ y < x := by
  simp only [cmpJ]
  split
  · omega
  · split <;> omega
theorem go_jgt {d : Nat} {M : AM} {pc : Nat} {L : AL} {st : List AV} {S : AS} {F : AF} {G : AG} {Q : AQ} {x y : Int} {off : Int} {tgt : Nat} (hd : decode M.2.1 pc = .ok (.lcmp, 1)) (hd2 : decode M.2.1 (pc + 1) = .ok (.ifCond .gt off, 3)) (ht : ((pc + 1 : Nat) : Int) + off = (tgt : Int)) (kt : y < x → Go d M tgt L st S F G Q) (kf : ¬ y < x → Go d M (pc + 4) L st S F G Q) : Go d M pc L (vJ y :: vJ x :: st) S F G Q :=
  go_lcmp hd (go_ifgt hd2 ht (fun h => kt (by have := @cmpJ_gt x y; omega)) (fun h => kf (by have := @cmpJ_gt x y; omega)))
theorem cmpJ_le {x y : Int} : cmpJ x y ≤ 0 ↔ x ≤ y := by
  simp only [cmpJ]
  split
  · omega
  · split <;> omega
theorem go_jle {d : Nat} {M : AM} {pc : Nat} {L : AL} {st : List AV} {S : AS} {F : AF} {G : AG} {Q : AQ} {x y : Int} {off : Int} {tgt : Nat} (hd : decode M.2.1 pc = .ok (.lcmp, 1)) (hd2 : decode M.2.1 (pc + 1) = .ok (.ifCond .le off, 3)) (ht : ((pc + 1 : Nat) : Int) + off = (tgt : Int)) (kt : x ≤ y → Go d M tgt L st S F G Q) (kf : ¬ x ≤ y → Go d M (pc + 4) L st S F G Q) : Go d M pc L (vJ y :: vJ x :: st) S F G Q :=
  go_lcmp hd (go_ifle hd2 ht (fun h => kt (by have := @cmpJ_le x y; omega)) (fun h => kf (by have := @cmpJ_le x y; omega)))
theorem go_maxIm {d : Nat} {M : AM} {pc : Nat} {L : AL} {st : List AV} {S : AS} {F : AF} {G : AG} {Q : AQ} {idx : Nat} {x y : Int} (hd : decode M.2.1 pc = .ok (.invokestatic idx, 3)) (hw : Cond.methodLink M.1.cls idx Lib.Math.max.name ∈ lw_good) (hw2 : Cond.static Lib.Math.max.name ∈ lw_good) (hw3 : Cond.initialized "java/lang/Math" ∈ lw_good) (hw4 : Cond.code Lib.Math.max.name Lib.Math.max.code 2 (some .int) ∈ lw_good) (hs : cs st ≤ 8) (hd1 : 1 ≤ d) (kk : Go d M (pc + 3) L (vI (max x y) :: st) S F G Q) : Go d M pc L (vI y :: vI x :: st) S F G Q :=
  go_maxI hd hw hw2 hw3 hw4 hs hd1 (by rw [show (if x < y then y else x) = max x y by split <;> omega]; exact kk)
theorem go_minIm {d : Nat} {M : AM} {pc : Nat} {L : AL} {st : List AV} {S : AS} {F : AF} {G : AG} {Q : AQ} {idx : Nat} {x y : Int} (hd : decode M.2.1 pc = .ok (.invokestatic idx, 3)) (hw : Cond.methodLink M.1.cls idx Lib.Math.min.name ∈ lw_good) (hw2 : Cond.static Lib.Math.min.name ∈ lw_good) (hw3 : Cond.initialized "java/lang/Math" ∈ lw_good) (hw4 : Cond.code Lib.Math.min.name Lib.Math.min.code 2 (some .int) ∈ lw_good) (hs : cs st ≤ 8) (hd1 : 1 ≤ d) (kk : Go d M (pc + 3) L (vI (min x y) :: st) S F G Q) : Go d M pc L (vI y :: vI x :: st) S F G Q :=
  go_minI hd hw hw2 hw3 hw4 hs hd1 (by rw [show (if y < x then y else x) = min x y by split <;> omega]; exact kk)
theorem go_maxJm {d : Nat} {M : AM} {pc : Nat} {L : AL} {st : List AV} {S : AS} {F : AF} {G : AG} {Q : AQ} {idx : Nat} {x y : Int} (hd : decode M.2.1 pc = .ok (.invokestatic idx, 3)) (hw : Cond.methodLink M.1.cls idx Lib.MathLoose.max_long.x ∈ lw_good) (hw2 : Cond.static Lib.MathLoose.max_long.x ∈ lw_good) (hw3 : Cond.initialized "java/lang/Math" ∈ lw_good) (hw4 : Cond.code Lib.MathLoose.max_long.x Lib.MathLoose.max_long.code 4 (some .long) ∈ lw_good) (hs : cs st ≤ 8) (hd1 : 1 ≤ d) (kk : Go d M (pc + 3) L (vJ (max x y) :: st) S F G Q) : Go d M pc L (vJ y :: vJ x :: st) S F G Q :=
  go_maxJ hd hw hw2 hw3 hw4 hs hd1 (by rw [show (if y < x then x else y) = max x y by split <;> omega]; exact kk)
theorem go_minJm {d : Nat} {M : AM} {pc : Nat} {L : AL} {st : List AV} {S : AS} {F : AF} {G : AG} {Q : AQ} {idx : Nat} {x y : Int} (hd : decode M.2.1 pc = .ok (.invokestatic idx, 3)) (hw : Cond.methodLink M.1.cls idx Lib.MathLoose.min_long.x ∈ lw_good) (hw2 : Cond.static Lib.MathLoose.min_long.x ∈ lw_good) (hw3 : Cond.initialized "java/lang/Math" ∈ lw_good) (hw4 : Cond.code Lib.MathLoose.min_long.x Lib.MathLoose.min_long.code 4 (some .long) ∈ lw_good) (hs : cs st ≤ 8) (hd1 : 1 ≤ d) (kk : Go d M (pc + 3) L (vJ (min x y) :: st) S F G Q) : Go d M pc L (vJ y :: vJ x :: st) S F G Q :=
  go_minJ hd hw hw2 hw3 hw4 hs hd1 (by rw [show (if y < x then y else x) = min x y by split <;> omega]; exact kk)
theorem go_iincW {d : Nat} {M : AM} {pc : Nat} {L : AL} {st : List AV} {S : AS} {F : AF} {G : AG} {Q : AQ} {i : Nat} {n x : Int} (hd : decode M.2.1 pc = .ok (.iinc i n, 6)) (hi : L[i]? = some (some (vI x))) (hr : r32 (x + n)) (hn : i < M.2.2.1) (k : Go d M (pc + 6) (stL L i (vI (x + n))) st S F G Q) : Go d M pc L st S F G Q := by
  refine go_stepL k (fun h0 h1 h2 => ⟨h1, okL_st h2 hr, ?_⟩)
  intro p l e R s m args below meth c H locs cells slots Qs ad ls hE hl kk
  obtain ⟨q, hq⟩ := List.getElem?_of_mem (zPr_mem (ad := ad) hi)
  exact lv_iincW hE.1 hE.2.1 hd (zLS_has hl) hq (Int32.ofInt_add _ _).symm hn rfl (fun ls' h9 => kk ls' (zLS_st rfl h9))
