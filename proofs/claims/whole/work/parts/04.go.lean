/-! GO: from here the method returns, and its answer and heap hold Q. -/
abbrev AM : Type := MethodName × ByteArray × Nat × Option FieldType
abbrev AQ : Type := Option AV → AS → AF → AG → Prop
/-- the instruction that ends a method, with what answer -/
def zRt (b : ByteArray) (ret : Option FieldType) (pc : Nat) (r : Option AV) : Prop := match r with
  | none => decode b pc = .ok (.return_, 1) ∧ ret = none
  | some (.inl z) => decode b pc = .ok (.ireturn, 1) ∧ (ret = some .int ∨ (ret = some .boolean ∧ (z = 0 ∨ z = 1)) ∨ ∃ ty, ret = some ty ∧ narrow ty (.int (Int32.ofInt z)) = .int (Int32.ofInt z))
  | some (.inr (.inl _)) => decode b pc = .ok (.lreturn, 1) ∧ ret = some .long
  | some (.inr (.inr _)) => decode b pc = .ok (.areturn, 1) ∧ ∃ C, ret = some (.object C)
def zEn (M : AM) (p : Program) (s : State) (m : MethodId) (args : Array Value) (meth : Method) (c : Code) : Prop :=
  p.tables.exec = Jvm.exec ∧ c.code = M.2.1 ∧ c.maxLocals = M.2.2.1 ∧ s.vm.findClass M.1.cls = some m.cls ∧ (∀ w ∈ lw_good, w.before args s = true) ∧ meth.sig.returnType = M.2.2.2 ∧ meth.locks = false ∧ (M.1.name = "<init>" → meth.name = "<init>") ∧ zNw s
/-- the script, for the law alone -/
def zSc (M : AM) (S : AS) (ad : Nat → Nat) (A : Nat → Prop) (H0 : Heap) (s : State) : Prop := (M.1.name = "law" → va_X (ad 999999) (sL S) (fun j => Int32.ofInt (sx S j)) s H0 ∧ ad 999999 < H0.size ∧ ¬ A (ad 999999)) ∧ zStr ad A H0 s
def zOk (S : AS) (r : Option AV) (S' : AS) (F' : AF) (G' : AG) : Prop := sn S ≤ sn S' ∧ ss S ≤ ss S' ∧ sL S' = sL S ∧ sx S' = sx S ∧ RG S' F' G' ∧ ∀ v ∈ r, okV (sn S') v
def GoTo (d : Nat) (M : AM) (pc : Nat) (L : AL) (st : List AV) (S : AS) (F : AF) (G : AG) (r : Option AV) (S' : AS) (F' : AF) (G' : AG) : Prop :=
  ∀ (p : Program) (l : Launch) (e : Env) (R : Room) (s : State) (m : MethodId) (args : Array Value) (below : List Frame) (meth : Method) (c : Code) (H : Heap) (locs : List Loc) (cells slots : Nat) (Qs : State → Prop) (D : va_G) (ad : Nat → Nat) (ca : Nat → ClassId) (tys : List (ClassId × FieldType)) (A : Nat → Prop) (H0 : Heap) (ls : Array Slot),
    zEn M p s m args meth c → zSc M S ad A H0 s → d ≤ R.frames → 80 * d ≤ R.locals → cells + (sn S' - sn S) ≤ R.cells → slots + (ss S' - ss S) ≤ R.slots →
    Sm D ad ca tys S F G A H s → va_S A H0 H locs → (∀ q, H0.size ≤ q → A q) → zLS ad ls M.2.2.1 L →
    (∀ (H1 : Heap) (locs1 : List Loc) (ad1 : Nat → Nat) (ca1 : Nat → ClassId) (tys1 : List (ClassId × FieldType)) (pc1 : Nat) (ls1 : Array Slot), Sm D ad1 ca1 tys1 S' F' G' A H1 s → Ex ad ad1 (sn S) (sn S') → va_S A H0 H1 locs1 → zRt M.2.1 M.2.2.2 pc1 r → W p l e R s m args below meth c H1 locs1 (cells + (sn S' - sn S)) (slots + (ss S' - ss S)) Qs (F0 m pc1 ls1 ((r.map (vt ad1)).toList))) →
    W p l e R s m args below meth c H locs cells slots Qs (F0 m pc ls (st.map (vt ad)))
def Go (d : Nat) (M : AM) (pc : Nat) (L : AL) (st : List AV) (S : AS) (F : AF) (G : AG) (Q : AQ) : Prop :=
  RG S F G → okS (sn S) st → okL (sn S) L → ∃ (r : Option AV) (S' : AS) (F' : AF) (G' : AG), Q r S' F' G' ∧ zOk S r S' F' G' ∧ GoTo d M pc L st S F G r S' F' G'
theorem go_mono {d : Nat} {M : AM} {pc : Nat} {L : AL} {st : List AV} {S : AS} {F : AF} {G : AG} {Q Q' : AQ} (h : Go d M pc L st S F G Q) (hq : ∀ r S' F' G', Q r S' F' G' → Q' r S' F' G') : Go d M pc L st S F G Q' := by
  intro h1 h2 h3
  obtain ⟨r, S', F', G', a, b⟩ := h h1 h2 h3
  exact ⟨r, S', F', G', hq _ _ _ _ a, b⟩
theorem go_eq {d : Nat} {M : AM} {pc pc' : Nat} {L L' : AL} {st st' : List AV} {S : AS} {F F' : AF} {G G' : AG} {Q : AQ} (h : Go d M pc' L' st' S F' G' Q) (e1 : pc = pc') (e2 : L = L') (e3 : st = st') (e4 : F = F') (e5 : G = G') : Go d M pc L st S F G Q := by
  subst e1; subst e2; subst e3; subst e4; subst e5; exact h
/-- what is known of the numbers -/
theorem go_rg {d : Nat} {M : AM} {pc : Nat} {L : AL} {st : List AV} {S : AS} {F : AF} {G : AG} {Q : AQ} (h : RG S F G → okS (sn S) st → okL (sn S) L → Go d M pc L st S F G Q) : Go d M pc L st S F G Q := fun h1 h2 h3 => h h1 h2 h3 h1 h2 h3
/-- a step that leaves heap and slots as they are -/
def zSt (d : Nat) (M : AM) (pc : Nat) (L : AL) (st : List AV) (S : AS) (F : AF) (G : AG) (pc' : Nat) (st' : List AV) : Prop :=
  ∀ (p : Program) (l : Launch) (e : Env) (R : Room) (s : State) (m : MethodId) (args : Array Value) (below : List Frame) (meth : Method) (c : Code) (H : Heap) (locs : List Loc) (cells slots : Nat) (Qs : State → Prop) (D : va_G) (ad : Nat → Nat) (ca : Nat → ClassId) (tys : List (ClassId × FieldType)) (A : Nat → Prop) (H0 : Heap) (ls : Array Slot),
    zEn M p s m args meth c → zSc M S ad A H0 s → d ≤ R.frames → 80 * d ≤ R.locals → cells ≤ R.cells → slots ≤ R.slots →
    Sm D ad ca tys S F G A H s → va_S A H0 H locs → zLS ad ls M.2.2.1 L →
    W p l e R s m args below meth c H locs cells slots Qs (F0 m pc' ls (st'.map (vt ad))) → W p l e R s m args below meth c H locs cells slots Qs (F0 m pc ls (st.map (vt ad)))
theorem go_step {d : Nat} {M : AM} {pc pc' : Nat} {L : AL} {st st' : List AV} {S : AS} {F : AF} {G : AG} {Q : AQ} (k : Go d M pc' L st' S F G Q) (h : RG S F G → okS (sn S) st → okL (sn S) L → okS (sn S) st' ∧ zSt d M pc L st S F G pc' st') : Go d M pc L st S F G Q := by
  intro h1 h2 h3
  obtain ⟨h4, h5⟩ := h h1 h2 h3
  obtain ⟨r, S', F', G', a, b, g⟩ := k h1 h4 h3
  refine ⟨r, S', F', G', a, b, ?_⟩
  intro p l e R s m args below meth c H locs cells slots Qs D ad ca tys A H0 ls x1 x2 x3 x4 x5 x6 x7 x8 x9 x10 x11
  exact h5 p l e R s m args below meth c H locs cells slots Qs D ad ca tys A H0 ls x1 x2 x3 x4 (by omega) (by omega) x7 x8 x10 (g p l e R s m args below meth c H locs cells slots Qs D ad ca tys A H0 ls x1 x2 x3 x4 x5 x6 x7 x8 x9 x10 x11)
/-- a step that writes a slot -/
def zStL (M : AM) (pc : Nat) (L : AL) (st : List AV) (pc' : Nat) (L' : AL) (st' : List AV) : Prop :=
  ∀ (p : Program) (l : Launch) (e : Env) (R : Room) (s : State) (m : MethodId) (args : Array Value) (below : List Frame) (meth : Method) (c : Code) (H : Heap) (locs : List Loc) (cells slots : Nat) (Qs : State → Prop) (ad : Nat → Nat) (ls : Array Slot),
    zEn M p s m args meth c → zLS ad ls M.2.2.1 L →
    (∀ ls' : Array Slot, zLS ad ls' M.2.2.1 L' → W p l e R s m args below meth c H locs cells slots Qs (F0 m pc' ls' (st'.map (vt ad)))) → W p l e R s m args below meth c H locs cells slots Qs (F0 m pc ls (st.map (vt ad)))
theorem go_stepL {d : Nat} {M : AM} {pc pc' : Nat} {L L' : AL} {st st' : List AV} {S : AS} {F : AF} {G : AG} {Q : AQ} (k : Go d M pc' L' st' S F G Q) (h : RG S F G → okS (sn S) st → okL (sn S) L → okS (sn S) st' ∧ okL (sn S) L' ∧ zStL M pc L st pc' L' st') : Go d M pc L st S F G Q := by
  intro h1 h2 h3
  obtain ⟨h4, h6, h5⟩ := h h1 h2 h3
  obtain ⟨r, S', F', G', a, b, g⟩ := k h1 h4 h6
  refine ⟨r, S', F', G', a, b, ?_⟩
  intro p l e R s m args below meth c H locs cells slots Qs D ad ca tys A H0 ls x1 x2 x3 x4 x5 x6 x7 x8 x9 x10 x11
  exact h5 p l e R s m args below meth c H locs cells slots Qs ad ls x1 x10 (fun ls' hl => g p l e R s m args below meth c H locs cells slots Qs D ad ca tys A H0 ls' x1 x2 x3 x4 x5 x6 x7 x8 x9 hl x11)
/-! NUMBERS: what an int, a long says of whole numbers in its range -/
theorem zi_t {x : Int} (h : r32 x) : (Int32.ofInt x).toInt = x := Int32.toInt_ofInt_of_le (by omega) (by omega)
theorem zj_t {x : Int} (h : r64 x) : (Int64.ofInt x).toInt = x := Int64.toInt_ofInt_of_le (by omega) (by omega)
theorem zi_r (x : Int32) : r32 x.toInt := ⟨by have := x.le_toInt; omega, by have := x.toInt_lt; omega⟩
theorem zj_r (x : Int64) : r64 x.toInt := ⟨by have := x.le_toInt; omega, by have := x.toInt_lt; omega⟩
theorem zi_eq {x y : Int} (hx : r32 x) (hy : r32 y) : Int32.ofInt x = Int32.ofInt y ↔ x = y := by rw [← Int32.toInt_inj, zi_t hx, zi_t hy]
theorem zi_lt {x y : Int} (hx : r32 x) (hy : r32 y) : Int32.ofInt x < Int32.ofInt y ↔ x < y := by rw [Int32.lt_iff_toInt_lt, zi_t hx, zi_t hy]
theorem zi_le {x y : Int} (hx : r32 x) (hy : r32 y) : Int32.ofInt x ≤ Int32.ofInt y ↔ x ≤ y := by rw [Int32.le_iff_toInt_le, zi_t hx, zi_t hy]
theorem zj_eq {x y : Int} (hx : r64 x) (hy : r64 y) : Int64.ofInt x = Int64.ofInt y ↔ x = y := by rw [← Int64.toInt_inj, zj_t hx, zj_t hy]
theorem zj_lt {x y : Int} (hx : r64 x) (hy : r64 y) : Int64.ofInt x < Int64.ofInt y ↔ x < y := by rw [Int64.lt_iff_toInt_lt, zj_t hx, zj_t hy]
theorem zi_0 : (0 : Int32) = Int32.ofInt 0 := rfl
theorem zj_0 : (0 : Int64) = Int64.ofInt 0 := rfl
theorem zr0 : r32 0 := by omega
theorem zi_div {x y : Int} (hx : r32 x) (hy : r32 y) (hr : r32 (x.tdiv y)) : Int32.ofInt x / Int32.ofInt y = Int32.ofInt (x.tdiv y) := by
  rw [← Int32.toInt_inj, Int32.toInt_div, zi_t hx, zi_t hy, zi_t hr]
  exact Int.bmod_eq_of_le (by omega) (by omega)
theorem zj_div {x y : Int} (hx : r64 x) (hy : r64 y) (hr : r64 (x.tdiv y)) : Int64.ofInt x / Int64.ofInt y = Int64.ofInt (x.tdiv y) := by
  rw [← Int64.toInt_inj, Int64.toInt_div, zj_t hx, zj_t hy, zj_t hr]
  exact Int.bmod_eq_of_le (by omega) (by omega)
theorem zi_rem {x y : Int} (hx : r32 x) (hy : r32 y) (hr : r32 (x.tdiv y)) : Int32.ofInt x - Int32.ofInt x / Int32.ofInt y * Int32.ofInt y = Int32.ofInt (x.tmod y) := by
  rw [zi_div hx hy hr, ← Int32.ofInt_mul, ← Int32.ofInt_sub, Int.tmod_def, Int.mul_comm]
theorem zj_rem {x y : Int} (hx : r64 x) (hy : r64 y) (hr : r64 (x.tdiv y)) : Int64.ofInt x - Int64.ofInt x / Int64.ofInt y * Int64.ofInt y = Int64.ofInt (x.tmod y) := by
  rw [zj_div hx hy hr, ← Int64.ofInt_mul, ← Int64.ofInt_sub, Int.tmod_def, Int.mul_comm]
theorem zi_j {x : Int} (hx : r32 x) : (Int32.ofInt x).toInt64 = Int64.ofInt x := by
  rw [← Int64.ofInt_int32ToInt, zi_t hx]
def bAnd (x y : Int) : Int := (Int32.ofInt x &&& Int32.ofInt y).toInt
def bOr (x y : Int) : Int := (Int32.ofInt x ||| Int32.ofInt y).toInt
def bShl (x y : Int) : Int := (Int32.ofInt x <<< (Int32.ofInt y &&& 31)).toInt
def bShr (x y : Int) : Int := (Int32.ofInt x >>> (Int32.ofInt y &&& 31)).toInt
def jAnd (x y : Int) : Int := (Int64.ofInt x &&& Int64.ofInt y).toInt
def jOr (x y : Int) : Int := (Int64.ofInt x ||| Int64.ofInt y).toInt
def jShl (x y : Int) : Int := (Int64.ofInt x <<< ((Int32.ofInt y).toInt64 &&& 63)).toInt
def iB (x : Int) : Int := (Int32.ofInt x).toInt8.toInt32.toInt
def cmpJ (x y : Int) : Int := if y < x then 1 else if x = y then 0 else -1
theorem zj_cmp {x y : Int} (hx : r64 x) (hy : r64 y) : lg_cmp (Int64.ofInt x) (Int64.ofInt y) = Int32.ofInt (cmpJ x y) := by
  have e1 : (Int64.ofInt x > Int64.ofInt y) = (y < x) := propext (zj_lt hy hx)
  have e2 : (Int64.ofInt x = Int64.ofInt y) = (x = y) := propext (zj_eq hx hy)
  simp only [lg_cmp, cmpJ, e1, e2]
  split
  · rfl
  · split <;> rfl

theorem go_iadd {d : Nat} {M : AM} {pc : Nat} {L : AL} {st : List AV} {S : AS} {F : AF} {G : AG} {Q : AQ} {x y : Int} (hd : decode M.2.1 pc = .ok (.iadd, 1)) (hr : r32 (x + y)) (k : Go d M (pc + 1) L (vI (x + y) :: st) S F G Q) : Go d M pc L (vI y :: vI x :: st) S F G Q := by
  refine go_step k (fun h0 h1 h2 => ⟨okS_c hr (okS_t (okS_t h1)), ?_⟩)
  intro p l e R s m args below meth c H locs cells slots Qs D ad ca tys A H0 ls hE _ _ _ _ _ hm hv hl kk
  exact lv_iadd hE.1 hE.2.1 hd (by rw [← Int32.ofInt_add]; exact kk)
theorem go_isub {d : Nat} {M : AM} {pc : Nat} {L : AL} {st : List AV} {S : AS} {F : AF} {G : AG} {Q : AQ} {x y : Int} (hd : decode M.2.1 pc = .ok (.isub, 1)) (hr : r32 (x - y)) (k : Go d M (pc + 1) L (vI (x - y) :: st) S F G Q) : Go d M pc L (vI y :: vI x :: st) S F G Q := by
  refine go_step k (fun h0 h1 h2 => ⟨okS_c hr (okS_t (okS_t h1)), ?_⟩)
  intro p l e R s m args below meth c H locs cells slots Qs D ad ca tys A H0 ls hE _ _ _ _ _ hm hv hl kk
  exact lv_isub hE.1 hE.2.1 hd (by rw [← Int32.ofInt_sub]; exact kk)
theorem go_imul {d : Nat} {M : AM} {pc : Nat} {L : AL} {st : List AV} {S : AS} {F : AF} {G : AG} {Q : AQ} {x y : Int} (hd : decode M.2.1 pc = .ok (.imul, 1)) (hr : r32 (x * y)) (k : Go d M (pc + 1) L (vI (x * y) :: st) S F G Q) : Go d M pc L (vI y :: vI x :: st) S F G Q := by
  refine go_step k (fun h0 h1 h2 => ⟨okS_c hr (okS_t (okS_t h1)), ?_⟩)
  intro p l e R s m args below meth c H locs cells slots Qs D ad ca tys A H0 ls hE _ _ _ _ _ hm hv hl kk
  exact lv_imul hE.1 hE.2.1 hd (by rw [← Int32.ofInt_mul]; exact kk)
theorem go_ladd {d : Nat} {M : AM} {pc : Nat} {L : AL} {st : List AV} {S : AS} {F : AF} {G : AG} {Q : AQ} {x y : Int} (hd : decode M.2.1 pc = .ok (.ladd, 1)) (hr : r64 (x + y)) (k : Go d M (pc + 1) L (vJ (x + y) :: st) S F G Q) : Go d M pc L (vJ y :: vJ x :: st) S F G Q := by
  refine go_step k (fun h0 h1 h2 => ⟨okS_c hr (okS_t (okS_t h1)), ?_⟩)
  intro p l e R s m args below meth c H locs cells slots Qs D ad ca tys A H0 ls hE _ _ _ _ _ hm hv hl kk
  exact lv_ladd hE.1 hE.2.1 hd (by rw [← Int64.ofInt_add]; exact kk)
theorem go_lsub {d : Nat} {M : AM} {pc : Nat} {L : AL} {st : List AV} {S : AS} {F : AF} {G : AG} {Q : AQ} {x y : Int} (hd : decode M.2.1 pc = .ok (.lsub, 1)) (hr : r64 (x - y)) (k : Go d M (pc + 1) L (vJ (x - y) :: st) S F G Q) : Go d M pc L (vJ y :: vJ x :: st) S F G Q := by
  refine go_step k (fun h0 h1 h2 => ⟨okS_c hr (okS_t (okS_t h1)), ?_⟩)
  intro p l e R s m args below meth c H locs cells slots Qs D ad ca tys A H0 ls hE _ _ _ _ _ hm hv hl kk
  exact lv_lsub hE.1 hE.2.1 hd (by rw [← Int64.ofInt_sub]; exact kk)
theorem go_lmul {d : Nat} {M : AM} {pc : Nat} {L : AL} {st : List AV} {S : AS} {F : AF} {G : AG} {Q : AQ} {x y : Int} (hd : decode M.2.1 pc = .ok (.lmul, 1)) (hr : r64 (x * y)) (k : Go d M (pc + 1) L (vJ (x * y) :: st) S F G Q) : Go d M pc L (vJ y :: vJ x :: st) S F G Q := by
  refine go_step k (fun h0 h1 h2 => ⟨okS_c hr (okS_t (okS_t h1)), ?_⟩)
  intro p l e R s m args below meth c H locs cells slots Qs D ad ca tys A H0 ls hE _ _ _ _ _ hm hv hl kk
  exact lv_lmul hE.1 hE.2.1 hd (by rw [← Int64.ofInt_mul]; exact kk)
theorem go_ineg {d : Nat} {M : AM} {pc : Nat} {L : AL} {st : List AV} {S : AS} {F : AF} {G : AG} {Q : AQ} {x : Int} (hd : decode M.2.1 pc = .ok (.ineg, 1)) (hr : r32 (-x)) (k : Go d M (pc + 1) L (vI (-x) :: st) S F G Q) : Go d M pc L (vI x :: st) S F G Q := by
  refine go_step k (fun h0 h1 h2 => ⟨okS_c hr (okS_t h1), ?_⟩)
  intro p l e R s m args below meth c H locs cells slots Qs D ad ca tys A H0 ls hE _ _ _ _ _ hm hv hl kk
  exact lv_ineg hE.1 hE.2.1 hd (by rw [← Int32.ofInt_neg]; exact kk)
theorem go_lneg {d : Nat} {M : AM} {pc : Nat} {L : AL} {st : List AV} {S : AS} {F : AF} {G : AG} {Q : AQ} {x : Int} (hd : decode M.2.1 pc = .ok (.lneg, 1)) (hr : r64 (-x)) (k : Go d M (pc + 1) L (vJ (-x) :: st) S F G Q) : Go d M pc L (vJ x :: st) S F G Q := by
  refine go_step k (fun h0 h1 h2 => ⟨okS_c hr (okS_t h1), ?_⟩)
  intro p l e R s m args below meth c H locs cells slots Qs D ad ca tys A H0 ls hE _ _ _ _ _ hm hv hl kk
  exact lv_lneg hE.1 hE.2.1 hd (by rw [← Int64.ofInt_neg]; exact kk)
theorem go_idiv {d : Nat} {M : AM} {pc : Nat} {L : AL} {st : List AV} {S : AS} {F : AF} {G : AG} {Q : AQ} {x y : Int} (hd : decode M.2.1 pc = .ok (.idiv, 1)) (hy : ¬ y = 0) (hr : r32 (x.tdiv y)) (k : Go d M (pc + 1) L (vI (x.tdiv y) :: st) S F G Q) : Go d M pc L (vI y :: vI x :: st) S F G Q := by
  refine go_step k (fun h0 h1 h2 => ⟨okS_c hr (okS_t (okS_t h1)), ?_⟩)
  intro p l e R s m args below meth c H locs cells slots Qs D ad ca tys A H0 ls hE _ _ _ _ _ hm hv hl kk
  exact lv_idiv hE.1 hE.2.1 hd (fun q => hy ((zi_eq (okS_h h1) (by omega)).mp q)) (by rw [zi_div (okS_h (okS_t h1)) (okS_h h1) hr]; exact kk)
theorem go_ldiv {d : Nat} {M : AM} {pc : Nat} {L : AL} {st : List AV} {S : AS} {F : AF} {G : AG} {Q : AQ} {x y : Int} (hd : decode M.2.1 pc = .ok (.ldiv, 1)) (hy : ¬ y = 0) (hr : r64 (x.tdiv y)) (k : Go d M (pc + 1) L (vJ (x.tdiv y) :: st) S F G Q) : Go d M pc L (vJ y :: vJ x :: st) S F G Q := by
  refine go_step k (fun h0 h1 h2 => ⟨okS_c hr (okS_t (okS_t h1)), ?_⟩)
  intro p l e R s m args below meth c H locs cells slots Qs D ad ca tys A H0 ls hE _ _ _ _ _ hm hv hl kk
  exact lv_ldiv hE.1 hE.2.1 hd (fun q => hy ((zj_eq (okS_h h1) (by omega)).mp q)) (by rw [zj_div (okS_h (okS_t h1)) (okS_h h1) hr]; exact kk)
theorem go_irem {d : Nat} {M : AM} {pc : Nat} {L : AL} {st : List AV} {S : AS} {F : AF} {G : AG} {Q : AQ} {x y : Int} (hd : decode M.2.1 pc = .ok (.irem, 1)) (hy : ¬ y = 0) (hr : r32 (x.tdiv y)) (hs : r32 (x.tmod y)) (k : Go d M (pc + 1) L (vI (x.tmod y) :: st) S F G Q) : Go d M pc L (vI y :: vI x :: st) S F G Q := by
  refine go_step k (fun h0 h1 h2 => ⟨okS_c hs (okS_t (okS_t h1)), ?_⟩)
  intro p l e R s m args below meth c H locs cells slots Qs D ad ca tys A H0 ls hE _ _ _ _ _ hm hv hl kk
  exact lv_irem hE.1 hE.2.1 hd (fun q => hy ((zi_eq (okS_h h1) (by omega)).mp q)) (by rw [zi_rem (okS_h (okS_t h1)) (okS_h h1) hr]; exact kk)
theorem go_lrem {d : Nat} {M : AM} {pc : Nat} {L : AL} {st : List AV} {S : AS} {F : AF} {G : AG} {Q : AQ} {x y : Int} (hd : decode M.2.1 pc = .ok (.lrem, 1)) (hy : ¬ y = 0) (hr : r64 (x.tdiv y)) (hs : r64 (x.tmod y)) (k : Go d M (pc + 1) L (vJ (x.tmod y) :: st) S F G Q) : Go d M pc L (vJ y :: vJ x :: st) S F G Q := by
  refine go_step k (fun h0 h1 h2 => ⟨okS_c hs (okS_t (okS_t h1)), ?_⟩)
  intro p l e R s m args below meth c H locs cells slots Qs D ad ca tys A H0 ls hE _ _ _ _ _ hm hv hl kk
  exact lv_lrem hE.1 hE.2.1 hd (fun q => hy ((zj_eq (okS_h h1) (by omega)).mp q)) (by rw [zj_rem (okS_h (okS_t h1)) (okS_h h1) hr]; exact kk)
theorem go_iand {d : Nat} {M : AM} {pc : Nat} {L : AL} {st : List AV} {S : AS} {F : AF} {G : AG} {Q : AQ} {x y : Int} (hd : decode M.2.1 pc = .ok (.iand, 1))  (k : Go d M (pc + 1) L (vI (bAnd x y) :: st) S F G Q) : Go d M pc L (vI y :: vI x :: st) S F G Q := by
  refine go_step k (fun h0 h1 h2 => ⟨okS_c (zi_r _) (okS_t (okS_t h1)), ?_⟩)
  intro p l e R s m args below meth c H locs cells slots Qs D ad ca tys A H0 ls hE _ _ _ _ _ hm hv hl kk
  exact lv_iand hE.1 hE.2.1 hd (by have e : Int32.ofInt (bAnd x y) = _ := Int32.ofInt_toInt _; rw [← e]; exact kk)
theorem go_ior {d : Nat} {M : AM} {pc : Nat} {L : AL} {st : List AV} {S : AS} {F : AF} {G : AG} {Q : AQ} {x y : Int} (hd : decode M.2.1 pc = .ok (.ior, 1))  (k : Go d M (pc + 1) L (vI (bOr x y) :: st) S F G Q) : Go d M pc L (vI y :: vI x :: st) S F G Q := by
  refine go_step k (fun h0 h1 h2 => ⟨okS_c (zi_r _) (okS_t (okS_t h1)), ?_⟩)
  intro p l e R s m args below meth c H locs cells slots Qs D ad ca tys A H0 ls hE _ _ _ _ _ hm hv hl kk
  exact lv_ior hE.1 hE.2.1 hd (by have e : Int32.ofInt (bOr x y) = _ := Int32.ofInt_toInt _; rw [← e]; exact kk)
theorem go_ishl {d : Nat} {M : AM} {pc : Nat} {L : AL} {st : List AV} {S : AS} {F : AF} {G : AG} {Q : AQ} {x y : Int} (hd : decode M.2.1 pc = .ok (.ishl, 1))  (k : Go d M (pc + 1) L (vI (bShl x y) :: st) S F G Q) : Go d M pc L (vI y :: vI x :: st) S F G Q := by
  refine go_step k (fun h0 h1 h2 => ⟨okS_c (zi_r _) (okS_t (okS_t h1)), ?_⟩)
  intro p l e R s m args below meth c H locs cells slots Qs D ad ca tys A H0 ls hE _ _ _ _ _ hm hv hl kk
  exact lv_ishl hE.1 hE.2.1 hd (by have e : Int32.ofInt (bShl x y) = _ := Int32.ofInt_toInt _; rw [← e]; exact kk)
theorem go_ishr {d : Nat} {M : AM} {pc : Nat} {L : AL} {st : List AV} {S : AS} {F : AF} {G : AG} {Q : AQ} {x y : Int} (hd : decode M.2.1 pc = .ok (.ishr, 1))  (k : Go d M (pc + 1) L (vI (bShr x y) :: st) S F G Q) : Go d M pc L (vI y :: vI x :: st) S F G Q := by
  refine go_step k (fun h0 h1 h2 => ⟨okS_c (zi_r _) (okS_t (okS_t h1)), ?_⟩)
  intro p l e R s m args below meth c H locs cells slots Qs D ad ca tys A H0 ls hE _ _ _ _ _ hm hv hl kk
  exact lv_ishr hE.1 hE.2.1 hd (by have e : Int32.ofInt (bShr x y) = _ := Int32.ofInt_toInt _; rw [← e]; exact kk)
theorem go_land {d : Nat} {M : AM} {pc : Nat} {L : AL} {st : List AV} {S : AS} {F : AF} {G : AG} {Q : AQ} {x y : Int} (hd : decode M.2.1 pc = .ok (.land, 1))  (k : Go d M (pc + 1) L (vJ (jAnd x y) :: st) S F G Q) : Go d M pc L (vJ y :: vJ x :: st) S F G Q := by
  refine go_step k (fun h0 h1 h2 => ⟨okS_c (zj_r _) (okS_t (okS_t h1)), ?_⟩)
  intro p l e R s m args below meth c H locs cells slots Qs D ad ca tys A H0 ls hE _ _ _ _ _ hm hv hl kk
  exact lv_land hE.1 hE.2.1 hd (by have e : Int64.ofInt (jAnd x y) = _ := Int64.ofInt_toInt _; rw [← e]; exact kk)
theorem go_lor {d : Nat} {M : AM} {pc : Nat} {L : AL} {st : List AV} {S : AS} {F : AF} {G : AG} {Q : AQ} {x y : Int} (hd : decode M.2.1 pc = .ok (.lor, 1))  (k : Go d M (pc + 1) L (vJ (jOr x y) :: st) S F G Q) : Go d M pc L (vJ y :: vJ x :: st) S F G Q := by
  refine go_step k (fun h0 h1 h2 => ⟨okS_c (zj_r _) (okS_t (okS_t h1)), ?_⟩)
  intro p l e R s m args below meth c H locs cells slots Qs D ad ca tys A H0 ls hE _ _ _ _ _ hm hv hl kk
  exact lv_lor hE.1 hE.2.1 hd (by have e : Int64.ofInt (jOr x y) = _ := Int64.ofInt_toInt _; rw [← e]; exact kk)
theorem go_lshl {d : Nat} {M : AM} {pc : Nat} {L : AL} {st : List AV} {S : AS} {F : AF} {G : AG} {Q : AQ} {x y : Int} (hd : decode M.2.1 pc = .ok (.lshl, 1))  (k : Go d M (pc + 1) L (vJ (jShl x y) :: st) S F G Q) : Go d M pc L (vI y :: vJ x :: st) S F G Q := by
  refine go_step k (fun h0 h1 h2 => ⟨okS_c (zj_r _) (okS_t (okS_t h1)), ?_⟩)
  intro p l e R s m args below meth c H locs cells slots Qs D ad ca tys A H0 ls hE _ _ _ _ _ hm hv hl kk
  exact lv_lshl hE.1 hE.2.1 hd (Int64.ofInt_toInt _).symm kk
theorem go_i2b {d : Nat} {M : AM} {pc : Nat} {L : AL} {st : List AV} {S : AS} {F : AF} {G : AG} {Q : AQ} {x : Int} (hd : decode M.2.1 pc = .ok (.i2b, 1))  (k : Go d M (pc + 1) L (vI (iB x) :: st) S F G Q) : Go d M pc L (vI x :: st) S F G Q := by
  refine go_step k (fun h0 h1 h2 => ⟨okS_c (zi_r _) (okS_t h1), ?_⟩)
  intro p l e R s m args below meth c H locs cells slots Qs D ad ca tys A H0 ls hE _ _ _ _ _ hm hv hl kk
  exact lv_i2b hE.1 hE.2.1 hd (Int32.ofInt_toInt _).symm kk
theorem go_i2l {d : Nat} {M : AM} {pc : Nat} {L : AL} {st : List AV} {S : AS} {F : AF} {G : AG} {Q : AQ} {x : Int} (hd : decode M.2.1 pc = .ok (.i2l, 1))  (k : Go d M (pc + 1) L (vJ x :: st) S F G Q) : Go d M pc L (vI x :: st) S F G Q := by
  refine go_step k (fun h0 h1 h2 => ⟨okS_c (by have := okS_h h1; simp only [okV, r32, r64] at *; omega) (okS_t h1), ?_⟩)
  intro p l e R s m args below meth c H locs cells slots Qs D ad ca tys A H0 ls hE _ _ _ _ _ hm hv hl kk
  exact lv_i2l hE.1 hE.2.1 hd (zi_j (okS_h h1)) kk
theorem go_l2i {d : Nat} {M : AM} {pc : Nat} {L : AL} {st : List AV} {S : AS} {F : AF} {G : AG} {Q : AQ} {x : Int} (hd : decode M.2.1 pc = .ok (.l2i, 1)) (hr : r32 x) (k : Go d M (pc + 1) L (vI x :: st) S F G Q) : Go d M pc L (vJ x :: st) S F G Q := by
  refine go_step k (fun h0 h1 h2 => ⟨okS_c hr (okS_t h1), ?_⟩)
  intro p l e R s m args below meth c H locs cells slots Qs D ad ca tys A H0 ls hE _ _ _ _ _ hm hv hl kk
  exact lv_l2i hE.1 hE.2.1 hd Int64.toInt32_ofInt kk
theorem go_lcmp {d : Nat} {M : AM} {pc : Nat} {L : AL} {st : List AV} {S : AS} {F : AF} {G : AG} {Q : AQ} {x y : Int} (hd : decode M.2.1 pc = .ok (.lcmp, 1))  (k : Go d M (pc + 1) L (vI (cmpJ x y) :: st) S F G Q) : Go d M pc L (vJ y :: vJ x :: st) S F G Q := by
  refine go_step k (fun h0 h1 h2 => ⟨okS_c (by simp only [okV, cmpJ]; split; omega; split <;> omega) (okS_t (okS_t h1)), ?_⟩)
  intro p l e R s m args below meth c H locs cells slots Qs D ad ca tys A H0 ls hE _ _ _ _ _ hm hv hl kk
  exact W.lcmp hE.1 hE.2.1 hd (by rw [zj_cmp (okS_h (okS_t h1)) (okS_h h1)]; exact kk)
theorem go_iconst {d : Nat} {M : AM} {pc : Nat} {L : AL} {st : List AV} {S : AS} {F : AF} {G : AG} {Q : AQ} {n : Int} (hd : decode M.2.1 pc = .ok (.iconst n, 1)) (hr : r32 n) (k : Go d M (pc + 1) L (vI n :: st) S F G Q) : Go d M pc L (st) S F G Q := by
  refine go_step k (fun h0 h1 h2 => ⟨okS_c hr h1, ?_⟩)
  intro p l e R s m args below meth c H locs cells slots Qs D ad ca tys A H0 ls hE _ _ _ _ _ hm hv hl kk
  exact lv_iconst hE.1 hE.2.1 hd rfl kk
theorem go_bipush {d : Nat} {M : AM} {pc : Nat} {L : AL} {st : List AV} {S : AS} {F : AF} {G : AG} {Q : AQ} {n : Int} (hd : decode M.2.1 pc = .ok (.bipush n, 2)) (hr : -128 ≤ n ∧ n < 128) (k : Go d M (pc + 2) L (vI n :: st) S F G Q) : Go d M pc L (st) S F G Q := by
  refine go_step k (fun h0 h1 h2 => ⟨okS_c (by simp only [okV, r32]; omega) h1, ?_⟩)
  intro p l e R s m args below meth c H locs cells slots Qs D ad ca tys A H0 ls hE _ _ _ _ _ hm hv hl kk
  exact lv_bipush hE.1 hE.2.1 hd (Int8.toInt32_ofInt (by have := Int8.toInt_minValue; omega) (by have := Int8.toInt_maxValue; omega)) kk
theorem go_sipush {d : Nat} {M : AM} {pc : Nat} {L : AL} {st : List AV} {S : AS} {F : AF} {G : AG} {Q : AQ} {n : Int} (hd : decode M.2.1 pc = .ok (.sipush n, 3)) (hr : -32768 ≤ n ∧ n < 32768) (k : Go d M (pc + 3) L (vI n :: st) S F G Q) : Go d M pc L (st) S F G Q := by
  refine go_step k (fun h0 h1 h2 => ⟨okS_c (by simp only [okV, r32]; omega) h1, ?_⟩)
  intro p l e R s m args below meth c H locs cells slots Qs D ad ca tys A H0 ls hE _ _ _ _ _ hm hv hl kk
  exact lv_sipush hE.1 hE.2.1 hd (Int16.toInt32_ofInt (by have := Int16.toInt_minValue; omega) (by have := Int16.toInt_maxValue; omega)) kk
theorem go_lconst {d : Nat} {M : AM} {pc : Nat} {L : AL} {st : List AV} {S : AS} {F : AF} {G : AG} {Q : AQ} {n : Fin 2} (hd : decode M.2.1 pc = .ok (.lconst n, 1))  (k : Go d M (pc + 1) L (vJ (n : Nat) :: st) S F G Q) : Go d M pc L (st) S F G Q := by
  refine go_step k (fun h0 h1 h2 => ⟨okS_c (by have := n.isLt; simp only [okV, r64]; omega) h1, ?_⟩)
  intro p l e R s m args below meth c H locs cells slots Qs D ad ca tys A H0 ls hE _ _ _ _ _ hm hv hl kk
  exact lv_lconst hE.1 hE.2.1 hd Int64.ofInt_eq_ofNat.symm kk
theorem go_dup1 {d : Nat} {M : AM} {pc : Nat} {L : AL} {st : List AV} {S : AS} {F : AF} {G : AG} {Q : AQ} {x : Int} (hd : decode M.2.1 pc = .ok (.dup, 1))  (k : Go d M (pc + 1) L (vI x :: vI x :: st) S F G Q) : Go d M pc L (vI x :: st) S F G Q := by
  refine go_step k (fun h0 h1 h2 => ⟨okS_c (okS_h h1) h1, ?_⟩)
  intro p l e R s m args below meth c H locs cells slots Qs D ad ca tys A H0 ls hE _ _ _ _ _ hm hv hl kk
  exact lv_dup hE.1 hE.2.1 hd rfl kk
theorem go_pop {d : Nat} {M : AM} {pc : Nat} {L : AL} {st : List AV} {S : AS} {F : AF} {G : AG} {Q : AQ} {x : Int} (hd : decode M.2.1 pc = .ok (.pop, 1))  (k : Go d M (pc + 1) L (st) S F G Q) : Go d M pc L (vI x :: st) S F G Q := by
  refine go_step k (fun h0 h1 h2 => ⟨okS_t h1, ?_⟩)
  intro p l e R s m args below meth c H locs cells slots Qs D ad ca tys A H0 ls hE _ _ _ _ _ hm hv hl kk
  exact lv_pop hE.1 hE.2.1 hd rfl kk
theorem go_dup {d : Nat} {M : AM} {pc : Nat} {L : AL} {st : List AV} {S : AS} {F : AF} {G : AG} {Q : AQ} {r : Nat} (hd : decode M.2.1 pc = .ok (.dup, 1))  (k : Go d M (pc + 1) L (vR r :: vR r :: st) S F G Q) : Go d M pc L (vR r :: st) S F G Q := by
  refine go_step k (fun h0 h1 h2 => ⟨okS_c (okS_h h1) h1, ?_⟩)
  intro p l e R s m args below meth c H locs cells slots Qs D ad ca tys A H0 ls hE _ _ _ _ _ hm hv hl kk
  exact lv_dup hE.1 hE.2.1 hd (by simp only [vt, rf]; split <;> rfl) kk
theorem go_dup2 {d : Nat} {M : AM} {pc : Nat} {L : AL} {st : List AV} {S : AS} {F : AF} {G : AG} {Q : AQ} {r : Nat} {x : Int} (hd : decode M.2.1 pc = .ok (.dup2, 1))  (k : Go d M (pc + 1) L (vI x :: vR r :: vI x :: vR r :: st) S F G Q) : Go d M pc L (vI x :: vR r :: st) S F G Q := by
  refine go_step k (fun h0 h1 h2 => ⟨okS_c (okS_h h1) (okS_c (okS_h (okS_t h1)) h1), ?_⟩)
  intro p l e R s m args below meth c H locs cells slots Qs D ad ca tys A H0 ls hE _ _ _ _ _ hm hv hl kk
  exact lv_dup2_11 hE.1 hE.2.1 hd rfl (by simp only [vt, rf]; split <;> rfl) kk
theorem go_dup2j {d : Nat} {M : AM} {pc : Nat} {L : AL} {st : List AV} {S : AS} {F : AF} {G : AG} {Q : AQ} {x : Int} (hd : decode M.2.1 pc = .ok (.dup2, 1))  (k : Go d M (pc + 1) L (vJ x :: vJ x :: st) S F G Q) : Go d M pc L (vJ x :: st) S F G Q := by
  refine go_step k (fun h0 h1 h2 => ⟨okS_c (okS_h h1) h1, ?_⟩)
  intro p l e R s m args below meth c H locs cells slots Qs D ad ca tys A H0 ls hE _ _ _ _ _ hm hv hl kk
  exact lv_dup2_2 hE.1 hE.2.1 hd rfl kk
theorem go_null {d : Nat} {M : AM} {pc : Nat} {L : AL} {st : List AV} {S : AS} {F : AF} {G : AG} {Q : AQ}  (hd : decode M.2.1 pc = .ok (.aconst_null, 1))  (k : Go d M (pc + 1) L (vR 0 :: st) S F G Q) : Go d M pc L (st) S F G Q := by
  refine go_step k (fun h0 h1 h2 => ⟨okS_c (Or.inl (Nat.zero_le _)) h1, ?_⟩)
  intro p l e R s m args below meth c H locs cells slots Qs D ad ca tys A H0 ls hE _ _ _ _ _ hm hv hl kk
  exact lv_null hE.1 hE.2.1 hd kk
theorem go_iload {d : Nat} {M : AM} {pc : Nat} {L : AL} {st : List AV} {S : AS} {F : AF} {G : AG} {Q : AQ} {i : Nat} {x : Int} (hd : decode M.2.1 pc = .ok (.iload i, 2)) (hi : L[i]? = some (some (vI x))) (k : Go d M (pc + 2) L (vI x :: st) S F G Q) : Go d M pc L (st) S F G Q := by
  refine go_step k (fun h0 h1 h2 => ⟨okS_c (h2 _ _ hi) h1, ?_⟩)
  intro p l e R s m args below meth c H locs cells slots Qs D ad ca tys A H0 ls hE _ _ _ _ _ hm hv hl kk
  exact lv_iload hE.1 hE.2.1 hd (hl.2.2 _ _ hi) kk
theorem go_iload_n {d : Nat} {M : AM} {pc : Nat} {L : AL} {st : List AV} {S : AS} {F : AF} {G : AG} {Q : AQ} {i : Fin 4} {x : Int} (hd : decode M.2.1 pc = .ok (.iload_n i, 1)) (hi : L[(i : Nat)]? = some (some (vI x))) (k : Go d M (pc + 1) L (vI x :: st) S F G Q) : Go d M pc L (st) S F G Q := by
  refine go_step k (fun h0 h1 h2 => ⟨okS_c (h2 _ _ hi) h1, ?_⟩)
  intro p l e R s m args below meth c H locs cells slots Qs D ad ca tys A H0 ls hE _ _ _ _ _ hm hv hl kk
  exact lv_iload_n hE.1 hE.2.1 hd rfl (hl.2.2 _ _ hi) kk
theorem go_lload {d : Nat} {M : AM} {pc : Nat} {L : AL} {st : List AV} {S : AS} {F : AF} {G : AG} {Q : AQ} {i : Nat} {x : Int} (hd : decode M.2.1 pc = .ok (.lload i, 2)) (hi : L[i]? = some (some (vJ x))) (k : Go d M (pc + 2) L (vJ x :: st) S F G Q) : Go d M pc L (st) S F G Q := by
  refine go_step k (fun h0 h1 h2 => ⟨okS_c (h2 _ _ hi) h1, ?_⟩)
  intro p l e R s m args below meth c H locs cells slots Qs D ad ca tys A H0 ls hE _ _ _ _ _ hm hv hl kk
  exact lv_lload hE.1 hE.2.1 hd (hl.2.2 _ _ hi) kk
theorem go_lload_n {d : Nat} {M : AM} {pc : Nat} {L : AL} {st : List AV} {S : AS} {F : AF} {G : AG} {Q : AQ} {i : Fin 4} {x : Int} (hd : decode M.2.1 pc = .ok (.lload_n i, 1)) (hi : L[(i : Nat)]? = some (some (vJ x))) (k : Go d M (pc + 1) L (vJ x :: st) S F G Q) : Go d M pc L (st) S F G Q := by
  refine go_step k (fun h0 h1 h2 => ⟨okS_c (h2 _ _ hi) h1, ?_⟩)
  intro p l e R s m args below meth c H locs cells slots Qs D ad ca tys A H0 ls hE _ _ _ _ _ hm hv hl kk
  exact lv_lload_n hE.1 hE.2.1 hd rfl (hl.2.2 _ _ hi) kk
theorem go_aload {d : Nat} {M : AM} {pc : Nat} {L : AL} {st : List AV} {S : AS} {F : AF} {G : AG} {Q : AQ} {i : Nat} {x : Nat} (hd : decode M.2.1 pc = .ok (.aload i, 2)) (hi : L[i]? = some (some (vR x))) (k : Go d M (pc + 2) L (vR x :: st) S F G Q) : Go d M pc L (st) S F G Q := by
  refine go_step k (fun h0 h1 h2 => ⟨okS_c (h2 _ _ hi) h1, ?_⟩)
  intro p l e R s m args below meth c H locs cells slots Qs D ad ca tys A H0 ls hE _ _ _ _ _ hm hv hl kk
  have h9 := hl.2.2 _ _ hi
  simp only [vt, rf] at h9
  simp only [List.map_cons, vt, rf] at kk
  split at h9
  · rw [if_pos (by assumption)] at kk
    exact lv_aloadN hE.1 hE.2.1 hd h9 kk
  · rw [if_neg (by assumption)] at kk
    exact lv_aload hE.1 hE.2.1 hd h9 kk
theorem go_aload_n {d : Nat} {M : AM} {pc : Nat} {L : AL} {st : List AV} {S : AS} {F : AF} {G : AG} {Q : AQ} {i : Fin 4} {x : Nat} (hd : decode M.2.1 pc = .ok (.aload_n i, 1)) (hi : L[(i : Nat)]? = some (some (vR x))) (k : Go d M (pc + 1) L (vR x :: st) S F G Q) : Go d M pc L (st) S F G Q := by
  refine go_step k (fun h0 h1 h2 => ⟨okS_c (h2 _ _ hi) h1, ?_⟩)
  intro p l e R s m args below meth c H locs cells slots Qs D ad ca tys A H0 ls hE _ _ _ _ _ hm hv hl kk
  have h9 := hl.2.2 _ _ hi
  simp only [vt, rf] at h9
  simp only [List.map_cons, vt, rf] at kk
  split at h9
  · rw [if_pos (by assumption)] at kk
    exact lv_aload_nN hE.1 hE.2.1 hd rfl h9 kk
  · rw [if_neg (by assumption)] at kk
    exact lv_aload_n hE.1 hE.2.1 hd rfl h9 kk
theorem go_ifeq {d : Nat} {M : AM} {pc : Nat} {L : AL} {st : List AV} {S : AS} {F : AF} {G : AG} {Q : AQ} {x : Int} {off : Int} {tgt : Nat} (hd : decode M.2.1 pc = .ok (.ifCond .eq off, 3)) (ht : (pc : Int) + off = (tgt : Int)) (kt : x = 0 → Go d M tgt L st S F G Q) (kf : ¬ x = 0 → Go d M (pc + 3) L st S F G Q) : Go d M pc L (vI x :: st) S F G Q := by
  by_cases hc : x = 0
  · refine go_step (kt hc) (fun h0 h1 h2 => ⟨okS_t h1, ?_⟩)
    intro p l e R s m args below meth c H locs cells slots Qs D ad ca tys A H0 ls hE _ _ _ _ _ hm hv hl kk
    exact lv_if_eq hE.1 hE.2.1 hd ht (fun _ => kk) (fun q => absurd hc (fun z => q ((zi_eq (okS_h h1) zr0).mpr z)))
  · refine go_step (kf (by omega)) (fun h0 h1 h2 => ⟨okS_t h1, ?_⟩)
    intro p l e R s m args below meth c H locs cells slots Qs D ad ca tys A H0 ls hE _ _ _ _ _ hm hv hl kk
    exact lv_if_eq hE.1 hE.2.1 hd ht (fun q => absurd ((zi_eq (okS_h h1) zr0).mp q) hc) (fun _ => kk)
theorem go_ifne {d : Nat} {M : AM} {pc : Nat} {L : AL} {st : List AV} {S : AS} {F : AF} {G : AG} {Q : AQ} {x : Int} {off : Int} {tgt : Nat} (hd : decode M.2.1 pc = .ok (.ifCond .ne off, 3)) (ht : (pc : Int) + off = (tgt : Int)) (kt : ¬ x = 0 → Go d M tgt L st S F G Q) (kf : x = 0 → Go d M (pc + 3) L st S F G Q) : Go d M pc L (vI x :: st) S F G Q := by
  by_cases hc : ¬ x = 0
  · refine go_step (kt hc) (fun h0 h1 h2 => ⟨okS_t h1, ?_⟩)
    intro p l e R s m args below meth c H locs cells slots Qs D ad ca tys A H0 ls hE _ _ _ _ _ hm hv hl kk
    exact lv_if_ne hE.1 hE.2.1 hd ht (fun _ => kk) (fun q => absurd ((zi_eq (okS_h h1) zr0).mp q) hc)
  · refine go_step (kf (by omega)) (fun h0 h1 h2 => ⟨okS_t h1, ?_⟩)
    intro p l e R s m args below meth c H locs cells slots Qs D ad ca tys A H0 ls hE _ _ _ _ _ hm hv hl kk
    exact lv_if_ne hE.1 hE.2.1 hd ht (fun q => absurd (by omega : x = 0) (fun z => q ((zi_eq (okS_h h1) zr0).mpr z))) (fun _ => kk)
theorem go_iflt {d : Nat} {M : AM} {pc : Nat} {L : AL} {st : List AV} {S : AS} {F : AF} {G : AG} {Q : AQ} {x : Int} {off : Int} {tgt : Nat} (hd : decode M.2.1 pc = .ok (.ifCond .lt off, 3)) (ht : (pc : Int) + off = (tgt : Int)) (kt : x < 0 → Go d M tgt L st S F G Q) (kf : ¬ x < 0 → Go d M (pc + 3) L st S F G Q) : Go d M pc L (vI x :: st) S F G Q := by
  by_cases hc : x < 0
  · refine go_step (kt hc) (fun h0 h1 h2 => ⟨okS_t h1, ?_⟩)
    intro p l e R s m args below meth c H locs cells slots Qs D ad ca tys A H0 ls hE _ _ _ _ _ hm hv hl kk
    exact lv_if_lt hE.1 hE.2.1 hd ht (fun _ => kk) (fun q => absurd hc (fun z => q ((zi_lt (okS_h h1) zr0).mpr z)))
  · refine go_step (kf (by omega)) (fun h0 h1 h2 => ⟨okS_t h1, ?_⟩)
    intro p l e R s m args below meth c H locs cells slots Qs D ad ca tys A H0 ls hE _ _ _ _ _ hm hv hl kk
    exact lv_if_lt hE.1 hE.2.1 hd ht (fun q => absurd ((zi_lt (okS_h h1) zr0).mp q) hc) (fun _ => kk)
theorem go_ifge {d : Nat} {M : AM} {pc : Nat} {L : AL} {st : List AV} {S : AS} {F : AF} {G : AG} {Q : AQ} {x : Int} {off : Int} {tgt : Nat} (hd : decode M.2.1 pc = .ok (.ifCond .ge off, 3)) (ht : (pc : Int) + off = (tgt : Int)) (kt : 0 ≤ x → Go d M tgt L st S F G Q) (kf : ¬ 0 ≤ x → Go d M (pc + 3) L st S F G Q) : Go d M pc L (vI x :: st) S F G Q := by
  by_cases hc : 0 ≤ x
  · refine go_step (kt hc) (fun h0 h1 h2 => ⟨okS_t h1, ?_⟩)
    intro p l e R s m args below meth c H locs cells slots Qs D ad ca tys A H0 ls hE _ _ _ _ _ hm hv hl kk
    exact lv_if_ge hE.1 hE.2.1 hd ht (fun _ => kk) (fun q => absurd hc (fun z => q ((zi_le zr0 (okS_h h1)).mpr z)))
  · refine go_step (kf (by omega)) (fun h0 h1 h2 => ⟨okS_t h1, ?_⟩)
    intro p l e R s m args below meth c H locs cells slots Qs D ad ca tys A H0 ls hE _ _ _ _ _ hm hv hl kk
    exact lv_if_ge hE.1 hE.2.1 hd ht (fun q => absurd ((zi_le zr0 (okS_h h1)).mp q) hc) (fun _ => kk)
theorem go_ifgt {d : Nat} {M : AM} {pc : Nat} {L : AL} {st : List AV} {S : AS} {F : AF} {G : AG} {Q : AQ} {x : Int} {off : Int} {tgt : Nat} (hd : decode M.2.1 pc = .ok (.ifCond .gt off, 3)) (ht : (pc : Int) + off = (tgt : Int)) (kt : 0 < x → Go d M tgt L st S F G Q) (kf : ¬ 0 < x → Go d M (pc + 3) L st S F G Q) : Go d M pc L (vI x :: st) S F G Q := by
  by_cases hc : 0 < x
  · refine go_step (kt hc) (fun h0 h1 h2 => ⟨okS_t h1, ?_⟩)
    intro p l e R s m args below meth c H locs cells slots Qs D ad ca tys A H0 ls hE _ _ _ _ _ hm hv hl kk
    exact lv_if_gt hE.1 hE.2.1 hd ht (fun _ => kk) (fun q => absurd hc (fun z => q ((zi_lt zr0 (okS_h h1)).mpr z)))
  · refine go_step (kf (by omega)) (fun h0 h1 h2 => ⟨okS_t h1, ?_⟩)
    intro p l e R s m args below meth c H locs cells slots Qs D ad ca tys A H0 ls hE _ _ _ _ _ hm hv hl kk
    exact lv_if_gt hE.1 hE.2.1 hd ht (fun q => absurd ((zi_lt zr0 (okS_h h1)).mp q) hc) (fun _ => kk)
theorem go_ifle {d : Nat} {M : AM} {pc : Nat} {L : AL} {st : List AV} {S : AS} {F : AF} {G : AG} {Q : AQ} {x : Int} {off : Int} {tgt : Nat} (hd : decode M.2.1 pc = .ok (.ifCond .le off, 3)) (ht : (pc : Int) + off = (tgt : Int)) (kt : x ≤ 0 → Go d M tgt L st S F G Q) (kf : ¬ x ≤ 0 → Go d M (pc + 3) L st S F G Q) : Go d M pc L (vI x :: st) S F G Q := by
  by_cases hc : x ≤ 0
  · refine go_step (kt hc) (fun h0 h1 h2 => ⟨okS_t h1, ?_⟩)
    intro p l e R s m args below meth c H locs cells slots Qs D ad ca tys A H0 ls hE _ _ _ _ _ hm hv hl kk
    exact lv_if_le hE.1 hE.2.1 hd ht (fun _ => kk) (fun q => absurd hc (fun z => q ((zi_le (okS_h h1) zr0).mpr z)))
  · refine go_step (kf (by omega)) (fun h0 h1 h2 => ⟨okS_t h1, ?_⟩)
    intro p l e R s m args below meth c H locs cells slots Qs D ad ca tys A H0 ls hE _ _ _ _ _ hm hv hl kk
    exact lv_if_le hE.1 hE.2.1 hd ht (fun q => absurd ((zi_le (okS_h h1) zr0).mp q) hc) (fun _ => kk)
theorem go_icmpeq {d : Nat} {M : AM} {pc : Nat} {L : AL} {st : List AV} {S : AS} {F : AF} {G : AG} {Q : AQ} {x y : Int} {off : Int} {tgt : Nat} (hd : decode M.2.1 pc = .ok (.if_icmp .eq off, 3)) (ht : (pc : Int) + off = (tgt : Int)) (kt : x = y → Go d M tgt L st S F G Q) (kf : ¬ x = y → Go d M (pc + 3) L st S F G Q) : Go d M pc L (vI y :: vI x :: st) S F G Q := by
  by_cases hc : x = y
  · refine go_step (kt hc) (fun h0 h1 h2 => ⟨okS_t (okS_t h1), ?_⟩)
    intro p l e R s m args below meth c H locs cells slots Qs D ad ca tys A H0 ls hE _ _ _ _ _ hm hv hl kk
    exact lv_icmp_eq hE.1 hE.2.1 hd ht (fun _ => kk) (fun q => absurd hc (fun z => q ((zi_eq (okS_h (okS_t h1)) (okS_h h1)).mpr z)))
  · refine go_step (kf (by omega)) (fun h0 h1 h2 => ⟨okS_t (okS_t h1), ?_⟩)
    intro p l e R s m args below meth c H locs cells slots Qs D ad ca tys A H0 ls hE _ _ _ _ _ hm hv hl kk
    exact lv_icmp_eq hE.1 hE.2.1 hd ht (fun q => absurd ((zi_eq (okS_h (okS_t h1)) (okS_h h1)).mp q) hc) (fun _ => kk)
theorem go_icmpne {d : Nat} {M : AM} {pc : Nat} {L : AL} {st : List AV} {S : AS} {F : AF} {G : AG} {Q : AQ} {x y : Int} {off : Int} {tgt : Nat} (hd : decode M.2.1 pc = .ok (.if_icmp .ne off, 3)) (ht : (pc : Int) + off = (tgt : Int)) (kt : ¬ x = y → Go d M tgt L st S F G Q) (kf : x = y → Go d M (pc + 3) L st S F G Q) : Go d M pc L (vI y :: vI x :: st) S F G Q := by
  by_cases hc : ¬ x = y
  · refine go_step (kt hc) (fun h0 h1 h2 => ⟨okS_t (okS_t h1), ?_⟩)
    intro p l e R s m args below meth c H locs cells slots Qs D ad ca tys A H0 ls hE _ _ _ _ _ hm hv hl kk
    exact lv_icmp_ne hE.1 hE.2.1 hd ht (fun _ => kk) (fun q => absurd ((zi_eq (okS_h (okS_t h1)) (okS_h h1)).mp q) hc)
  · refine go_step (kf (by omega)) (fun h0 h1 h2 => ⟨okS_t (okS_t h1), ?_⟩)
    intro p l e R s m args below meth c H locs cells slots Qs D ad ca tys A H0 ls hE _ _ _ _ _ hm hv hl kk
    exact lv_icmp_ne hE.1 hE.2.1 hd ht (fun q => absurd (by omega : x = y) (fun z => q ((zi_eq (okS_h (okS_t h1)) (okS_h h1)).mpr z))) (fun _ => kk)
theorem go_icmplt {d : Nat} {M : AM} {pc : Nat} {L : AL} {st : List AV} {S : AS} {F : AF} {G : AG} {Q : AQ} {x y : Int} {off : Int} {tgt : Nat} (hd : decode M.2.1 pc = .ok (.if_icmp .lt off, 3)) (ht : (pc : Int) + off = (tgt : Int)) (kt : x < y → Go d M tgt L st S F G Q) (kf : ¬ x < y → Go d M (pc + 3) L st S F G Q) : Go d M pc L (vI y :: vI x :: st) S F G Q := by
  by_cases hc : x < y
  · refine go_step (kt hc) (fun h0 h1 h2 => ⟨okS_t (okS_t h1), ?_⟩)
    intro p l e R s m args below meth c H locs cells slots Qs D ad ca tys A H0 ls hE _ _ _ _ _ hm hv hl kk
    exact lv_icmp_lt hE.1 hE.2.1 hd ht (fun _ => kk) (fun q => absurd hc (fun z => q ((zi_lt (okS_h (okS_t h1)) (okS_h h1)).mpr z)))
  · refine go_step (kf (by omega)) (fun h0 h1 h2 => ⟨okS_t (okS_t h1), ?_⟩)
    intro p l e R s m args below meth c H locs cells slots Qs D ad ca tys A H0 ls hE _ _ _ _ _ hm hv hl kk
    exact lv_icmp_lt hE.1 hE.2.1 hd ht (fun q => absurd ((zi_lt (okS_h (okS_t h1)) (okS_h h1)).mp q) hc) (fun _ => kk)
theorem go_icmpge {d : Nat} {M : AM} {pc : Nat} {L : AL} {st : List AV} {S : AS} {F : AF} {G : AG} {Q : AQ} {x y : Int} {off : Int} {tgt : Nat} (hd : decode M.2.1 pc = .ok (.if_icmp .ge off, 3)) (ht : (pc : Int) + off = (tgt : Int)) (kt : y ≤ x → Go d M tgt L st S F G Q) (kf : ¬ y ≤ x → Go d M (pc + 3) L st S F G Q) : Go d M pc L (vI y :: vI x :: st) S F G Q := by
  by_cases hc : y ≤ x
  · refine go_step (kt hc) (fun h0 h1 h2 => ⟨okS_t (okS_t h1), ?_⟩)
    intro p l e R s m args below meth c H locs cells slots Qs D ad ca tys A H0 ls hE _ _ _ _ _ hm hv hl kk
    exact lv_icmp_ge hE.1 hE.2.1 hd ht (fun _ => kk) (fun q => absurd hc (fun z => q ((zi_le (okS_h h1) (okS_h (okS_t h1))).mpr z)))
  · refine go_step (kf (by omega)) (fun h0 h1 h2 => ⟨okS_t (okS_t h1), ?_⟩)
    intro p l e R s m args below meth c H locs cells slots Qs D ad ca tys A H0 ls hE _ _ _ _ _ hm hv hl kk
    exact lv_icmp_ge hE.1 hE.2.1 hd ht (fun q => absurd ((zi_le (okS_h h1) (okS_h (okS_t h1))).mp q) hc) (fun _ => kk)
theorem go_icmpgt {d : Nat} {M : AM} {pc : Nat} {L : AL} {st : List AV} {S : AS} {F : AF} {G : AG} {Q : AQ} {x y : Int} {off : Int} {tgt : Nat} (hd : decode M.2.1 pc = .ok (.if_icmp .gt off, 3)) (ht : (pc : Int) + off = (tgt : Int)) (kt : y < x → Go d M tgt L st S F G Q) (kf : ¬ y < x → Go d M (pc + 3) L st S F G Q) : Go d M pc L (vI y :: vI x :: st) S F G Q := by
  by_cases hc : y < x
  · refine go_step (kt hc) (fun h0 h1 h2 => ⟨okS_t (okS_t h1), ?_⟩)
    intro p l e R s m args below meth c H locs cells slots Qs D ad ca tys A H0 ls hE _ _ _ _ _ hm hv hl kk
    exact lv_icmp_gt hE.1 hE.2.1 hd ht (fun _ => kk) (fun q => absurd hc (fun z => q ((zi_lt (okS_h h1) (okS_h (okS_t h1))).mpr z)))
  · refine go_step (kf (by omega)) (fun h0 h1 h2 => ⟨okS_t (okS_t h1), ?_⟩)
    intro p l e R s m args below meth c H locs cells slots Qs D ad ca tys A H0 ls hE _ _ _ _ _ hm hv hl kk
    exact lv_icmp_gt hE.1 hE.2.1 hd ht (fun q => absurd ((zi_lt (okS_h h1) (okS_h (okS_t h1))).mp q) hc) (fun _ => kk)
theorem go_icmple {d : Nat} {M : AM} {pc : Nat} {L : AL} {st : List AV} {S : AS} {F : AF} {G : AG} {Q : AQ} {x y : Int} {off : Int} {tgt : Nat} (hd : decode M.2.1 pc = .ok (.if_icmp .le off, 3)) (ht : (pc : Int) + off = (tgt : Int)) (kt : x ≤ y → Go d M tgt L st S F G Q) (kf : ¬ x ≤ y → Go d M (pc + 3) L st S F G Q) : Go d M pc L (vI y :: vI x :: st) S F G Q := by
  by_cases hc : x ≤ y
  · refine go_step (kt hc) (fun h0 h1 h2 => ⟨okS_t (okS_t h1), ?_⟩)
    intro p l e R s m args below meth c H locs cells slots Qs D ad ca tys A H0 ls hE _ _ _ _ _ hm hv hl kk
    exact lv_icmp_le hE.1 hE.2.1 hd ht (fun _ => kk) (fun q => absurd hc (fun z => q ((zi_le (okS_h (okS_t h1)) (okS_h h1)).mpr z)))
  · refine go_step (kf (by omega)) (fun h0 h1 h2 => ⟨okS_t (okS_t h1), ?_⟩)
    intro p l e R s m args below meth c H locs cells slots Qs D ad ca tys A H0 ls hE _ _ _ _ _ hm hv hl kk
    exact lv_icmp_le hE.1 hE.2.1 hd ht (fun q => absurd ((zi_le (okS_h (okS_t h1)) (okS_h h1)).mp q) hc) (fun _ => kk)
theorem go_goto {d : Nat} {M : AM} {pc : Nat} {L : AL} {st : List AV} {S : AS} {F : AF} {G : AG} {Q : AQ} {off : Int} {tgt : Nat} (hd : decode M.2.1 pc = .ok (.goto off, 3)) (ht : (pc : Int) + off = (tgt : Int)) (k : Go d M tgt L st S F G Q) : Go d M pc L st S F G Q := by
  refine go_step k (fun h0 h1 h2 => ⟨h1, ?_⟩)
  intro p l e R s m args below meth c H locs cells slots Qs D ad ca tys A H0 ls hE _ _ _ _ _ hm hv hl kk
  exact lv_goto hE.1 hE.2.1 hd ht kk
theorem go_ifnull {d : Nat} {M : AM} {pc : Nat} {L : AL} {st : List AV} {S : AS} {F : AF} {G : AG} {Q : AQ} {x : Nat} {off : Int} {tgt : Nat} (hd : decode M.2.1 pc = .ok (.ifnull off, 3)) (ht : (pc : Int) + off = (tgt : Int)) (kt : x = 0 → Go d M tgt L st S F G Q) (kf : ¬ x = 0 → Go d M (pc + 3) L st S F G Q) : Go d M pc L (vR x :: st) S F G Q := by
  by_cases hc : x = 0
  · refine go_step (kt hc) (fun h0 h1 h2 => ⟨okS_t h1, ?_⟩)
    intro p l e R s m args below meth c H locs cells slots Qs D ad ca tys A H0 ls hE _ _ _ _ _ hm hv hl kk
    simp only [List.map_cons, vt, rf, if_pos hc]
    exact lv_ifnullN hE.1 hE.2.1 hd ht kk
  · refine go_step (kf hc) (fun h0 h1 h2 => ⟨okS_t h1, ?_⟩)
    intro p l e R s m args below meth c H locs cells slots Qs D ad ca tys A H0 ls hE _ _ _ _ _ hm hv hl kk
    simp only [List.map_cons, vt, rf, if_neg hc]
    exact lv_ifnull hE.1 hE.2.1 hd kk
theorem go_ifnonnull {d : Nat} {M : AM} {pc : Nat} {L : AL} {st : List AV} {S : AS} {F : AF} {G : AG} {Q : AQ} {x : Nat} {off : Int} {tgt : Nat} (hd : decode M.2.1 pc = .ok (.ifnonnull off, 3)) (ht : (pc : Int) + off = (tgt : Int)) (kt : ¬ x = 0 → Go d M tgt L st S F G Q) (kf : x = 0 → Go d M (pc + 3) L st S F G Q) : Go d M pc L (vR x :: st) S F G Q := by
  by_cases hc : x = 0
  · refine go_step (kf hc) (fun h0 h1 h2 => ⟨okS_t h1, ?_⟩)
    intro p l e R s m args below meth c H locs cells slots Qs D ad ca tys A H0 ls hE _ _ _ _ _ hm hv hl kk
    simp only [List.map_cons, vt, rf, if_pos hc]
    exact lv_ifnonnullN hE.1 hE.2.1 hd kk
  · refine go_step (kt hc) (fun h0 h1 h2 => ⟨okS_t h1, ?_⟩)
    intro p l e R s m args below meth c H locs cells slots Qs D ad ca tys A H0 ls hE _ _ _ _ _ hm hv hl kk
    simp only [List.map_cons, vt, rf, if_neg hc]
    exact lv_ifnonnull hE.1 hE.2.1 hd ht kk
