/-! A MACHINE OF WHOLE NUMBERS over the kit's worlds. A value: an int, a long (whole numbers, held to their range), a reference (a cell's number; 0: null; 999999: the script). A heap: its shape S (how many cells, slots in all, the script's length; kind and length of each cell; its references; the script), the fields F of its objects, the elements G of its arrays. Kinds 0 to 10: objects; 20 int[], 21 long[], 22 byte[], 23 boolean[], 24, 25 rows of references; 99: no cell. -/
abbrev AV : Type := Int ⊕ (Int ⊕ Nat)
abbrev AL : Type := List (Option AV)
abbrev AS : Type := (Nat × Nat × Nat) × ((Nat → Nat) × (Nat → Nat)) × ((Nat → Nat → Nat) × (Int → Int))
abbrev AF : Type := Nat → Nat → Int
abbrev AG : Type := Nat → Int → Int
abbrev vI (z : Int) : AV := .inl z
abbrev vJ (z : Int) : AV := .inr (.inl z)
abbrev vR (r : Nat) : AV := .inr (.inr r)
def sn (S : AS) : Nat := S.1.1
def ss (S : AS) : Nat := S.1.2.1
def sL (S : AS) : Nat := S.1.2.2
def sK (S : AS) : Nat → Nat := S.2.1.1
def sN (S : AS) : Nat → Nat := S.2.1.2
def sR (S : AS) : Nat → Nat → Nat := S.2.2.1
def sx (S : AS) : Int → Int := S.2.2.2
abbrev r32 (z : Int) : Prop := -2147483648 ≤ z ∧ z < 2147483648
abbrev r64 (z : Int) : Prop := -9223372036854775808 ≤ z ∧ z < 9223372036854775808
def rf (ad : Nat → Nat) (r : Nat) : Option Nat := if r = 0 then none else some (ad r)
def vt (ad : Nat → Nat) (v : AV) : Value := match v with
  | .inl z => .int (Int32.ofInt z)
  | .inr (.inl z) => .long (Int64.ofInt z)
  | .inr (.inr r) => va_rf (rf ad r)
def okV (n : Nat) (v : AV) : Prop := match v with
  | .inl z => r32 z
  | .inr (.inl z) => r64 z
  | .inr (.inr r) => r ≤ n ∨ 999999 ≤ r
def fkOf (t : FieldType) : Nat := match t with
  | .long => 1
  | .object _ => 2
  | .array _ => 2
  | .boolean => 3
  | _ => 0
def fk (c k : Nat) : Nat := fkOf (cty c k)
def fv (ad : Nat → Nat) (t : Nat) (z : Int) (r : Nat) : Value := match t with
  | 1 => .long (Int64.ofInt z)
  | 2 => va_rf (rf ad r)
  | _ => .int (Int32.ofInt z)
def okF (t : Nat) (z : Int) : Prop := match t with
  | 1 => r64 z
  | 2 => True
  | 3 => z = 0 ∨ z = 1
  | _ => r32 z
def okA (K : Nat) (z : Int) : Prop := if K = 21 then r64 z else if K = 22 then (-128 ≤ z ∧ z < 128) else if K = 23 then (z = 0 ∨ z = 1) else r32 z
def aty (K : Nat) : FieldType := if K = 20 then .int else if K = 21 then .long else if K = 22 then .byte else if K = 23 then .boolean else if K = 24 then .object "StockGrid$Zone" else .object "StockGrid$Saved"
/-- a cell of the world -/
def ce (ad : Nat → Nat) (ca : Nat → ClassId) (S : AS) (F : AF) (G : AG) (c : Nat) : va_E :=
  if sK S c < 11 then .inr (sK S c, (List.range (cN (sK S c))).map (fun k => fv ad (fk (sK S c) k) (F c k) (sR S c k)))
  else if sK S c = 21 then .inl (ca c, sN S c, .inr (.inl (fun j => Int64.ofInt (G c j))))
  else if sK S c = 24 ∨ sK S c = 25 then .inl (ca c, sN S c, .inr (.inr (.inr (.inr (fun j => rf ad (sR S c j))))))
  else .inl (ca c, sN S c, .inl (fun j => Int32.ofInt (G c j)))
def wl (ad : Nat → Nat) (ca : Nat → ClassId) (S : AS) (F : AF) (G : AG) : va_W := (List.range (sn S)).map (fun i => (ad (i + 1), ce ad ca S F G (i + 1)))
/-- numbers in their ranges, references to cells -/
def RG (S : AS) (F : AF) (G : AG) : Prop :=
  (∀ c : Nat, c = 0 ∨ sn S < c → sK S c = 99) ∧ (∀ c, 1 ≤ c → c ≤ sn S → (sK S c < 11 ∨ (20 ≤ sK S c ∧ sK S c ≤ 25)) ∧ (sK S c < 11 → ∀ k, okF (fk (sK S c) k) (F c k)) ∧ (20 ≤ sK S c → ∀ j, okA (sK S c) (G c j)) ∧ sN S c < 2147483648) ∧ (∀ c k, sR S c k ≤ sn S) ∧ (∀ j, r32 (sx S j)) ∧ sL S < 2147483648 ∧ sn S < 999999
def fu (F : AF) (c k : Nat) (z : Int) : AF := fun a b => if a = c ∧ b = k then z else F a b
def gu (G : AG) (c : Nat) (i : Int) (z : Int) : AG := fun a b => if a = c ∧ b = i then z else G a b
def ru (S : AS) (c k r : Nat) : AS := (S.1, S.2.1, (fun a b => if a = c ∧ b = k then r else sR S a b), sx S)
/-- locals: their slots -/
def zLS (ad : Nat → Nat) (ls : Array Slot) (nL : Nat) (L : AL) : Prop := ls.size = nL ∧ lv_wf ls ∧ ∀ (i : Nat) (v : AV), L[i]? = some (some v) → ls[i]? = some (.val (vt ad v))
def okL (n : Nat) (L : AL) : Prop := ∀ (i : Nat) (v : AV), L[i]? = some (some v) → okV n v
def okS (n : Nat) (st : List AV) : Prop := ∀ v ∈ st, okV n v
def isJ (v : Option AV) : Bool := match v with
  | some (.inr (.inl _)) => true
  | _ => false
def stL (L : AL) (i : Nat) (v : AV) : AL := (bif (Nat.blt 0 i && isJ (L.getD (i - 1) none)) then L.set (i - 1) none else L).set i (some v)
def stJ (L : AL) (i : Nat) (v : AV) : AL := (stL L i v).set (i + 1) none
/-- the world holds the heap -/
def Sm (D : va_G) (ad : Nat → Nat) (ca : Nat → ClassId) (tys : List (ClassId × FieldType)) (S : AS) (F : AF) (G : AG) (A : Nat → Prop) (H : Heap) (s : State) : Prop :=
  va_K D cls tys s ∧ va_P D cls (wl ad ca S F G) H ∧ va_D A (wl ad ca S F G) ∧ ∀ c, 1 ≤ c → c ≤ sn S → 20 ≤ sK S c → ∃ t0 : Nat, tys[t0]? = some (ca c, aty (sK S c))
/-- addresses that stay -/
def Ex (ad ad1 : Nat → Nat) (n n1 : Nat) : Prop := ∀ k, k ≤ n ∨ n1 < k → ad1 k = ad k
theorem ex_refl {ad : Nat → Nat} {n n1 : Nat} : Ex ad ad n n1 := fun _ _ => rfl
theorem ex_trans {a b c : Nat → Nat} {n n1 n2 : Nat} (h1 : Ex a b n n1) (h2 : Ex b c n1 n2) (hn : n ≤ n1) (hn2 : n1 ≤ n2) : Ex a c n n2 := by
  intro k hk
  rw [h2 k (by omega), h1 k (by omega)]
theorem ex_vt {ad ad1 : Nat → Nat} {n n1 : Nat} (h : Ex ad ad1 n n1) (hn : n1 < 999999) {v : AV} (hv : okV n v) : vt ad1 v = vt ad v := by
  match v, hv with
  | .inl z, _ => rfl
  | .inr (.inl z), _ => rfl
  | .inr (.inr r), hv =>
    have e : ad1 r = ad r := h r (by
      rcases hv with h | h
      · exact Or.inl h
      · exact Or.inr (by omega))
    simp only [vt, rf, e]
theorem ex_st {ad ad1 : Nat → Nat} {n n1 : Nat} (h : Ex ad ad1 n n1) (hn : n1 < 999999) {st : List AV} (hv : okS n st) : st.map (vt ad1) = st.map (vt ad) :=
  List.map_congr_left (fun v hm => ex_vt h hn (hv v hm))
theorem ex_ls {ad ad1 : Nat → Nat} {n n1 nL : Nat} (h : Ex ad ad1 n n1) (hn : n1 < 999999) {ls : Array Slot} {L : AL} (hv : okL n L) (hl : zLS ad ls nL L) : zLS ad1 ls nL L :=
  ⟨hl.1, hl.2.1, fun i v hi => by rw [ex_vt h hn (hv i v hi)]; exact hl.2.2 i v hi⟩
theorem okV_up {n n1 : Nat} (h : n ≤ n1) {v : AV} (hv : okV n v) : okV n1 v := by
  match v, hv with
  | .inl z, hv => exact hv
  | .inr (.inl z), hv => exact hv
  | .inr (.inr r), hv => exact hv.elim (fun q => Or.inl (Nat.le_trans q h)) Or.inr
theorem okS_up {n n1 : Nat} (h : n ≤ n1) {st : List AV} (hv : okS n st) : okS n1 st := fun v hm => okV_up h (hv v hm)
theorem okL_up {n n1 : Nat} (h : n ≤ n1) {L : AL} (hv : okL n L) : okL n1 L := fun i v hi => okV_up h (hv i v hi)
theorem okS_c {n : Nat} {v : AV} {st : List AV} (hv : okV n v) (h : okS n st) : okS n (v :: st) := fun u hu => (List.mem_cons.mp hu).elim (fun e => e ▸ hv) (h u)
theorem okS_h {n : Nat} {v : AV} {st : List AV} (h : okS n (v :: st)) : okV n v := h v List.mem_cons_self
theorem okS_t {n : Nat} {v : AV} {st : List AV} (h : okS n (v :: st)) : okS n st := fun u hu => h u (List.mem_cons_of_mem _ hu)
theorem wl_at {ad : Nat → Nat} {ca : Nat → ClassId} {S : AS} {F : AF} {G : AG} {c : Nat} (h1 : 1 ≤ c) (h2 : c ≤ sn S) : (wl ad ca S F G)[c - 1]? = some (ad c, ce ad ca S F G c) := by
  obtain ⟨i, rfl⟩ : ∃ i, c = i + 1 := ⟨c - 1, by omega⟩
  have hi : i < sn S := by omega
  simp [wl, hi]
theorem wl_len {ad : Nat → Nat} {ca : Nat → ClassId} {S : AS} {F : AF} {G : AG} : (wl ad ca S F G).length = sn S := by simp [wl]
/-- one cell changes -/
theorem wl_set {ad : Nat → Nat} {ca : Nat → ClassId} {S S' : AS} {F F' : AF} {G G' : AG} {c : Nat} (h1 : 1 ≤ c) (h2 : c ≤ sn S) (hn : sn S' = sn S) {x : va_E} (hx : ce ad ca S' F' G' c = x) (ho : ∀ b, b ≠ c → ce ad ca S' F' G' b = ce ad ca S F G b) : (wl ad ca S F G).set (c - 1) (ad c, x) = wl ad ca S' F' G' := by
  obtain ⟨i, rfl⟩ : ∃ i, c = i + 1 := ⟨c - 1, by omega⟩
  apply List.ext_getElem?
  intro j
  rw [Nat.add_sub_cancel]
  by_cases hj : j = i
  · subst hj
    have hjl : j < (wl ad ca S F G).length := by rw [wl_len]; omega
    rw [List.getElem?_set_self hjl]
    have := wl_at (ad := ad) (ca := ca) (S := S') (F := F') (G := G') (c := j + 1) (by omega) (by omega)
    rw [Nat.add_sub_cancel] at this
    rw [this, hx]
  · rw [List.getElem?_set_ne (fun e => hj e.symm)]
    by_cases hl : j < sn S
    · have e1 := wl_at (ad := ad) (ca := ca) (S := S') (F := F') (G := G') (c := j + 1) (by omega) (by omega)
      have e2 := wl_at (ad := ad) (ca := ca) (S := S) (F := F) (G := G) (c := j + 1) (by omega) (by omega)
      rw [Nat.add_sub_cancel] at e1 e2
      rw [e1, e2, ho (j + 1) (by omega)]
    · rw [List.getElem?_eq_none (by rw [wl_len]; omega), List.getElem?_eq_none (by rw [wl_len]; omega)]
/-- a method: its name, code, locals, answer; and its words -/
def wsM (y : MethodName) (b : ByteArray) (n : Nat) (r : Option FieldType) : List Cond := .code y b n r :: lw_good
/-- words on nest mates and rows of references, which the tables' words that are kept don't hold -/
def nestL : List (String × Nat × MethodName) := [(RX9, 11, yX7_init), (RX2, 11, yX0_init), (RX0, 11, yX1_init), (RX2, 23, yX3_init), (RX2, 47, yX8_init), (RX8, 9, yX3_init), (RX7, 20, yX3_init), (RX9, 23, yX6_init), (RX9, 30, yX5_init), (RX9, 37, yX3_init), (RX2, 141, yX4_init)]
def zNw (s : State) : Prop := (∀ q ∈ nestL, va_Nw (.methodLinkNest q.1 q.2.1 q.2.2 "StockGrid") s) ∧ va_AO "StockGrid$Zone" s ∧ va_AO "StockGrid$Saved" s
theorem zNw_warm {s U : State} (hW : s.WarmedH U.vm) (h : zNw s) : zNw U := ⟨fun q hq => va_Nw.warmM hW (h.1 q hq), va_AO.moved hW.alike h.2.1, va_AO.moved hW.alike h.2.2⟩
theorem zNw_same {u U : State} (hv : u.vm = U.vm) (h : zNw u) : zNw U := ⟨fun q hq => va_Nw.same rfl hv (h.1 q hq), va_AO.moved (by rw [hv]; exact Vm.Alike.refl _) h.2.1, va_AO.moved (by rw [hv]; exact Vm.Alike.refl _) h.2.2⟩
/-! STRINGS: those of the class file, by their place i < 6: the String is the reference 1000000 + 2i, its bytes 1000001 + 2i -/
def ownS (i : Nat) : String := if i < 5 then "StockGrid$Script" else "StockGridModel"
def idxS (i : Nat) : Nat := [104, 110, 112, 114, 116, 339].getD i 0
def txtS (i : Nat) : String := ["add", "pick", "begin", "commit", "cancel", "add pick begin commit cancel "].getD i ""
def lenS : List Nat := [3, 4, 5, 6, 6, 29]
def bytS : List (List Int32) := [[97, 100, 100], [112, 105, 99, 107], [98, 101, 103, 105, 110], [99, 111, 109, 109, 105, 116], [99, 97, 110, 99, 101, 108], [97, 100, 100, 32, 112, 105, 99, 107, 32, 98, 101, 103, 105, 110, 32, 99, 111, 109, 109, 105, 116, 32, 99, 97, 110, 99, 101, 108, 32]]
def zStr (ad : Nat → Nat) (A : Nat → Prop) (H : Heap) (s : State) : Prop :=
  (∀ i, i < 6 → vk_R (ownS i) (idxS i) (txtS i) (ad (1000000 + 2 * i)) s) ∧ vk_S 6 lenS bytS (fun i => ad (1000000 + 2 * i)) (fun i => ad (1000001 + 2 * i)) A s H ∧ va_Z "java/lang/String" "COMPACT_STRINGS" "Z" (.int 1) A s H ∧ va_Zq "jdk/internal/util/Preconditions" "SIOOBE_FORMATTER" "Ljava/util/function/BiFunction;" A s H
theorem zStr_warm {ad : Nat → Nat} {A : Nat → Prop} {H : Heap} {s U : State} (hW : s.WarmedH U.vm) (h : zStr ad A H s) : zStr ad A H U := ⟨fun i hi => vk_R.warm hW (h.1 i hi), vk_S.moved hW.alike h.2.1, va_Z.moved hW.alike h.2.2.1, va_Zq.moved hW.alike h.2.2.2⟩
theorem zStr_same {ad : Nat → Nat} {A : Nat → Prop} {H : Heap} {s U : State} (hv : U.vm = s.vm) (h : zStr ad A H s) : zStr ad A H U := by
  have hq : s.vm.Alike U.vm := by rw [hv]; exact Vm.Alike.refl _
  exact ⟨fun i hi => vk_R.same hv (h.1 i hi), vk_S.moved hq h.2.1, va_Z.moved hq h.2.2.1, va_Zq.moved hq h.2.2.2⟩
theorem zStr_kept {ad : Nat → Nat} {A : Nat → Prop} {H H1 : Heap} {s : State} (h : zStr ad A H s) (hq : ∀ a : Nat, a < H.size → ¬ A a → H1[a]? = H[a]?) : zStr ad A H1 s := ⟨h.1, h.2.1.kept hq, h.2.2.1.kept hq, h.2.2.2.kept hq⟩
theorem zStr_narrow {ad : Nat → Nat} {A B : Nat → Prop} {H : Heap} {s : State} (h : zStr ad A H s) (hAB : ∀ q, B q → A q) : zStr ad B H s := ⟨h.1, h.2.1.narrow hAB, h.2.2.1.narrow hAB, h.2.2.2.narrow hAB⟩
theorem zStr_ad {ad ad1 : Nat → Nat} {A : Nat → Prop} {H : Heap} {s : State} (h : zStr ad A H s) (he : ∀ k, 999999 ≤ k → ad1 k = ad k) : zStr ad1 A H s := by
  unfold zStr
  have e1 : (fun i => ad1 (1000000 + 2 * i)) = (fun i => ad (1000000 + 2 * i)) := funext (fun i => he _ (by omega))
  have e2 : (fun i => ad1 (1000001 + 2 * i)) = (fun i => ad (1000001 + 2 * i)) := funext (fun i => he _ (by omega))
  rw [e1, e2]
  exact ⟨fun i hi => by rw [he _ (by omega)]; exact h.1 i hi, h.2⟩
