def kL : List Nat := [99, 9, 2, 0, 1, 20, 1, 20, 20, 20, 0, 1, 20, 1, 20, 20, 20, 3, 21, 21, 24, 25, 8, 3, 8, 3, 8, 3, 8, 3, 8, 3, 8, 3, 7, 3, 20, 20, 20, 21, 21, 21, 20, 20, 6, 21, 5, 22, 20, 20, 21, 3, 3, 10, 20, 20, 20, 21, 21, 21, 21, 20, 21, 20, 21, 23, 20, 20, 20, 20, 21, 20, 22, 21, 23, 20, 20, 21]
def nL : List Nat := [0, 0, 0, 0, 0, 105, 0, 105, 48, 48, 0, 0, 105, 0, 105, 48, 48, 0, 6912, 2304, 6, 8, 0, 0, 0, 0, 0, 0, 0, 0, 0, 0, 0, 0, 0, 0, 48, 48, 48, 2304, 48, 48, 97, 97, 0, 280, 0, 500, 30, 150, 30, 0, 0, 0, 96, 2, 2, 6912, 55296, 3, 24, 8, 280, 24, 6, 6, 2, 64, 96, 2, 2304, 64, 500, 210, 48, 98, 98, 48]
def rL : List (List Nat) := [[], [34, 2, 44, 46, 51, 52], [3, 10, 17, 18, 19, 20, 21], [4, 6, 8, 9], [5], [], [7], [], [], [], [11, 13, 15, 16], [12], [], [14], [], [], [], [], [], [], [22, 24, 26, 28, 30, 32], [], [23], [], [25], [], [27], [], [29], [], [31], [], [33], [], [2, 35, 0, 0, 0, 0, 0, 0, 0, 36, 37, 38, 39, 40, 41, 42, 43], [], [], [], [], [], [], [], [], [], [45], [], [47, 0, 0, 0, 0, 0, 48, 49, 50], [], [], [], [], [], [], [0, 0, 0, 0, 54, 55, 56, 57, 58, 59, 60, 0, 61, 62, 0, 63, 64, 65, 66, 67, 0, 0, 0, 0, 0, 0, 0, 0, 68, 69, 70, 71, 0, 72, 0, 0, 0, 0, 0, 0, 73, 0, 0, 0, 0, 0, 0, 74, 75, 76, 77], [], [], [], [], [], [], [], [], [], [], [], [], [], [], [], [], [], [], [], [], [], [], [], []]
def kT (c : Nat) : Nat := kL.getD c 99
def nT (c : Nat) : Nat := nL.getD c 0
def rT (c k : Nat) : Nat := (rL.getD c []).getD k 0
/-- the system's cells are where its constructors laid them; rows that are kept are made one behind another -/
def ShC (S : AS) : Prop := (∀ c, 1 ≤ c → c ≤ 52 → sK S c = kT c ∧ sN S c = nT c) ∧ (∀ c k, 1 ≤ c → c ≤ 52 → c ≠ 21 → sR S c k = rT c k) ∧ ∃ n, n ≤ 8 ∧ (∀ j, sR S 21 j = if j < n then 78 + 2 * j else 0) ∧ ∀ j, j < n → sK S (78 + 2 * j) = 4 ∧ sR S (78 + 2 * j) 0 = 79 + 2 * j ∧ sK S (79 + 2 * j) = 21 ∧ sN S (79 + 2 * j) = 6912
/-- the reference's cells -/
def ShM (S : AS) : Prop := (∀ c, 53 ≤ c → c ≤ 77 → sK S c = kT c ∧ sN S c = nT c) ∧ ∀ c k, 53 ≤ c → c ≤ 77 → sR S c k = rT c k
theorem shc_k {S : AS} (h : ShC S) (c : Nat) (h1 : 1 ≤ c) (h2 : c ≤ 52) : sK S c = kT c := (h.1 c h1 h2).1
theorem shc_n {S : AS} (h : ShC S) (c : Nat) (h1 : 1 ≤ c) (h2 : c ≤ 52) : sN S c = nT c := (h.1 c h1 h2).2
theorem shc_r {S : AS} (h : ShC S) (c k : Nat) (h1 : 1 ≤ c) (h2 : c ≤ 52) (h3 : c ≠ 21) : sR S c k = rT c k := h.2.1 c k h1 h2 h3
theorem shm_k {S : AS} (h : ShM S) (c : Nat) (h1 : 53 ≤ c) (h2 : c ≤ 77) : sK S c = kT c := (h.1 c h1 h2).1
theorem shm_n {S : AS} (h : ShM S) (c : Nat) (h1 : 53 ≤ c) (h2 : c ≤ 77) : sN S c = nT c := (h.1 c h1 h2).2
theorem shm_r {S : AS} (h : ShM S) (c k : Nat) (h1 : 53 ≤ c) (h2 : c ≤ 77) : sR S c k = rT c k := h.2 c k h1 h2
def AtCuts (S : AS) (o : Nat) : Prop := sK S o = 1 ∧ sR S o 0 = o + 1 ∧ sK S (o + 1) = 20 ∧ sN S (o + 1) = 105
def AtRect (S : AS) (o : Nat) : Prop := sK S o = 3
def AtAxis (S : AS) (o : Nat) : Prop := sK S o = 0 ∧ sR S o 0 = o + 1 ∧ sR S o 1 = o + 3 ∧ sR S o 2 = o + 5 ∧ sR S o 3 = o + 6 ∧ AtCuts S (o + 1) ∧ AtCuts S (o + 3) ∧ (sK S (o + 5) = 20 ∧ sN S (o + 5) = 48) ∧ sK S (o + 6) = 20 ∧ sN S (o + 6) = 48
def AtZone (S : AS) (o : Nat) : Prop := sK S o = 8 ∧ sR S o 0 = o + 1 ∧ sK S (o + 1) = 3
def AtSaved (S : AS) (o : Nat) : Prop := sK S o = 4 ∧ sR S o 0 = o + 1 ∧ sK S (o + 1) = 21 ∧ sN S (o + 1) = 6912
def AtJ (S : AS) (o : Nat) : Prop := sK S o = 21
def AtI (S : AS) (o : Nat) : Prop := sK S o = 20
def AtZ (S : AS) (o : Nat) : Prop := sK S o = 23
def AtB (S : AS) (o : Nat) : Prop := sK S o = 22
theorem sh_zone {S : AS} (h : ShC S) {i : Int} (h0 : 0 ≤ i) (h1 : i < 6) : sR S 20 (Int.toNat i) = 22 + 2 * Int.toNat i := by
  rw [shc_r h 20 _ (by decide) (by decide) (by decide)]
  have : i = 0 ∨ i = 1 ∨ i = 2 ∨ i = 3 ∨ i = 4 ∨ i = 5 := by omega
  rcases this with rfl | rfl | rfl | rfl | rfl | rfl <;> rfl
theorem sh_zoneAt {S : AS} (h : ShC S) {i : Int} (h0 : 0 ≤ i) (h1 : i < 6) : AtZone S (22 + 2 * Int.toNat i) := by
  have : i = 0 ∨ i = 1 ∨ i = 2 ∨ i = 3 ∨ i = 4 ∨ i = 5 := by omega
  rcases this with rfl | rfl | rfl | rfl | rfl | rfl <;> exact ⟨shc_k h _ (by decide) (by decide), shc_r h _ 0 (by decide) (by decide) (by decide), shc_k h _ (by decide) (by decide)⟩
theorem lt_n {i : Int} {n m : Nat} (h : i < (m : Int)) (e : n = m) : i < (n : Int) := by rw [e]; exact h
theorem le_n {i : Int} {n m : Nat} (h : i ≤ (m : Int)) (e : n = m) : i ≤ (n : Int) := by rw [e]; exact h
/-- a method that answers r and changes nothing -/
def Pu (d : Nat) (M : AM) (av : List AV) (S : AS) (F : AF) (G : AG) (r : Option AV) : Prop := Ok d M av S F G (fun r' S' F' G' => r' = r ∧ S' = S ∧ F' = F ∧ G' = G)
theorem go_getRc {d : Nat} {M : AM} {pc : Nat} {L : AL} {st : List AV} {S : AS} {F : AF} {G : AG} {Q : AQ} {idx ci k o v : Nat} (hd : decode M.2.1 pc = .ok (.getfield idx, 3)) (hf : zFl M.1.cls idx ci k) (ht : fk ci k = 2) (ho : sK S o = ci) (hv : sR S o k = v) (kk : Go d M (pc + 3) L (vR v :: st) S F G Q) : Go d M pc L (vR o :: st) S F G Q := go_getR hd hf ht ho (by rw [hv]; exact kk)
theorem go_alenc {d : Nat} {M : AM} {pc : Nat} {L : AL} {st : List AV} {S : AS} {F : AF} {G : AG} {Q : AQ} {o : Nat} {z : Int} (hd : decode M.2.1 pc = .ok (.arraylength, 1)) (ho : 20 ≤ sK S o ∧ sK S o ≤ 25) (hz : (sN S o : Int) = z) (kk : Go d M (pc + 1) L (vI z :: st) S F G Q) : Go d M pc L (vR o :: st) S F G Q := go_alen hd ho (by rw [hz]; exact kk)
theorem go_aaloadc {d : Nat} {M : AM} {pc : Nat} {L : AL} {st : List AV} {S : AS} {F : AF} {G : AG} {Q : AQ} {o v : Nat} {i : Int} (hd : decode M.2.1 pc = .ok (.aaload, 1)) (ho : sK S o = 24 ∨ sK S o = 25) (h0i : 0 ≤ i) (h1i : i < sN S o) (hv : sR S o i.toNat = v) (kk : Go d M (pc + 1) L (vR v :: st) S F G Q) : Go d M pc L (vI i :: vR o :: st) S F G Q := go_aaload hd ho h0i h1i (by rw [hv]; exact kk)
theorem at_4 {S : AS} (h : ShC S) : AtCuts S 4 := ⟨shc_k h 4 (by decide) (by decide), shc_r h 4 0 (by decide) (by decide) (by decide), shc_k h 5 (by decide) (by decide), shc_n h 5 (by decide) (by decide)⟩
theorem at_5 {S : AS} (h : ShC S) : AtI S 5 := shc_k h 5 (by decide) (by decide)
theorem at_6 {S : AS} (h : ShC S) : AtCuts S 6 := ⟨shc_k h 6 (by decide) (by decide), shc_r h 6 0 (by decide) (by decide) (by decide), shc_k h 7 (by decide) (by decide), shc_n h 7 (by decide) (by decide)⟩
theorem at_7 {S : AS} (h : ShC S) : AtI S 7 := shc_k h 7 (by decide) (by decide)
theorem at_8 {S : AS} (h : ShC S) : AtI S 8 := shc_k h 8 (by decide) (by decide)
theorem at_9 {S : AS} (h : ShC S) : AtI S 9 := shc_k h 9 (by decide) (by decide)
theorem at_11 {S : AS} (h : ShC S) : AtCuts S 11 := ⟨shc_k h 11 (by decide) (by decide), shc_r h 11 0 (by decide) (by decide) (by decide), shc_k h 12 (by decide) (by decide), shc_n h 12 (by decide) (by decide)⟩
theorem at_12 {S : AS} (h : ShC S) : AtI S 12 := shc_k h 12 (by decide) (by decide)
theorem at_13 {S : AS} (h : ShC S) : AtCuts S 13 := ⟨shc_k h 13 (by decide) (by decide), shc_r h 13 0 (by decide) (by decide) (by decide), shc_k h 14 (by decide) (by decide), shc_n h 14 (by decide) (by decide)⟩
theorem at_14 {S : AS} (h : ShC S) : AtI S 14 := shc_k h 14 (by decide) (by decide)
theorem at_15 {S : AS} (h : ShC S) : AtI S 15 := shc_k h 15 (by decide) (by decide)
theorem at_16 {S : AS} (h : ShC S) : AtI S 16 := shc_k h 16 (by decide) (by decide)
theorem at_17 {S : AS} (h : ShC S) : AtRect S 17 := shc_k h 17 (by decide) (by decide)
theorem at_18 {S : AS} (h : ShC S) : AtJ S 18 := shc_k h 18 (by decide) (by decide)
theorem at_19 {S : AS} (h : ShC S) : AtJ S 19 := shc_k h 19 (by decide) (by decide)
theorem at_23 {S : AS} (h : ShC S) : AtRect S 23 := shc_k h 23 (by decide) (by decide)
theorem at_25 {S : AS} (h : ShC S) : AtRect S 25 := shc_k h 25 (by decide) (by decide)
theorem at_27 {S : AS} (h : ShC S) : AtRect S 27 := shc_k h 27 (by decide) (by decide)
theorem at_29 {S : AS} (h : ShC S) : AtRect S 29 := shc_k h 29 (by decide) (by decide)
theorem at_31 {S : AS} (h : ShC S) : AtRect S 31 := shc_k h 31 (by decide) (by decide)
theorem at_33 {S : AS} (h : ShC S) : AtRect S 33 := shc_k h 33 (by decide) (by decide)
theorem at_35 {S : AS} (h : ShC S) : AtRect S 35 := shc_k h 35 (by decide) (by decide)
theorem at_36 {S : AS} (h : ShC S) : AtI S 36 := shc_k h 36 (by decide) (by decide)
theorem at_37 {S : AS} (h : ShC S) : AtI S 37 := shc_k h 37 (by decide) (by decide)
theorem at_38 {S : AS} (h : ShC S) : AtI S 38 := shc_k h 38 (by decide) (by decide)
theorem at_39 {S : AS} (h : ShC S) : AtJ S 39 := shc_k h 39 (by decide) (by decide)
theorem at_40 {S : AS} (h : ShC S) : AtJ S 40 := shc_k h 40 (by decide) (by decide)
theorem at_41 {S : AS} (h : ShC S) : AtJ S 41 := shc_k h 41 (by decide) (by decide)
theorem at_42 {S : AS} (h : ShC S) : AtI S 42 := shc_k h 42 (by decide) (by decide)
theorem at_43 {S : AS} (h : ShC S) : AtI S 43 := shc_k h 43 (by decide) (by decide)
theorem at_45 {S : AS} (h : ShC S) : AtJ S 45 := shc_k h 45 (by decide) (by decide)
theorem at_47 {S : AS} (h : ShC S) : AtB S 47 := shc_k h 47 (by decide) (by decide)
theorem at_48 {S : AS} (h : ShC S) : AtI S 48 := shc_k h 48 (by decide) (by decide)
theorem at_49 {S : AS} (h : ShC S) : AtI S 49 := shc_k h 49 (by decide) (by decide)
theorem at_50 {S : AS} (h : ShC S) : AtJ S 50 := shc_k h 50 (by decide) (by decide)
theorem at_51 {S : AS} (h : ShC S) : AtRect S 51 := shc_k h 51 (by decide) (by decide)
theorem at_52 {S : AS} (h : ShC S) : AtRect S 52 := shc_k h 52 (by decide) (by decide)
theorem at_54 {S : AS} (h : ShM S) : AtI S 54 := shm_k h 54 (by decide) (by decide)
theorem at_55 {S : AS} (h : ShM S) : AtI S 55 := shm_k h 55 (by decide) (by decide)
theorem at_56 {S : AS} (h : ShM S) : AtI S 56 := shm_k h 56 (by decide) (by decide)
theorem at_57 {S : AS} (h : ShM S) : AtJ S 57 := shm_k h 57 (by decide) (by decide)
theorem at_58 {S : AS} (h : ShM S) : AtJ S 58 := shm_k h 58 (by decide) (by decide)
theorem at_59 {S : AS} (h : ShM S) : AtJ S 59 := shm_k h 59 (by decide) (by decide)
theorem at_60 {S : AS} (h : ShM S) : AtJ S 60 := shm_k h 60 (by decide) (by decide)
theorem at_61 {S : AS} (h : ShM S) : AtI S 61 := shm_k h 61 (by decide) (by decide)
theorem at_62 {S : AS} (h : ShM S) : AtJ S 62 := shm_k h 62 (by decide) (by decide)
theorem at_63 {S : AS} (h : ShM S) : AtI S 63 := shm_k h 63 (by decide) (by decide)
theorem at_64 {S : AS} (h : ShM S) : AtJ S 64 := shm_k h 64 (by decide) (by decide)
theorem at_65 {S : AS} (h : ShM S) : AtZ S 65 := shm_k h 65 (by decide) (by decide)
theorem at_66 {S : AS} (h : ShM S) : AtI S 66 := shm_k h 66 (by decide) (by decide)
theorem at_67 {S : AS} (h : ShM S) : AtI S 67 := shm_k h 67 (by decide) (by decide)
theorem at_68 {S : AS} (h : ShM S) : AtI S 68 := shm_k h 68 (by decide) (by decide)
theorem at_69 {S : AS} (h : ShM S) : AtI S 69 := shm_k h 69 (by decide) (by decide)
theorem at_70 {S : AS} (h : ShM S) : AtJ S 70 := shm_k h 70 (by decide) (by decide)
theorem at_71 {S : AS} (h : ShM S) : AtI S 71 := shm_k h 71 (by decide) (by decide)
theorem at_72 {S : AS} (h : ShM S) : AtB S 72 := shm_k h 72 (by decide) (by decide)
theorem at_73 {S : AS} (h : ShM S) : AtJ S 73 := shm_k h 73 (by decide) (by decide)
theorem at_74 {S : AS} (h : ShM S) : AtZ S 74 := shm_k h 74 (by decide) (by decide)
theorem at_75 {S : AS} (h : ShM S) : AtI S 75 := shm_k h 75 (by decide) (by decide)
theorem at_76 {S : AS} (h : ShM S) : AtI S 76 := shm_k h 76 (by decide) (by decide)
theorem at_77 {S : AS} (h : ShM S) : AtJ S 77 := shm_k h 77 (by decide) (by decide)
theorem at_3 {S : AS} (h : ShC S) : AtAxis S 3 := ⟨shc_k h 3 (by decide) (by decide), shc_r h 3 0 (by decide) (by decide) (by decide), shc_r h 3 1 (by decide) (by decide) (by decide), shc_r h 3 2 (by decide) (by decide) (by decide), shc_r h 3 3 (by decide) (by decide) (by decide), at_4 h, at_6 h, ⟨shc_k h 8 (by decide) (by decide), shc_n h 8 (by decide) (by decide)⟩, shc_k h 9 (by decide) (by decide), shc_n h 9 (by decide) (by decide)⟩
theorem at_10 {S : AS} (h : ShC S) : AtAxis S 10 := ⟨shc_k h 10 (by decide) (by decide), shc_r h 10 0 (by decide) (by decide) (by decide), shc_r h 10 1 (by decide) (by decide) (by decide), shc_r h 10 2 (by decide) (by decide) (by decide), shc_r h 10 3 (by decide) (by decide) (by decide), at_11 h, at_13 h, ⟨shc_k h 15 (by decide) (by decide), shc_n h 15 (by decide) (by decide)⟩, shc_k h 16 (by decide) (by decide), shc_n h 16 (by decide) (by decide)⟩
theorem at_22 {S : AS} (h : ShC S) : AtZone S 22 := ⟨shc_k h 22 (by decide) (by decide), shc_r h 22 0 (by decide) (by decide) (by decide), shc_k h 23 (by decide) (by decide)⟩
theorem at_24 {S : AS} (h : ShC S) : AtZone S 24 := ⟨shc_k h 24 (by decide) (by decide), shc_r h 24 0 (by decide) (by decide) (by decide), shc_k h 25 (by decide) (by decide)⟩
theorem at_26 {S : AS} (h : ShC S) : AtZone S 26 := ⟨shc_k h 26 (by decide) (by decide), shc_r h 26 0 (by decide) (by decide) (by decide), shc_k h 27 (by decide) (by decide)⟩
theorem at_28 {S : AS} (h : ShC S) : AtZone S 28 := ⟨shc_k h 28 (by decide) (by decide), shc_r h 28 0 (by decide) (by decide) (by decide), shc_k h 29 (by decide) (by decide)⟩
theorem at_30 {S : AS} (h : ShC S) : AtZone S 30 := ⟨shc_k h 30 (by decide) (by decide), shc_r h 30 0 (by decide) (by decide) (by decide), shc_k h 31 (by decide) (by decide)⟩
theorem at_32 {S : AS} (h : ShC S) : AtZone S 32 := ⟨shc_k h 32 (by decide) (by decide), shc_r h 32 0 (by decide) (by decide) (by decide), shc_k h 33 (by decide) (by decide)⟩
