def lw_good : List Cond := lw_tbl.filter goodWord
theorem good_at {w : Cond} (i : Nat) (h : lw_tbl[i]? = some w) (hg : goodWord w = true) : w ∈ lw_good := List.mem_filter.mpr ⟨List.mem_of_getElem? h, hg⟩
theorem in_t1 {w : Cond} (h : w ∈ tables_1_1) (hg : goodWord w = true) : w ∈ lw_good := List.mem_filter.mpr ⟨List.mem_append_right _ (List.mem_append_left _ h), hg⟩
theorem in_t2 {w : Cond} (h : w ∈ tables_1_2) (hg : goodWord w = true) : w ∈ lw_good := List.mem_filter.mpr ⟨List.mem_append_right _ (List.mem_append_right _ (List.mem_append_left _ h)), hg⟩
theorem in_t3 {w : Cond} (h : w ∈ tables_1_3) (hg : goodWord w = true) : w ∈ lw_good := List.mem_filter.mpr ⟨List.mem_append_right _ (List.mem_append_right _ (List.mem_append_right _ (List.mem_append_left _ h))), hg⟩
theorem in_t4 {w : Cond} (h : w ∈ tables_1_4) (hg : goodWord w = true) : w ∈ lw_good := List.mem_filter.mpr ⟨List.mem_append_right _ (List.mem_append_right _ (List.mem_append_right _ (List.mem_append_right _ (List.mem_append_left _ h)))), hg⟩
theorem in_t5 {w : Cond} (h : w ∈ tables_1_5) (hg : goodWord w = true) : w ∈ lw_good := List.mem_filter.mpr ⟨List.mem_append_right _ (List.mem_append_right _ (List.mem_append_right _ (List.mem_append_right _ (List.mem_append_right _ (List.mem_append_left _ h))))), hg⟩
theorem in_t6 {w : Cond} (h : w ∈ tables_1_6) (hg : goodWord w = true) : w ∈ lw_good := List.mem_filter.mpr ⟨List.mem_append_right _ (List.mem_append_right _ (List.mem_append_right _ (List.mem_append_right _ (List.mem_append_right _ (List.mem_append_right _ (List.mem_append_left _ h)))))), hg⟩
theorem in_t7 {w : Cond} (h : w ∈ tables_1_7) (hg : goodWord w = true) : w ∈ lw_good := List.mem_filter.mpr ⟨List.mem_append_right _ (List.mem_append_right _ (List.mem_append_right _ (List.mem_append_right _ (List.mem_append_right _ (List.mem_append_right _ (List.mem_append_right _ h)))))), hg⟩
theorem good_in (ws : List Cond) (ps : List Nat) (hp : ws = ps.filterMap (fun i => lw_tbl[i]?)) (h : ws.all goodWord = true) : ∀ w ∈ ws, w ∈ lw_good := by
  intro w hw
  have h1 := List.all_eq_true.mp h w hw
  rw [hp] at hw
  obtain ⟨i, -, hi⟩ := List.mem_filterMap.mp hw
  exact good_at i hi h1
theorem good_ok {w : Cond} (h : w ∈ lw_good) : (w.onTables && w.keeps) = true ∨ ∃ ty, w = .arrayClass ty := good_of_word (List.mem_filter.mp h).2
def cnm (c : Nat) : String := match c with
  | 0 => RX0
  | 1 => RX1
  | 2 => RX2
  | 3 => RX3
  | 4 => RX4
  | 5 => RX5
  | 6 => RX6
  | 7 => RX7
  | 8 => RX8
  | 9 => RX9
  | _ => RX10
def cT (c : Nat) : u_T := match c with
  | 0 => TX0
  | 1 => TX1
  | 2 => TX2
  | 3 => TX3
  | 4 => TX4
  | 5 => TX5
  | 6 => TX6
  | 7 => TX7
  | 8 => TX8
  | 9 => TX9
  | _ => TX10
def cN (c : Nat) : Nat := match c with
  | 0 => 5
  | 1 => 3
  | 2 => 9
  | 3 => 4
  | 4 => 2
  | 5 => 12
  | 6 => 3
  | 7 => 17
  | 8 => 3
  | 9 => 7
  | _ => 51
def cty (c : Nat) : Nat → FieldType := match c with
  | 0 => tyX0
  | 1 => tyX1
  | 2 => tyX2
  | 3 => tyX3
  | 4 => tyX4
  | 5 => tyX5
  | 6 => tyX6
  | 7 => tyX7
  | 8 => tyX8
  | 9 => tyX9
  | _ => tyX10
abbrev cls : List vw_C := [(RX0, TX0, 5), (RX1, TX1, 3), (RX2, TX2, 9), (RX3, TX3, 4), (RX4, TX4, 2), (RX5, TX5, 12), (RX6, TX6, 3), (RX7, TX7, 17), (RX8, TX8, 3), (RX9, TX9, 7), (RX10, TX10, 51)]
theorem cw_0 : ∀ w ∈ u_ws RX0 TX0 5, w ∈ lw_good := good_in _ [138, 140, 142, 144, 146] (by decide +kernel) (by decide +kernel)
theorem cw_1 : ∀ w ∈ u_ws RX1 TX1 3, w ∈ lw_good := good_in _ [117, 119, 121] (by decide +kernel) (by decide +kernel)
theorem cw_2 : ∀ w ∈ u_ws RX2 TX2 9, w ∈ lw_good := good_in _ [220, 222, 224, 226, 228, 230, 232, 234, 236] (by decide +kernel) (by decide +kernel)
theorem cw_3 : ∀ w ∈ u_ws RX3 TX3 4, w ∈ lw_good := good_in _ [169, 171, 173, 175] (by decide +kernel) (by decide +kernel)
theorem cw_4 : ∀ w ∈ u_ws RX4 TX4 2, w ∈ lw_good := good_in _ [703, 705] (by decide +kernel) (by decide +kernel)
theorem cw_5 : ∀ w ∈ u_ws RX5 TX5 12, w ∈ lw_good := good_in _ [339, 341, 343, 345, 347, 349, 351, 353, 355, 357, 359, 361] (by decide +kernel) (by decide +kernel)
theorem cw_6 : ∀ w ∈ u_ws RX6 TX6 3, w ∈ lw_good := good_in _ [310, 312, 314] (by decide +kernel) (by decide +kernel)
theorem cw_7 : ∀ w ∈ u_ws RX7 TX7 17, w ∈ lw_good := good_in _ [265, 267, 269, 271, 273, 275, 277, 279, 281, 283, 285, 287, 289, 291, 293, 295, 297] (by decide +kernel) (by decide +kernel)
theorem cw_8 : ∀ w ∈ u_ws RX8 TX8 3, w ∈ lw_good := good_in _ [196, 198, 200] (by decide +kernel) (by decide +kernel)
theorem cw_9 : ∀ w ∈ u_ws RX9 TX9 7, w ∈ lw_good := good_in _ [394, 396, 398, 400, 402, 404, 406] (by decide +kernel) (by decide +kernel)
theorem cw_10 : ∀ w ∈ u_ws RX10 TX10 51, w ∈ lw_good := good_in _ [1129, 1131, 1133, 1135, 1137, 1139, 1141, 1143, 1145, 1147, 1149, 1151, 1153, 1155, 1157, 1159, 1161, 1163, 1165, 1167, 1169, 1171, 1173, 1175, 1177, 1179, 1181, 1183, 1185, 1187, 1189, 1191, 1193, 1195, 1197, 1199, 1201, 1203, 1205, 1207, 1209, 1211, 1213, 1215, 1217, 1219, 1221, 1223, 1225, 1227, 1229] (by decide +kernel) (by decide +kernel)
theorem cls_at {c : Nat} (h : c < 11) : cls[c]? = some (cnm c, cT c, cN c) := by
  match c, h with
  | 0, _ => exact rfl
  | 1, _ => exact rfl
  | 2, _ => exact rfl
  | 3, _ => exact rfl
  | 4, _ => exact rfl
  | 5, _ => exact rfl
  | 6, _ => exact rfl
  | 7, _ => exact rfl
  | 8, _ => exact rfl
  | 9, _ => exact rfl
  | 10, _ => exact rfl
  | c + 11, h => exact absurd h (by omega)
theorem cls_w {c : Nat} (h : c < 11) : ∀ w ∈ u_ws (cnm c) (cT c) (cN c), w ∈ lw_good := by
  match c, h with
  | 0, _ => exact cw_0
  | 1, _ => exact cw_1
  | 2, _ => exact cw_2
  | 3, _ => exact cw_3
  | 4, _ => exact cw_4
  | 5, _ => exact cw_5
  | 6, _ => exact cw_6
  | 7, _ => exact cw_7
  | 8, _ => exact cw_8
  | 9, _ => exact cw_9
  | 10, _ => exact cw_10
  | c + 11, h => exact absurd h (by omega)
theorem cls_ty {c : Nat} (h : c < 11) : ∀ k, k < cN c → parseFieldDescriptor (cT c k).2.2.1 = some (cty c k) := by
  match c, h with
  | 0, _ => exact tyX0_ok
  | 1, _ => exact tyX1_ok
  | 2, _ => exact tyX2_ok
  | 3, _ => exact tyX3_ok
  | 4, _ => exact tyX4_ok
  | 5, _ => exact tyX5_ok
  | 6, _ => exact tyX6_ok
  | 7, _ => exact tyX7_ok
  | 8, _ => exact tyX8_ok
  | 9, _ => exact tyX9_ok
  | 10, _ => exact tyX10_ok
  | c + 11, h => exact absurd h (by omega)
theorem cls_nm {c : Nat} (h : c < 11) : ∀ a, a < cN c → ∀ b, b < cN c → a ≠ b → (cT c a).2.1 ≠ (cT c b).2.1 := by
  match c, h with
  | 0, _ => exact nmX0
  | 1, _ => exact nmX1
  | 2, _ => exact nmX2
  | 3, _ => exact nmX3
  | 4, _ => exact nmX4
  | 5, _ => exact nmX5
  | 6, _ => exact nmX6
  | 7, _ => exact nmX7
  | 8, _ => exact nmX8
  | 9, _ => exact nmX9
  | 10, _ => exact nmX10
  | c + 11, h => exact absurd h (by omega)
theorem cls_own {c : Nat} (h : c < 11) : ∀ k, k < cN c → (cT c k).1 = cnm c := by
  match c, h with
  | 0, _ => exact (by decide +kernel)
  | 1, _ => exact (by decide +kernel)
  | 2, _ => exact (by decide +kernel)
  | 3, _ => exact (by decide +kernel)
  | 4, _ => exact (by decide +kernel)
  | 5, _ => exact (by decide +kernel)
  | 6, _ => exact (by decide +kernel)
  | 7, _ => exact (by decide +kernel)
  | 8, _ => exact (by decide +kernel)
  | 9, _ => exact (by decide +kernel)
  | 10, _ => exact (by decide +kernel)
  | c + 11, h => exact absurd h (by omega)
