abbrev MJ0_length : AM := (yJ0_length_8abf5, cJ0_length_8abf5, 1, (some .int))
theorem mt_J0_length : zMt MJ0_length 0 := ⟨in_t4 (List.mem_of_getElem? (i := 0) (rfl)) rfl, in_t1 (List.mem_of_getElem? (i := 15) (by decide +kernel)) rfl, ⟨by decide, by decide⟩, by decide +kernel, by decide⟩
theorem min_J0_length : Cond.instanceMethod yJ0_length_8abf5 ∈ lw_good := in_t3 (List.mem_of_getElem? (i := 238) (by decide +kernel)) rfl
theorem mse_J0_length : Cond.selects "java/lang/String" yJ0_length_8abf5 yJ0_length_8abf5 ∈ lw_good := in_t3 (List.mem_of_getElem? (i := 239) (by decide +kernel)) rfl
abbrev MJ0_charAt : AM := (yJ0_charAt_5068e, cJ0_charAt_5068e, 2, (some .char))
theorem mt_J0_charAt : zMt MJ0_charAt 1 := ⟨in_t4 (List.mem_of_getElem? (i := 10) (rfl)) rfl, in_t1 (List.mem_of_getElem? (i := 15) (by decide +kernel)) rfl, ⟨by decide, by decide⟩, by decide +kernel, by decide⟩
theorem min_J0_charAt : Cond.instanceMethod yJ0_charAt_5068e ∈ lw_good := in_t4 (List.mem_of_getElem? (i := 8) (by decide +kernel)) rfl
theorem mse_J0_charAt : Cond.selects "java/lang/String" yJ0_charAt_5068e yJ0_charAt_5068e ∈ lw_good := in_t4 (List.mem_of_getElem? (i := 9) (by decide +kernel)) rfl
abbrev MJ0_coder : AM := (yJ0_coder_7d493, cJ0_coder_7d493, 1, (some .byte))
theorem mt_J0_coder : zMt MJ0_coder 0 := ⟨in_t4 (List.mem_of_getElem? (i := 4) (rfl)) rfl, in_t1 (List.mem_of_getElem? (i := 15) (by decide +kernel)) rfl, ⟨by decide, by decide⟩, by decide +kernel, by decide⟩
theorem min_J0_coder : Cond.instanceMethod yJ0_coder_7d493 ∈ lw_good := in_t4 (List.mem_of_getElem? (i := 2) (by decide +kernel)) rfl
theorem mse_J0_coder : Cond.selects "java/lang/String" yJ0_coder_7d493 yJ0_coder_7d493 ∈ lw_good := in_t4 (List.mem_of_getElem? (i := 3) (by decide +kernel)) rfl
abbrev MJ0_isLatin1 : AM := (yJ0_isLatin1_aae02, cJ0_isLatin1_aae02, 1, (some .boolean))
theorem mt_J0_isLatin1 : zMt MJ0_isLatin1 0 := ⟨in_t4 (List.mem_of_getElem? (i := 14) (rfl)) rfl, in_t1 (List.mem_of_getElem? (i := 15) (by decide +kernel)) rfl, ⟨by decide, by decide⟩, by decide +kernel, by decide⟩
theorem min_J0_isLatin1 : Cond.instanceMethod yJ0_isLatin1_aae02 ∈ lw_good := in_t4 (List.mem_of_getElem? (i := 12) (by decide +kernel)) rfl
theorem mse_J0_isLatin1 : Cond.selects "java/lang/String" yJ0_isLatin1_aae02 yJ0_isLatin1_aae02 ∈ lw_good := in_t4 (List.mem_of_getElem? (i := 13) (by decide +kernel)) rfl
abbrev MJ0_checkIndex : AM := (yJ0_checkIndex_df160, cJ0_checkIndex_df160, 2, none)
theorem mt_J0_checkIndex : zMt MJ0_checkIndex 2 := ⟨in_t4 (List.mem_of_getElem? (i := 20) (rfl)) rfl, in_t1 (List.mem_of_getElem? (i := 15) (by decide +kernel)) rfl, ⟨by decide, by decide⟩, by decide +kernel, by decide⟩
theorem mst_J0_checkIndex : Cond.static yJ0_checkIndex_df160 ∈ lw_good := in_t4 (List.mem_of_getElem? (i := 19) (by decide +kernel)) rfl
abbrev MJ1_charAt : AM := (yJ1_charAt_3b067, cJ1_charAt_3b067, 2, (some .char))
theorem mt_J1_charAt : zMt MJ1_charAt 2 := ⟨in_t4 (List.mem_of_getElem? (i := 17) (rfl)) rfl, in_t1 (List.mem_of_getElem? (i := 16) (by decide +kernel)) rfl, ⟨by decide, by decide⟩, by decide +kernel, by decide⟩
theorem mst_J1_charAt : Cond.static yJ1_charAt_3b067 ∈ lw_good := in_t4 (List.mem_of_getElem? (i := 16) (by decide +kernel)) rfl
abbrev MJ3_checkIndex : AM := (yJ3_checkIndex_8e157, cJ3_checkIndex_8e157, 3, (some .int))
theorem mt_J3_checkIndex : zMt MJ3_checkIndex 3 := ⟨in_t4 (List.mem_of_getElem? (i := 25) (rfl)) rfl, in_t1 (List.mem_of_getElem? (i := 17) (by decide +kernel)) rfl, ⟨by decide, by decide⟩, by decide +kernel, by decide⟩
theorem mst_J3_checkIndex : Cond.static yJ3_checkIndex_8e157 ∈ lw_good := in_t4 (List.mem_of_getElem? (i := 24) (by decide +kernel)) rfl
theorem mlS_X5_118 : Cond.methodLink RX5 118 yJ0_length_8abf5 ∈ lw_good := in_t3 (List.mem_of_getElem? (i := 237) (by decide +kernel)) rfl
theorem mlS_X5_123 : Cond.methodLink RX5 123 yJ0_charAt_5068e ∈ lw_good := in_t4 (List.mem_of_getElem? (i := 7) (by decide +kernel)) rfl
theorem mlS_X10_341 : Cond.methodLink RX10 341 yJ0_length_8abf5 ∈ lw_good := in_t6 (List.mem_of_getElem? (i := 205) (by decide +kernel)) rfl
theorem mlS_X10_346 : Cond.methodLink RX10 346 yJ0_charAt_5068e ∈ lw_good := in_t6 (List.mem_of_getElem? (i := 206) (by decide +kernel)) rfl
theorem mlS_J0_335 : Cond.methodLink RJ0 335 yJ0_coder_7d493 ∈ lw_good := in_t4 (List.mem_of_getElem? (i := 1) (by decide +kernel)) rfl
theorem mlS_J0_492 : Cond.methodLink RJ0 492 yJ0_isLatin1_aae02 ∈ lw_good := in_t4 (List.mem_of_getElem? (i := 11) (by decide +kernel)) rfl
theorem mlS_J0_495 : Cond.methodLink RJ0 495 yJ1_charAt_3b067 ∈ lw_good := in_t4 (List.mem_of_getElem? (i := 15) (by decide +kernel)) rfl
theorem mlS_J1_9 : Cond.methodLink RJ1 9 yJ0_checkIndex_df160 ∈ lw_good := in_t4 (List.mem_of_getElem? (i := 18) (by decide +kernel)) rfl
theorem mlS_J0_1059 : Cond.methodLink RJ0 1059 yJ3_checkIndex_8e157 ∈ lw_good := in_t4 (List.mem_of_getElem? (i := 23) (by decide +kernel)) rfl
theorem flS_9 : Cond.fieldLink RJ0 9 "java/lang/String" "value" "[B" ∈ lw_good := in_t7 (List.mem_of_getElem? (i := 130) (by decide +kernel)) rfl
theorem flS_15 : Cond.fieldLink RJ0 15 "java/lang/String" "coder" "B" ∈ lw_good := in_t7 (List.mem_of_getElem? (i := 131) (by decide +kernel)) rfl
theorem flS_38 : Cond.fieldLink RJ0 38 "java/lang/String" "COMPACT_STRINGS" "Z" ∈ lw_good := in_t4 (List.mem_of_getElem? (i := 5) (by decide +kernel)) rfl
theorem flS_1053 : Cond.fieldLink RJ0 1053 "jdk/internal/util/Preconditions" "SIOOBE_FORMATTER" "Ljava/util/function/BiFunction;" ∈ lw_good := in_t4 (List.mem_of_getElem? (i := 21) (by decide +kernel)) rfl
