theorem fl_X9_12 : zFl RX9 12 9 0 := ⟨by decide, by decide, in_t2 (List.mem_of_getElem? (i := 92) (by decide +kernel)) rfl⟩
theorem fl_X9_16 : zFl RX9 16 7 0 := ⟨by decide, by decide, in_t1 (List.mem_of_getElem? (i := 187) (by decide +kernel)) rfl⟩
theorem fl_X9_20 : zFl RX9 20 9 1 := ⟨by decide, by decide, in_t2 (List.mem_of_getElem? (i := 93) (by decide +kernel)) rfl⟩
theorem fl_X9_24 : zFl RX9 24 9 2 := ⟨by decide, by decide, in_t2 (List.mem_of_getElem? (i := 94) (by decide +kernel)) rfl⟩
theorem fl_X9_31 : zFl RX9 31 9 3 := ⟨by decide, by decide, in_t2 (List.mem_of_getElem? (i := 95) (by decide +kernel)) rfl⟩
theorem fl_X9_38 : zFl RX9 38 9 4 := ⟨by decide, by decide, in_t2 (List.mem_of_getElem? (i := 96) (by decide +kernel)) rfl⟩
theorem fl_X9_42 : zFl RX9 42 9 5 := ⟨by decide, by decide, in_t2 (List.mem_of_getElem? (i := 97) (by decide +kernel)) rfl⟩
theorem fl_X9_57 : zFl RX9 57 2 2 := ⟨by decide, by decide, in_t1 (List.mem_of_getElem? (i := 156) (by decide +kernel)) rfl⟩
theorem fl_X9_113 : zFl RX9 113 7 4 := ⟨by decide, by decide, in_t1 (List.mem_of_getElem? (i := 192) (by decide +kernel)) rfl⟩
theorem fl_X9_117 : zFl RX9 117 7 5 := ⟨by decide, by decide, in_t1 (List.mem_of_getElem? (i := 194) (by decide +kernel)) rfl⟩
theorem fl_X9_120 : zFl RX9 120 2 0 := ⟨by decide, by decide, in_t1 (List.mem_of_getElem? (i := 151) (by decide +kernel)) rfl⟩
theorem fl_X9_130 : zFl RX9 130 2 1 := ⟨by decide, by decide, in_t1 (List.mem_of_getElem? (i := 154) (by decide +kernel)) rfl⟩
theorem fl_X9_137 : zFl RX9 137 7 6 := ⟨by decide, by decide, in_t1 (List.mem_of_getElem? (i := 196) (by decide +kernel)) rfl⟩
theorem fl_X9_189 : zFl RX9 189 0 1 := ⟨by decide, by decide, in_t1 (List.mem_of_getElem? (i := 75) (by decide +kernel)) rfl⟩
theorem fl_X9_204 : zFl RX9 204 8 0 := ⟨by decide, by decide, in_t1 (List.mem_of_getElem? (i := 135) (by decide +kernel)) rfl⟩
theorem fl_X9_209 : zFl RX9 209 8 1 := ⟨by decide, by decide, in_t1 (List.mem_of_getElem? (i := 137) (by decide +kernel)) rfl⟩
theorem fl_X9_212 : zFl RX9 212 8 2 := ⟨by decide, by decide, in_t1 (List.mem_of_getElem? (i := 140) (by decide +kernel)) rfl⟩
theorem fl_X9_221 : zFl RX9 221 2 8 := ⟨by decide, by decide, in_t1 (List.mem_of_getElem? (i := 164) (by decide +kernel)) rfl⟩
theorem fl_X9_240 : zFl RX9 240 5 1 := ⟨by decide, by decide, in_t2 (List.mem_of_getElem? (i := 30) (by decide +kernel)) rfl⟩
theorem fl_X9_246 : zFl RX9 246 9 6 := ⟨by decide, by decide, in_t2 (List.mem_of_getElem? (i := 98) (by decide +kernel)) rfl⟩
theorem fl_X9_249 : zFl RX9 249 5 9 := ⟨by decide, by decide, in_t2 (List.mem_of_getElem? (i := 39) (by decide +kernel)) rfl⟩
theorem fl_X9_256 : zFl RX9 256 5 10 := ⟨by decide, by decide, in_t2 (List.mem_of_getElem? (i := 41) (by decide +kernel)) rfl⟩
theorem fl_X9_259 : zFl RX9 259 5 11 := ⟨by decide, by decide, in_t2 (List.mem_of_getElem? (i := 43) (by decide +kernel)) rfl⟩
theorem fl_X9_284 : zFl RX9 284 7 1 := ⟨by decide, by decide, in_t1 (List.mem_of_getElem? (i := 189) (by decide +kernel)) rfl⟩
theorem fl_X9_302 : zFl RX9 302 7 7 := ⟨by decide, by decide, in_t1 (List.mem_of_getElem? (i := 199) (by decide +kernel)) rfl⟩
theorem fl_X9_305 : zFl RX9 305 3 2 := ⟨by decide, by decide, in_t1 (List.mem_of_getElem? (i := 109) (by decide +kernel)) rfl⟩
theorem fl_X9_308 : zFl RX9 308 3 3 := ⟨by decide, by decide, in_t1 (List.mem_of_getElem? (i := 113) (by decide +kernel)) rfl⟩
theorem fl_X9_327 : zFl RX9 327 7 8 := ⟨by decide, by decide, in_t1 (List.mem_of_getElem? (i := 201) (by decide +kernel)) rfl⟩
theorem fl_X9_337 : zFl RX9 337 0 0 := ⟨by decide, by decide, in_t1 (List.mem_of_getElem? (i := 73) (by decide +kernel)) rfl⟩
theorem fl_X9_340 : zFl RX9 340 1 1 := ⟨by decide, by decide, in_t1 (List.mem_of_getElem? (i := 59) (by decide +kernel)) rfl⟩
theorem fl_X9_343 : zFl RX9 343 0 4 := ⟨by decide, by decide, in_t1 (List.mem_of_getElem? (i := 82) (by decide +kernel)) rfl⟩
theorem fl_X9_346 : zFl RX9 346 1 0 := ⟨by decide, by decide, in_t1 (List.mem_of_getElem? (i := 54) (by decide +kernel)) rfl⟩
theorem fl_X9_350 : zFl RX9 350 6 2 := ⟨by decide, by decide, in_t2 (List.mem_of_getElem? (i := 14) (by decide +kernel)) rfl⟩
theorem fl_X9_354 : zFl RX9 354 2 7 := ⟨by decide, by decide, in_t1 (List.mem_of_getElem? (i := 162) (by decide +kernel)) rfl⟩
theorem fl_X0_12 : zFl RX0 12 0 0 := ⟨by decide, by decide, in_t1 (List.mem_of_getElem? (i := 70) (by decide +kernel)) rfl⟩
theorem fl_X0_18 : zFl RX0 18 0 1 := ⟨by decide, by decide, in_t1 (List.mem_of_getElem? (i := 74) (by decide +kernel)) rfl⟩
theorem fl_X0_21 : zFl RX0 21 0 2 := ⟨by decide, by decide, in_t1 (List.mem_of_getElem? (i := 77) (by decide +kernel)) rfl⟩
theorem fl_X0_25 : zFl RX0 25 0 3 := ⟨by decide, by decide, in_t1 (List.mem_of_getElem? (i := 79) (by decide +kernel)) rfl⟩
theorem fl_X0_32 : zFl RX0 32 0 4 := ⟨by decide, by decide, in_t1 (List.mem_of_getElem? (i := 81) (by decide +kernel)) rfl⟩
theorem fl_X0_39 : zFl RX0 39 1 1 := ⟨by decide, by decide, in_t1 (List.mem_of_getElem? (i := 56) (by decide +kernel)) rfl⟩
theorem fl_X0_42 : zFl RX0 42 1 0 := ⟨by decide, by decide, in_t1 (List.mem_of_getElem? (i := 52) (by decide +kernel)) rfl⟩
theorem fl_X1_9 : zFl RX1 9 1 0 := ⟨by decide, by decide, in_t1 (List.mem_of_getElem? (i := 51) (by decide +kernel)) rfl⟩
theorem fl_X1_15 : zFl RX1 15 1 2 := ⟨by decide, by decide, in_t1 (List.mem_of_getElem? (i := 60) (by decide +kernel)) rfl⟩
theorem fl_X1_19 : zFl RX1 19 1 1 := ⟨by decide, by decide, in_t1 (List.mem_of_getElem? (i := 55) (by decide +kernel)) rfl⟩
theorem fl_X2_12 : zFl RX2 12 2 0 := ⟨by decide, by decide, in_t1 (List.mem_of_getElem? (i := 149) (by decide +kernel)) rfl⟩
theorem fl_X2_18 : zFl RX2 18 2 1 := ⟨by decide, by decide, in_t1 (List.mem_of_getElem? (i := 152) (by decide +kernel)) rfl⟩
theorem fl_X2_24 : zFl RX2 24 2 2 := ⟨by decide, by decide, in_t1 (List.mem_of_getElem? (i := 155) (by decide +kernel)) rfl⟩
theorem fl_X2_28 : zFl RX2 28 2 3 := ⟨by decide, by decide, in_t1 (List.mem_of_getElem? (i := 157) (by decide +kernel)) rfl⟩
theorem fl_X2_32 : zFl RX2 32 2 4 := ⟨by decide, by decide, in_t1 (List.mem_of_getElem? (i := 158) (by decide +kernel)) rfl⟩
theorem fl_X2_37 : zFl RX2 37 2 5 := ⟨by decide, by decide, in_t1 (List.mem_of_getElem? (i := 159) (by decide +kernel)) rfl⟩
theorem fl_X2_43 : zFl RX2 43 2 6 := ⟨by decide, by decide, in_t1 (List.mem_of_getElem? (i := 160) (by decide +kernel)) rfl⟩
theorem fl_X2_56 : zFl RX2 56 2 7 := ⟨by decide, by decide, in_t1 (List.mem_of_getElem? (i := 161) (by decide +kernel)) rfl⟩
theorem fl_X2_60 : zFl RX2 60 2 8 := ⟨by decide, by decide, in_t1 (List.mem_of_getElem? (i := 163) (by decide +kernel)) rfl⟩
theorem fl_X2_70 : zFl RX2 70 8 2 := ⟨by decide, by decide, in_t1 (List.mem_of_getElem? (i := 139) (by decide +kernel)) rfl⟩
theorem fl_X2_74 : zFl RX2 74 3 0 := ⟨by decide, by decide, in_t1 (List.mem_of_getElem? (i := 101) (by decide +kernel)) rfl⟩
theorem fl_X2_77 : zFl RX2 77 3 2 := ⟨by decide, by decide, in_t1 (List.mem_of_getElem? (i := 107) (by decide +kernel)) rfl⟩
theorem fl_X2_80 : zFl RX2 80 3 1 := ⟨by decide, by decide, in_t1 (List.mem_of_getElem? (i := 104) (by decide +kernel)) rfl⟩
theorem fl_X2_83 : zFl RX2 83 3 3 := ⟨by decide, by decide, in_t1 (List.mem_of_getElem? (i := 111) (by decide +kernel)) rfl⟩
theorem fl_X2_90 : zFl RX2 90 0 0 := ⟨by decide, by decide, in_t1 (List.mem_of_getElem? (i := 72) (by decide +kernel)) rfl⟩
theorem fl_X2_98 : zFl RX2 98 4 0 := ⟨by decide, by decide, in_t3 (List.mem_of_getElem? (i := 166) (by decide +kernel)) rfl⟩
theorem fl_X2_148 : zFl RX2 148 4 1 := ⟨by decide, by decide, in_t3 (List.mem_of_getElem? (i := 167) (by decide +kernel)) rfl⟩
theorem fl_X2_155 : zFl RX2 155 0 1 := ⟨by decide, by decide, in_t1 (List.mem_of_getElem? (i := 76) (by decide +kernel)) rfl⟩
theorem fl_X2_174 : zFl RX2 174 8 0 := ⟨by decide, by decide, in_t1 (List.mem_of_getElem? (i := 136) (by decide +kernel)) rfl⟩
theorem fl_X2_184 : zFl RX2 184 8 1 := ⟨by decide, by decide, in_t1 (List.mem_of_getElem? (i := 138) (by decide +kernel)) rfl⟩
theorem fl_X2_197 : zFl RX2 197 1 1 := ⟨by decide, by decide, in_t1 (List.mem_of_getElem? (i := 58) (by decide +kernel)) rfl⟩
theorem fl_X2_200 : zFl RX2 200 0 2 := ⟨by decide, by decide, in_t1 (List.mem_of_getElem? (i := 78) (by decide +kernel)) rfl⟩
theorem fl_X2_204 : zFl RX2 204 0 3 := ⟨by decide, by decide, in_t1 (List.mem_of_getElem? (i := 80) (by decide +kernel)) rfl⟩
theorem fl_X3_7 : zFl RX3 7 3 0 := ⟨by decide, by decide, in_t1 (List.mem_of_getElem? (i := 100) (by decide +kernel)) rfl⟩
theorem fl_X3_13 : zFl RX3 13 3 1 := ⟨by decide, by decide, in_t1 (List.mem_of_getElem? (i := 103) (by decide +kernel)) rfl⟩
theorem fl_X3_16 : zFl RX3 16 3 2 := ⟨by decide, by decide, in_t1 (List.mem_of_getElem? (i := 106) (by decide +kernel)) rfl⟩
theorem fl_X3_19 : zFl RX3 19 3 3 := ⟨by decide, by decide, in_t1 (List.mem_of_getElem? (i := 110) (by decide +kernel)) rfl⟩
theorem fl_X4_9 : zFl RX4 9 4 0 := ⟨by decide, by decide, in_t3 (List.mem_of_getElem? (i := 165) (by decide +kernel)) rfl⟩
theorem fl_X5_9 : zFl RX5 9 5 0 := ⟨by decide, by decide, in_t2 (List.mem_of_getElem? (i := 28) (by decide +kernel)) rfl⟩
theorem fl_X5_15 : zFl RX5 15 5 6 := ⟨by decide, by decide, in_t2 (List.mem_of_getElem? (i := 35) (by decide +kernel)) rfl⟩
theorem fl_X5_19 : zFl RX5 19 5 7 := ⟨by decide, by decide, in_t2 (List.mem_of_getElem? (i := 36) (by decide +kernel)) rfl⟩
theorem fl_X5_22 : zFl RX5 22 5 8 := ⟨by decide, by decide, in_t2 (List.mem_of_getElem? (i := 37) (by decide +kernel)) rfl⟩
theorem fl_X5_26 : zFl RX5 26 5 11 := ⟨by decide, by decide, in_t2 (List.mem_of_getElem? (i := 42) (by decide +kernel)) rfl⟩
theorem fl_X5_30 : zFl RX5 30 5 1 := ⟨by decide, by decide, in_t2 (List.mem_of_getElem? (i := 29) (by decide +kernel)) rfl⟩
theorem fl_X5_33 : zFl RX5 33 5 9 := ⟨by decide, by decide, in_t2 (List.mem_of_getElem? (i := 38) (by decide +kernel)) rfl⟩
theorem fl_X5_45 : zFl RX5 45 5 2 := ⟨by decide, by decide, in_t2 (List.mem_of_getElem? (i := 31) (by decide +kernel)) rfl⟩
theorem fl_X5_48 : zFl RX5 48 5 5 := ⟨by decide, by decide, in_t2 (List.mem_of_getElem? (i := 34) (by decide +kernel)) rfl⟩
theorem fl_X5_51 : zFl RX5 51 5 10 := ⟨by decide, by decide, in_t2 (List.mem_of_getElem? (i := 40) (by decide +kernel)) rfl⟩
theorem fl_X5_57 : zFl RX5 57 5 3 := ⟨by decide, by decide, in_t2 (List.mem_of_getElem? (i := 32) (by decide +kernel)) rfl⟩
theorem fl_X5_97 : zFl RX5 97 5 4 := ⟨by decide, by decide, in_t2 (List.mem_of_getElem? (i := 33) (by decide +kernel)) rfl⟩
theorem fl_X6_11 : zFl RX6 11 6 0 := ⟨by decide, by decide, in_t2 (List.mem_of_getElem? (i := 11) (by decide +kernel)) rfl⟩
theorem fl_X6_15 : zFl RX6 15 6 1 := ⟨by decide, by decide, in_t2 (List.mem_of_getElem? (i := 12) (by decide +kernel)) rfl⟩
theorem fl_X6_19 : zFl RX6 19 6 2 := ⟨by decide, by decide, in_t2 (List.mem_of_getElem? (i := 13) (by decide +kernel)) rfl⟩
theorem fl_X7_12 : zFl RX7 12 7 0 := ⟨by decide, by decide, in_t1 (List.mem_of_getElem? (i := 186) (by decide +kernel)) rfl⟩
theorem fl_X7_21 : zFl RX7 21 7 1 := ⟨by decide, by decide, in_t1 (List.mem_of_getElem? (i := 188) (by decide +kernel)) rfl⟩
theorem fl_X7_25 : zFl RX7 25 7 9 := ⟨by decide, by decide, in_t1 (List.mem_of_getElem? (i := 202) (by decide +kernel)) rfl⟩
theorem fl_X7_29 : zFl RX7 29 7 10 := ⟨by decide, by decide, in_t1 (List.mem_of_getElem? (i := 203) (by decide +kernel)) rfl⟩
theorem fl_X7_32 : zFl RX7 32 7 11 := ⟨by decide, by decide, in_t1 (List.mem_of_getElem? (i := 204) (by decide +kernel)) rfl⟩
theorem fl_X7_35 : zFl RX7 35 7 12 := ⟨by decide, by decide, in_t1 (List.mem_of_getElem? (i := 205) (by decide +kernel)) rfl⟩
theorem fl_X7_39 : zFl RX7 39 7 13 := ⟨by decide, by decide, in_t1 (List.mem_of_getElem? (i := 206) (by decide +kernel)) rfl⟩
theorem fl_X7_42 : zFl RX7 42 7 14 := ⟨by decide, by decide, in_t1 (List.mem_of_getElem? (i := 207) (by decide +kernel)) rfl⟩
theorem fl_X7_45 : zFl RX7 45 7 15 := ⟨by decide, by decide, in_t1 (List.mem_of_getElem? (i := 208) (by decide +kernel)) rfl⟩
theorem fl_X7_48 : zFl RX7 48 7 16 := ⟨by decide, by decide, in_t1 (List.mem_of_getElem? (i := 209) (by decide +kernel)) rfl⟩
theorem fl_X7_51 : zFl RX7 51 2 1 := ⟨by decide, by decide, in_t1 (List.mem_of_getElem? (i := 153) (by decide +kernel)) rfl⟩
theorem fl_X7_55 : zFl RX7 55 0 0 := ⟨by decide, by decide, in_t1 (List.mem_of_getElem? (i := 71) (by decide +kernel)) rfl⟩
theorem fl_X7_61 : zFl RX7 61 2 0 := ⟨by decide, by decide, in_t1 (List.mem_of_getElem? (i := 150) (by decide +kernel)) rfl⟩
theorem fl_X7_68 : zFl RX7 68 7 2 := ⟨by decide, by decide, in_t1 (List.mem_of_getElem? (i := 190) (by decide +kernel)) rfl⟩
theorem fl_X7_72 : zFl RX7 72 7 3 := ⟨by decide, by decide, in_t1 (List.mem_of_getElem? (i := 191) (by decide +kernel)) rfl⟩
theorem fl_X7_92 : zFl RX7 92 1 2 := ⟨by decide, by decide, in_t1 (List.mem_of_getElem? (i := 61) (by decide +kernel)) rfl⟩
theorem fl_X7_100 : zFl RX7 100 3 1 := ⟨by decide, by decide, in_t1 (List.mem_of_getElem? (i := 105) (by decide +kernel)) rfl⟩
theorem fl_X7_103 : zFl RX7 103 3 0 := ⟨by decide, by decide, in_t1 (List.mem_of_getElem? (i := 102) (by decide +kernel)) rfl⟩
theorem fl_X7_106 : zFl RX7 106 3 3 := ⟨by decide, by decide, in_t1 (List.mem_of_getElem? (i := 112) (by decide +kernel)) rfl⟩
theorem fl_X7_109 : zFl RX7 109 3 2 := ⟨by decide, by decide, in_t1 (List.mem_of_getElem? (i := 108) (by decide +kernel)) rfl⟩
theorem fl_X7_115 : zFl RX7 115 7 7 := ⟨by decide, by decide, in_t1 (List.mem_of_getElem? (i := 198) (by decide +kernel)) rfl⟩
theorem fl_X7_118 : zFl RX7 118 1 0 := ⟨by decide, by decide, in_t1 (List.mem_of_getElem? (i := 53) (by decide +kernel)) rfl⟩
theorem fl_X7_135 : zFl RX7 135 1 1 := ⟨by decide, by decide, in_t1 (List.mem_of_getElem? (i := 57) (by decide +kernel)) rfl⟩
theorem fl_X7_138 : zFl RX7 138 7 6 := ⟨by decide, by decide, in_t1 (List.mem_of_getElem? (i := 197) (by decide +kernel)) rfl⟩
theorem fl_X7_141 : zFl RX7 141 7 5 := ⟨by decide, by decide, in_t1 (List.mem_of_getElem? (i := 195) (by decide +kernel)) rfl⟩
theorem fl_X7_144 : zFl RX7 144 7 4 := ⟨by decide, by decide, in_t1 (List.mem_of_getElem? (i := 193) (by decide +kernel)) rfl⟩
theorem fl_X7_170 : zFl RX7 170 7 8 := ⟨by decide, by decide, in_t1 (List.mem_of_getElem? (i := 200) (by decide +kernel)) rfl⟩
theorem fl_X8_10 : zFl RX8 10 8 0 := ⟨by decide, by decide, in_t1 (List.mem_of_getElem? (i := 134) (by decide +kernel)) rfl⟩
theorem fl_X10_1 : zFl RX10 1 10 0 := ⟨by decide, by decide, in_t5 (List.mem_of_getElem? (i := 63) (by decide +kernel)) rfl⟩
theorem fl_X10_13 : zFl RX10 13 10 1 := ⟨by decide, by decide, in_t5 (List.mem_of_getElem? (i := 64) (by decide +kernel)) rfl⟩
theorem fl_X10_16 : zFl RX10 16 10 2 := ⟨by decide, by decide, in_t5 (List.mem_of_getElem? (i := 65) (by decide +kernel)) rfl⟩
theorem fl_X10_21 : zFl RX10 21 10 3 := ⟨by decide, by decide, in_t5 (List.mem_of_getElem? (i := 66) (by decide +kernel)) rfl⟩
theorem fl_X10_25 : zFl RX10 25 10 4 := ⟨by decide, by decide, in_t5 (List.mem_of_getElem? (i := 67) (by decide +kernel)) rfl⟩
theorem fl_X10_29 : zFl RX10 29 10 5 := ⟨by decide, by decide, in_t5 (List.mem_of_getElem? (i := 68) (by decide +kernel)) rfl⟩
theorem fl_X10_32 : zFl RX10 32 10 6 := ⟨by decide, by decide, in_t5 (List.mem_of_getElem? (i := 69) (by decide +kernel)) rfl⟩
theorem fl_X10_35 : zFl RX10 35 10 7 := ⟨by decide, by decide, in_t5 (List.mem_of_getElem? (i := 70) (by decide +kernel)) rfl⟩
theorem fl_X10_40 : zFl RX10 40 10 8 := ⟨by decide, by decide, in_t5 (List.mem_of_getElem? (i := 71) (by decide +kernel)) rfl⟩
theorem fl_X10_43 : zFl RX10 43 10 9 := ⟨by decide, by decide, in_t5 (List.mem_of_getElem? (i := 72) (by decide +kernel)) rfl⟩
theorem fl_X10_46 : zFl RX10 46 10 10 := ⟨by decide, by decide, in_t5 (List.mem_of_getElem? (i := 73) (by decide +kernel)) rfl⟩
theorem fl_X10_49 : zFl RX10 49 10 12 := ⟨by decide, by decide, in_t5 (List.mem_of_getElem? (i := 75) (by decide +kernel)) rfl⟩
theorem fl_X10_52 : zFl RX10 52 10 13 := ⟨by decide, by decide, in_t5 (List.mem_of_getElem? (i := 76) (by decide +kernel)) rfl⟩
theorem fl_X10_55 : zFl RX10 55 10 15 := ⟨by decide, by decide, in_t5 (List.mem_of_getElem? (i := 78) (by decide +kernel)) rfl⟩
theorem fl_X10_58 : zFl RX10 58 10 16 := ⟨by decide, by decide, in_t5 (List.mem_of_getElem? (i := 79) (by decide +kernel)) rfl⟩
theorem fl_X10_61 : zFl RX10 61 10 17 := ⟨by decide, by decide, in_t5 (List.mem_of_getElem? (i := 80) (by decide +kernel)) rfl⟩
theorem fl_X10_65 : zFl RX10 65 10 18 := ⟨by decide, by decide, in_t5 (List.mem_of_getElem? (i := 81) (by decide +kernel)) rfl⟩
theorem fl_X10_68 : zFl RX10 68 10 19 := ⟨by decide, by decide, in_t5 (List.mem_of_getElem? (i := 82) (by decide +kernel)) rfl⟩
theorem fl_X10_71 : zFl RX10 71 10 28 := ⟨by decide, by decide, in_t5 (List.mem_of_getElem? (i := 91) (by decide +kernel)) rfl⟩
theorem fl_X10_74 : zFl RX10 74 10 29 := ⟨by decide, by decide, in_t5 (List.mem_of_getElem? (i := 92) (by decide +kernel)) rfl⟩
theorem fl_X10_77 : zFl RX10 77 10 30 := ⟨by decide, by decide, in_t5 (List.mem_of_getElem? (i := 93) (by decide +kernel)) rfl⟩
theorem fl_X10_80 : zFl RX10 80 10 31 := ⟨by decide, by decide, in_t5 (List.mem_of_getElem? (i := 94) (by decide +kernel)) rfl⟩
theorem fl_X10_83 : zFl RX10 83 10 33 := ⟨by decide, by decide, in_t5 (List.mem_of_getElem? (i := 96) (by decide +kernel)) rfl⟩
theorem fl_X10_87 : zFl RX10 87 10 38 := ⟨by decide, by decide, in_t5 (List.mem_of_getElem? (i := 101) (by decide +kernel)) rfl⟩
theorem fl_X10_90 : zFl RX10 90 10 40 := ⟨by decide, by decide, in_t5 (List.mem_of_getElem? (i := 103) (by decide +kernel)) rfl⟩
theorem fl_X10_93 : zFl RX10 93 10 47 := ⟨by decide, by decide, in_t5 (List.mem_of_getElem? (i := 110) (by decide +kernel)) rfl⟩
theorem fl_X10_96 : zFl RX10 96 10 48 := ⟨by decide, by decide, in_t5 (List.mem_of_getElem? (i := 111) (by decide +kernel)) rfl⟩
theorem fl_X10_99 : zFl RX10 99 10 49 := ⟨by decide, by decide, in_t5 (List.mem_of_getElem? (i := 112) (by decide +kernel)) rfl⟩
theorem fl_X10_102 : zFl RX10 102 10 50 := ⟨by decide, by decide, in_t5 (List.mem_of_getElem? (i := 113) (by decide +kernel)) rfl⟩
theorem fl_X10_108 : zFl RX10 108 10 11 := ⟨by decide, by decide, in_t5 (List.mem_of_getElem? (i := 74) (by decide +kernel)) rfl⟩
theorem fl_X10_111 : zFl RX10 111 10 14 := ⟨by decide, by decide, in_t5 (List.mem_of_getElem? (i := 77) (by decide +kernel)) rfl⟩
theorem fl_X10_142 : zFl RX10 142 10 20 := ⟨by decide, by decide, in_t5 (List.mem_of_getElem? (i := 83) (by decide +kernel)) rfl⟩
theorem fl_X10_221 : zFl RX10 221 10 22 := ⟨by decide, by decide, in_t5 (List.mem_of_getElem? (i := 85) (by decide +kernel)) rfl⟩
theorem fl_X10_224 : zFl RX10 224 10 21 := ⟨by decide, by decide, in_t5 (List.mem_of_getElem? (i := 84) (by decide +kernel)) rfl⟩
theorem fl_X10_227 : zFl RX10 227 10 23 := ⟨by decide, by decide, in_t5 (List.mem_of_getElem? (i := 86) (by decide +kernel)) rfl⟩
theorem fl_X10_239 : zFl RX10 239 10 24 := ⟨by decide, by decide, in_t5 (List.mem_of_getElem? (i := 87) (by decide +kernel)) rfl⟩
theorem fl_X10_242 : zFl RX10 242 10 25 := ⟨by decide, by decide, in_t5 (List.mem_of_getElem? (i := 88) (by decide +kernel)) rfl⟩
theorem fl_X10_245 : zFl RX10 245 10 26 := ⟨by decide, by decide, in_t5 (List.mem_of_getElem? (i := 89) (by decide +kernel)) rfl⟩
theorem fl_X10_248 : zFl RX10 248 10 27 := ⟨by decide, by decide, in_t5 (List.mem_of_getElem? (i := 90) (by decide +kernel)) rfl⟩
theorem fl_X10_272 : zFl RX10 272 10 32 := ⟨by decide, by decide, in_t5 (List.mem_of_getElem? (i := 95) (by decide +kernel)) rfl⟩
theorem fl_X10_313 : zFl RX10 313 10 34 := ⟨by decide, by decide, in_t5 (List.mem_of_getElem? (i := 97) (by decide +kernel)) rfl⟩
theorem fl_X10_316 : zFl RX10 316 10 36 := ⟨by decide, by decide, in_t5 (List.mem_of_getElem? (i := 99) (by decide +kernel)) rfl⟩
theorem fl_X10_319 : zFl RX10 319 10 35 := ⟨by decide, by decide, in_t5 (List.mem_of_getElem? (i := 98) (by decide +kernel)) rfl⟩
theorem fl_X10_322 : zFl RX10 322 10 37 := ⟨by decide, by decide, in_t5 (List.mem_of_getElem? (i := 100) (by decide +kernel)) rfl⟩
theorem fl_X10_366 : zFl RX10 366 10 41 := ⟨by decide, by decide, in_t5 (List.mem_of_getElem? (i := 104) (by decide +kernel)) rfl⟩
theorem fl_X10_390 : zFl RX10 390 10 39 := ⟨by decide, by decide, in_t5 (List.mem_of_getElem? (i := 102) (by decide +kernel)) rfl⟩
theorem fl_X10_417 : zFl RX10 417 10 43 := ⟨by decide, by decide, in_t5 (List.mem_of_getElem? (i := 106) (by decide +kernel)) rfl⟩
theorem fl_X10_420 : zFl RX10 420 10 42 := ⟨by decide, by decide, in_t5 (List.mem_of_getElem? (i := 105) (by decide +kernel)) rfl⟩
theorem fl_X10_423 : zFl RX10 423 10 45 := ⟨by decide, by decide, in_t5 (List.mem_of_getElem? (i := 108) (by decide +kernel)) rfl⟩
theorem fl_X10_426 : zFl RX10 426 10 46 := ⟨by decide, by decide, in_t5 (List.mem_of_getElem? (i := 109) (by decide +kernel)) rfl⟩
theorem fl_X10_429 : zFl RX10 429 10 44 := ⟨by decide, by decide, in_t5 (List.mem_of_getElem? (i := 107) (by decide +kernel)) rfl⟩
abbrev MX9_init : AM := (yX9_init, cX9_init, 1, none)
theorem mt_X9_init : zMt MX9_init 0 := ⟨in_t1 (List.mem_of_getElem? (i := 23) (rfl)) rfl, in_t1 (List.mem_of_getElem? (i := 1) (by decide +kernel)) rfl, ⟨by decide, by decide⟩, by decide +kernel, by decide⟩
theorem min_X9_init : Cond.instanceMethod yX9_init ∈ lw_good := in_t1 (List.mem_of_getElem? (i := 22) (by decide +kernel)) rfl
abbrev MX7_init : AM := (yX7_init, cX7_init, 1, none)
theorem mt_X7_init : zMt MX7_init 0 := ⟨in_t1 (List.mem_of_getElem? (i := 31) (rfl)) rfl, in_t1 (List.mem_of_getElem? (i := 2) (by decide +kernel)) rfl, ⟨by decide, by decide⟩, by decide +kernel, by decide⟩
theorem min_X7_init : Cond.instanceMethod yX7_init ∈ lw_good := in_t1 (List.mem_of_getElem? (i := 30) (by decide +kernel)) rfl
abbrev MX2_init : AM := (yX2_init, cX2_init, 2, none)
theorem mt_X2_init : zMt MX2_init 0 := ⟨in_t1 (List.mem_of_getElem? (i := 37) (rfl)) rfl, in_t1 (List.mem_of_getElem? (i := 3) (by decide +kernel)) rfl, ⟨by decide, by decide⟩, by decide +kernel, by decide⟩
theorem min_X2_init : Cond.instanceMethod yX2_init ∈ lw_good := in_t1 (List.mem_of_getElem? (i := 36) (by decide +kernel)) rfl
abbrev MX0_init : AM := (yX0_init, cX0_init, 1, none)
theorem mt_X0_init : zMt MX0_init 0 := ⟨in_t1 (List.mem_of_getElem? (i := 43) (rfl)) rfl, in_t1 (List.mem_of_getElem? (i := 4) (by decide +kernel)) rfl, ⟨by decide, by decide⟩, by decide +kernel, by decide⟩
theorem min_X0_init : Cond.instanceMethod yX0_init ∈ lw_good := in_t1 (List.mem_of_getElem? (i := 42) (by decide +kernel)) rfl
abbrev MX1_init : AM := (yX1_init, cX1_init, 1, none)
theorem mt_X1_init : zMt MX1_init 0 := ⟨in_t1 (List.mem_of_getElem? (i := 49) (rfl)) rfl, in_t1 (List.mem_of_getElem? (i := 5) (by decide +kernel)) rfl, ⟨by decide, by decide⟩, by decide +kernel, by decide⟩
theorem min_X1_init : Cond.instanceMethod yX1_init ∈ lw_good := in_t1 (List.mem_of_getElem? (i := 48) (by decide +kernel)) rfl
abbrev MX3_init : AM := (yX3_init, cX3_init, 1, none)
theorem mt_X3_init : zMt MX3_init 0 := ⟨in_t1 (List.mem_of_getElem? (i := 98) (rfl)) rfl, in_t1 (List.mem_of_getElem? (i := 6) (by decide +kernel)) rfl, ⟨by decide, by decide⟩, by decide +kernel, by decide⟩
theorem min_X3_init : Cond.instanceMethod yX3_init ∈ lw_good := in_t1 (List.mem_of_getElem? (i := 97) (by decide +kernel)) rfl
abbrev MX8_init : AM := (yX8_init, cX8_init, 1, none)
theorem mt_X8_init : zMt MX8_init 0 := ⟨in_t1 (List.mem_of_getElem? (i := 130) (rfl)) rfl, in_t1 (List.mem_of_getElem? (i := 7) (by decide +kernel)) rfl, ⟨by decide, by decide⟩, by decide +kernel, by decide⟩
theorem min_X8_init : Cond.instanceMethod yX8_init ∈ lw_good := in_t1 (List.mem_of_getElem? (i := 129) (by decide +kernel)) rfl
abbrev MX6_init : AM := (yX6_init, cX6_init, 1, none)
theorem mt_X6_init : zMt MX6_init 0 := ⟨in_t2 (List.mem_of_getElem? (i := 9) (rfl)) rfl, in_t1 (List.mem_of_getElem? (i := 8) (by decide +kernel)) rfl, ⟨by decide, by decide⟩, by decide +kernel, by decide⟩
theorem min_X6_init : Cond.instanceMethod yX6_init ∈ lw_good := in_t2 (List.mem_of_getElem? (i := 8) (by decide +kernel)) rfl
abbrev MX5_init : AM := (yX5_init, cX5_init, 1, none)
theorem mt_X5_init : zMt MX5_init 0 := ⟨in_t2 (List.mem_of_getElem? (i := 26) (rfl)) rfl, in_t1 (List.mem_of_getElem? (i := 9) (by decide +kernel)) rfl, ⟨by decide, by decide⟩, by decide +kernel, by decide⟩
theorem min_X5_init : Cond.instanceMethod yX5_init ∈ lw_good := in_t2 (List.mem_of_getElem? (i := 25) (by decide +kernel)) rfl
abbrev MX2_clear : AM := (yX2_clear, cX2_clear, 6, none)
theorem mt_X2_clear : zMt MX2_clear 3 := ⟨in_t2 (List.mem_of_getElem? (i := 76) (rfl)) rfl, in_t1 (List.mem_of_getElem? (i := 3) (by decide +kernel)) rfl, ⟨by decide, by decide⟩, by decide +kernel, by decide⟩
theorem min_X2_clear : Cond.instanceMethod yX2_clear ∈ lw_good := in_t2 (List.mem_of_getElem? (i := 74) (by decide +kernel)) rfl
theorem mse_X2_clear : Cond.selects RX2 yX2_clear yX2_clear ∈ lw_good := in_t2 (List.mem_of_getElem? (i := 75) (by decide +kernel)) rfl
abbrev MX0_clear : AM := (yX0_clear, cX0_clear, 2, none)
theorem mt_X0_clear : zMt MX0_clear 1 := ⟨in_t2 (List.mem_of_getElem? (i := 80) (rfl)) rfl, in_t1 (List.mem_of_getElem? (i := 4) (by decide +kernel)) rfl, ⟨by decide, by decide⟩, by decide +kernel, by decide⟩
theorem min_X0_clear : Cond.instanceMethod yX0_clear ∈ lw_good := in_t2 (List.mem_of_getElem? (i := 78) (by decide +kernel)) rfl
theorem mse_X0_clear : Cond.selects RX0 yX0_clear yX0_clear ∈ lw_good := in_t2 (List.mem_of_getElem? (i := 79) (by decide +kernel)) rfl
abbrev MX1_clear : AM := (yX1_clear, cX1_clear, 2, none)
theorem mt_X1_clear : zMt MX1_clear 1 := ⟨in_t2 (List.mem_of_getElem? (i := 84) (rfl)) rfl, in_t1 (List.mem_of_getElem? (i := 5) (by decide +kernel)) rfl, ⟨by decide, by decide⟩, by decide +kernel, by decide⟩
theorem min_X1_clear : Cond.instanceMethod yX1_clear ∈ lw_good := in_t2 (List.mem_of_getElem? (i := 82) (by decide +kernel)) rfl
theorem mse_X1_clear : Cond.selects RX1 yX1_clear yX1_clear ∈ lw_good := in_t2 (List.mem_of_getElem? (i := 83) (by decide +kernel)) rfl
abbrev MX3_set : AM := (yX3_set, cX3_set, 5, none)
theorem mt_X3_set : zMt MX3_set 4 := ⟨in_t2 (List.mem_of_getElem? (i := 88) (rfl)) rfl, in_t1 (List.mem_of_getElem? (i := 6) (by decide +kernel)) rfl, ⟨by decide, by decide⟩, by decide +kernel, by decide⟩
theorem min_X3_set : Cond.instanceMethod yX3_set ∈ lw_good := in_t2 (List.mem_of_getElem? (i := 86) (by decide +kernel)) rfl
theorem mse_X3_set : Cond.selects RX3 yX3_set yX3_set ∈ lw_good := in_t2 (List.mem_of_getElem? (i := 87) (by decide +kernel)) rfl
abbrev MJ7_fill_d0a16 : AM := (yJ7_fill_d0a16, cJ7_fill_d0a16, 5, none)
theorem mt_J7_fill_d0a16 : zMt MJ7_fill_d0a16 2 := ⟨in_t2 (List.mem_of_getElem? (i := 91) (rfl)) rfl, in_t1 (List.mem_of_getElem? (i := 10) (by decide +kernel)) rfl, ⟨by decide, by decide⟩, by decide +kernel, by decide⟩
theorem mst_J7_fill_d0a16 : Cond.static yJ7_fill_d0a16 ∈ lw_good := in_t2 (List.mem_of_getElem? (i := 90) (by decide +kernel)) rfl
abbrev MX9_world : AM := (yX9_world, cX9_world, 5, (some .long))
theorem mt_X9_world : zMt MX9_world 3 := ⟨in_t2 (List.mem_of_getElem? (i := 117) (rfl)) rfl, in_t1 (List.mem_of_getElem? (i := 1) (by decide +kernel)) rfl, ⟨by decide, by decide⟩, by decide +kernel, by decide⟩
theorem min_X9_world : Cond.instanceMethod yX9_world ∈ lw_good := in_t2 (List.mem_of_getElem? (i := 115) (by decide +kernel)) rfl
theorem mse_X9_world : Cond.selects RX9 yX9_world yX9_world ∈ lw_good := in_t2 (List.mem_of_getElem? (i := 116) (by decide +kernel)) rfl
abbrev MX6_clear : AM := (yX6_clear, cX6_clear, 1, none)
theorem mt_X6_clear : zMt MX6_clear 0 := ⟨in_t2 (List.mem_of_getElem? (i := 122) (rfl)) rfl, in_t1 (List.mem_of_getElem? (i := 8) (by decide +kernel)) rfl, ⟨by decide, by decide⟩, by decide +kernel, by decide⟩
theorem min_X6_clear : Cond.instanceMethod yX6_clear ∈ lw_good := in_t2 (List.mem_of_getElem? (i := 120) (by decide +kernel)) rfl
theorem mse_X6_clear : Cond.selects RX6 yX6_clear yX6_clear ∈ lw_good := in_t2 (List.mem_of_getElem? (i := 121) (by decide +kernel)) rfl
abbrev MX3_cells : AM := (yX3_cells, cX3_cells, 1, (some .long))
theorem mt_X3_cells : zMt MX3_cells 0 := ⟨in_t2 (List.mem_of_getElem? (i := 126) (rfl)) rfl, in_t1 (List.mem_of_getElem? (i := 6) (by decide +kernel)) rfl, ⟨by decide, by decide⟩, by decide +kernel, by decide⟩
theorem min_X3_cells : Cond.instanceMethod yX3_cells ∈ lw_good := in_t2 (List.mem_of_getElem? (i := 124) (by decide +kernel)) rfl
theorem mse_X3_cells : Cond.selects RX3 yX3_cells yX3_cells ∈ lw_good := in_t2 (List.mem_of_getElem? (i := 125) (by decide +kernel)) rfl
abbrev MX3_width : AM := (yX3_width, cX3_width, 1, (some .int))
theorem mt_X3_width : zMt MX3_width 0 := ⟨in_t2 (List.mem_of_getElem? (i := 130) (rfl)) rfl, in_t1 (List.mem_of_getElem? (i := 6) (by decide +kernel)) rfl, ⟨by decide, by decide⟩, by decide +kernel, by decide⟩
theorem min_X3_width : Cond.instanceMethod yX3_width ∈ lw_good := in_t2 (List.mem_of_getElem? (i := 128) (by decide +kernel)) rfl
theorem mse_X3_width : Cond.selects RX3 yX3_width yX3_width ∈ lw_good := in_t2 (List.mem_of_getElem? (i := 129) (by decide +kernel)) rfl
abbrev MX3_height : AM := (yX3_height, cX3_height, 1, (some .int))
theorem mt_X3_height : zMt MX3_height 0 := ⟨in_t2 (List.mem_of_getElem? (i := 134) (rfl)) rfl, in_t1 (List.mem_of_getElem? (i := 6) (by decide +kernel)) rfl, ⟨by decide, by decide⟩, by decide +kernel, by decide⟩
theorem min_X3_height : Cond.instanceMethod yX3_height ∈ lw_good := in_t2 (List.mem_of_getElem? (i := 132) (by decide +kernel)) rfl
theorem mse_X3_height : Cond.selects RX3 yX3_height yX3_height ∈ lw_good := in_t2 (List.mem_of_getElem? (i := 133) (by decide +kernel)) rfl
abbrev MX9_add : AM := (yX9_add, cX9_add, 8, (some .long))
theorem mt_X9_add : zMt MX9_add 6 := ⟨in_t2 (List.mem_of_getElem? (i := 138) (rfl)) rfl, in_t1 (List.mem_of_getElem? (i := 1) (by decide +kernel)) rfl, ⟨by decide, by decide⟩, by decide +kernel, by decide⟩
theorem min_X9_add : Cond.instanceMethod yX9_add ∈ lw_good := in_t2 (List.mem_of_getElem? (i := 136) (by decide +kernel)) rfl
theorem mse_X9_add : Cond.selects RX9 yX9_add yX9_add ∈ lw_good := in_t2 (List.mem_of_getElem? (i := 137) (by decide +kernel)) rfl
abbrev MX9_isGood : AM := (yX9_isGood, cX9_isGood, 1, (some .boolean))
theorem mt_X9_isGood : zMt MX9_isGood 1 := ⟨in_t2 (List.mem_of_getElem? (i := 141) (rfl)) rfl, in_t1 (List.mem_of_getElem? (i := 1) (by decide +kernel)) rfl, ⟨by decide, by decide⟩, by decide +kernel, by decide⟩
theorem mst_X9_isGood : Cond.static yX9_isGood ∈ lw_good := in_t2 (List.mem_of_getElem? (i := 140) (by decide +kernel)) rfl
abbrev MX9_ask : AM := (yX9_ask, cX9_ask, 5, (some .boolean))
theorem mt_X9_ask : zMt MX9_ask 4 := ⟨in_t2 (List.mem_of_getElem? (i := 145) (rfl)) rfl, in_t1 (List.mem_of_getElem? (i := 1) (by decide +kernel)) rfl, ⟨by decide, by decide⟩, by decide +kernel, by decide⟩
theorem min_X9_ask : Cond.instanceMethod yX9_ask ∈ lw_good := in_t2 (List.mem_of_getElem? (i := 144) (by decide +kernel)) rfl
theorem mse_X9_ask : Cond.selects RX9 yX9_ask yX9_ask ∈ lw_good := good_at 0 (by decide +kernel) rfl
abbrev MX2_holds : AM := (yX2_holds, cX2_holds, 2, (some .boolean))
theorem mt_X2_holds : zMt MX2_holds 1 := ⟨in_t2 (List.mem_of_getElem? (i := 150) (rfl)) rfl, in_t1 (List.mem_of_getElem? (i := 3) (by decide +kernel)) rfl, ⟨by decide, by decide⟩, by decide +kernel, by decide⟩
theorem min_X2_holds : Cond.instanceMethod yX2_holds ∈ lw_good := in_t2 (List.mem_of_getElem? (i := 148) (by decide +kernel)) rfl
theorem mse_X2_holds : Cond.selects RX2 yX2_holds yX2_holds ∈ lw_good := in_t2 (List.mem_of_getElem? (i := 149) (by decide +kernel)) rfl
abbrev MX2_addRefusal : AM := (yX2_addRefusal, cX2_addRefusal, 7, (some .int))
theorem mt_X2_addRefusal : zMt MX2_addRefusal 3 := ⟨in_t2 (List.mem_of_getElem? (i := 157) (rfl)) rfl, in_t1 (List.mem_of_getElem? (i := 3) (by decide +kernel)) rfl, ⟨by decide, by decide⟩, by decide +kernel, by decide⟩
theorem min_X2_addRefusal : Cond.instanceMethod yX2_addRefusal ∈ lw_good := in_t2 (List.mem_of_getElem? (i := 155) (by decide +kernel)) rfl
theorem mse_X2_addRefusal : Cond.selects RX2 yX2_addRefusal yX2_addRefusal ∈ lw_good := in_t2 (List.mem_of_getElem? (i := 156) (by decide +kernel)) rfl
abbrev MX2_leastIn : AM := (yX2_leastIn, cX2_leastIn, 9, (some .long))
theorem mt_X2_leastIn : zMt MX2_leastIn 2 := ⟨in_t2 (List.mem_of_getElem? (i := 161) (rfl)) rfl, in_t1 (List.mem_of_getElem? (i := 3) (by decide +kernel)) rfl, ⟨by decide, by decide⟩, by decide +kernel, by decide⟩
theorem min_X2_leastIn : Cond.instanceMethod yX2_leastIn ∈ lw_good := in_t2 (List.mem_of_getElem? (i := 159) (by decide +kernel)) rfl
theorem mse_X2_leastIn : Cond.selects RX2 yX2_leastIn yX2_leastIn ∈ lw_good := in_t2 (List.mem_of_getElem? (i := 160) (by decide +kernel)) rfl
abbrev MX1_bandOf : AM := (yX1_bandOf, cX1_bandOf, 6, (some .int))
theorem mt_X1_bandOf : zMt MX1_bandOf 1 := ⟨in_t2 (List.mem_of_getElem? (i := 166) (rfl)) rfl, in_t1 (List.mem_of_getElem? (i := 5) (by decide +kernel)) rfl, ⟨by decide, by decide⟩, by decide +kernel, by decide⟩
theorem min_X1_bandOf : Cond.instanceMethod yX1_bandOf ∈ lw_good := in_t2 (List.mem_of_getElem? (i := 164) (by decide +kernel)) rfl
theorem mse_X1_bandOf : Cond.selects RX1 yX1_bandOf yX1_bandOf ∈ lw_good := in_t2 (List.mem_of_getElem? (i := 165) (by decide +kernel)) rfl
abbrev MX2_unitsAt : AM := (yX2_unitsAt, cX2_unitsAt, 3, (some .long))
theorem mt_X2_unitsAt : zMt MX2_unitsAt 2 := ⟨in_t2 (List.mem_of_getElem? (i := 170) (rfl)) rfl, in_t1 (List.mem_of_getElem? (i := 3) (by decide +kernel)) rfl, ⟨by decide, by decide⟩, by decide +kernel, by decide⟩
theorem min_X2_unitsAt : Cond.instanceMethod yX2_unitsAt ∈ lw_good := in_t2 (List.mem_of_getElem? (i := 168) (by decide +kernel)) rfl
theorem mse_X2_unitsAt : Cond.selects RX2 yX2_unitsAt yX2_unitsAt ∈ lw_good := in_t2 (List.mem_of_getElem? (i := 169) (by decide +kernel)) rfl
abbrev MX2_mostIn : AM := (yX2_mostIn, cX2_mostIn, 9, (some .long))
theorem mt_X2_mostIn : zMt MX2_mostIn 2 := ⟨in_t2 (List.mem_of_getElem? (i := 177) (rfl)) rfl, in_t1 (List.mem_of_getElem? (i := 3) (by decide +kernel)) rfl, ⟨by decide, by decide⟩, by decide +kernel, by decide⟩
theorem min_X2_mostIn : Cond.instanceMethod yX2_mostIn ∈ lw_good := in_t2 (List.mem_of_getElem? (i := 175) (by decide +kernel)) rfl
theorem mse_X2_mostIn : Cond.selects RX2 yX2_mostIn yX2_mostIn ∈ lw_good := in_t2 (List.mem_of_getElem? (i := 176) (by decide +kernel)) rfl
abbrev MX2_commonCells : AM := (yX2_commonCells, cX2_commonCells, 6, (some .long))
theorem mt_X2_commonCells : zMt MX2_commonCells 2 := ⟨in_t2 (List.mem_of_getElem? (i := 183) (rfl)) rfl, in_t1 (List.mem_of_getElem? (i := 3) (by decide +kernel)) rfl, ⟨by decide, by decide⟩, by decide +kernel, by decide⟩
theorem mst_X2_commonCells : Cond.static yX2_commonCells ∈ lw_good := in_t2 (List.mem_of_getElem? (i := 182) (by decide +kernel)) rfl
abbrev MX2_sumOf : AM := (yX2_sumOf, cX2_sumOf, 6, (some .long))
theorem mt_X2_sumOf : zMt MX2_sumOf 2 := ⟨in_t2 (List.mem_of_getElem? (i := 193) (rfl)) rfl, in_t1 (List.mem_of_getElem? (i := 3) (by decide +kernel)) rfl, ⟨by decide, by decide⟩, by decide +kernel, by decide⟩
theorem min_X2_sumOf : Cond.instanceMethod yX2_sumOf ∈ lw_good := in_t2 (List.mem_of_getElem? (i := 191) (by decide +kernel)) rfl
theorem mse_X2_sumOf : Cond.selects RX2 yX2_sumOf yX2_sumOf ∈ lw_good := in_t2 (List.mem_of_getElem? (i := 192) (by decide +kernel)) rfl
abbrev MX2_sumBy : AM := (yX2_sumBy, cX2_sumBy, 16, (some .long))
theorem mt_X2_sumBy : zMt MX2_sumBy 5 := ⟨in_t2 (List.mem_of_getElem? (i := 197) (rfl)) rfl, in_t1 (List.mem_of_getElem? (i := 3) (by decide +kernel)) rfl, ⟨by decide, by decide⟩, by decide +kernel, by decide⟩
theorem min_X2_sumBy : Cond.instanceMethod yX2_sumBy ∈ lw_good := in_t2 (List.mem_of_getElem? (i := 195) (by decide +kernel)) rfl
theorem mse_X2_sumBy : Cond.selects RX2 yX2_sumBy yX2_sumBy ∈ lw_good := in_t2 (List.mem_of_getElem? (i := 196) (by decide +kernel)) rfl
abbrev MX1_overlap : AM := (yX1_overlap, cX1_overlap, 6, (some .int))
theorem mt_X1_overlap : zMt MX1_overlap 3 := ⟨in_t2 (List.mem_of_getElem? (i := 201) (rfl)) rfl, in_t1 (List.mem_of_getElem? (i := 5) (by decide +kernel)) rfl, ⟨by decide, by decide⟩, by decide +kernel, by decide⟩
theorem min_X1_overlap : Cond.instanceMethod yX1_overlap ∈ lw_good := in_t2 (List.mem_of_getElem? (i := 199) (by decide +kernel)) rfl
theorem mse_X1_overlap : Cond.selects RX1 yX1_overlap yX1_overlap ∈ lw_good := in_t2 (List.mem_of_getElem? (i := 200) (by decide +kernel)) rfl
abbrev MX2_plan : AM := (yX2_plan, cX2_plan, 2, none)
theorem mt_X2_plan : zMt MX2_plan 1 := ⟨in_t2 (List.mem_of_getElem? (i := 207) (rfl)) rfl, in_t1 (List.mem_of_getElem? (i := 3) (by decide +kernel)) rfl, ⟨by decide, by decide⟩, by decide +kernel, by decide⟩
theorem min_X2_plan : Cond.instanceMethod yX2_plan ∈ lw_good := in_t2 (List.mem_of_getElem? (i := 205) (by decide +kernel)) rfl
theorem mse_X2_plan : Cond.selects RX2 yX2_plan yX2_plan ∈ lw_good := in_t2 (List.mem_of_getElem? (i := 206) (by decide +kernel)) rfl
abbrev MX1_copy : AM := (yX1_copy, cX1_copy, 2, none)
theorem mt_X1_copy : zMt MX1_copy 1 := ⟨in_t2 (List.mem_of_getElem? (i := 211) (rfl)) rfl, in_t1 (List.mem_of_getElem? (i := 5) (by decide +kernel)) rfl, ⟨by decide, by decide⟩, by decide +kernel, by decide⟩
theorem min_X1_copy : Cond.instanceMethod yX1_copy ∈ lw_good := in_t2 (List.mem_of_getElem? (i := 209) (by decide +kernel)) rfl
theorem mse_X1_copy : Cond.selects RX1 yX1_copy yX1_copy ∈ lw_good := in_t2 (List.mem_of_getElem? (i := 210) (by decide +kernel)) rfl
abbrev MX2_planMore : AM := (yX2_planMore, cX2_planMore, 2, none)
theorem mt_X2_planMore : zMt MX2_planMore 1 := ⟨in_t2 (List.mem_of_getElem? (i := 218) (rfl)) rfl, in_t1 (List.mem_of_getElem? (i := 3) (by decide +kernel)) rfl, ⟨by decide, by decide⟩, by decide +kernel, by decide⟩
theorem min_X2_planMore : Cond.instanceMethod yX2_planMore ∈ lw_good := in_t2 (List.mem_of_getElem? (i := 216) (by decide +kernel)) rfl
theorem mse_X2_planMore : Cond.selects RX2 yX2_planMore yX2_planMore ∈ lw_good := in_t2 (List.mem_of_getElem? (i := 217) (by decide +kernel)) rfl
abbrev MX0_planSpan : AM := (yX0_planSpan, cX0_planSpan, 3, none)
theorem mt_X0_planSpan : zMt MX0_planSpan 2 := ⟨in_t2 (List.mem_of_getElem? (i := 222) (rfl)) rfl, in_t1 (List.mem_of_getElem? (i := 4) (by decide +kernel)) rfl, ⟨by decide, by decide⟩, by decide +kernel, by decide⟩
theorem min_X0_planSpan : Cond.instanceMethod yX0_planSpan ∈ lw_good := in_t2 (List.mem_of_getElem? (i := 220) (by decide +kernel)) rfl
theorem mse_X0_planSpan : Cond.selects RX0 yX0_planSpan yX0_planSpan ∈ lw_good := in_t2 (List.mem_of_getElem? (i := 221) (by decide +kernel)) rfl
abbrev MX1_put : AM := (yX1_put, cX1_put, 4, none)
theorem mt_X1_put : zMt MX1_put 1 := ⟨in_t2 (List.mem_of_getElem? (i := 226) (rfl)) rfl, in_t1 (List.mem_of_getElem? (i := 5) (by decide +kernel)) rfl, ⟨by decide, by decide⟩, by decide +kernel, by decide⟩
theorem min_X1_put : Cond.instanceMethod yX1_put ∈ lw_good := in_t2 (List.mem_of_getElem? (i := 224) (by decide +kernel)) rfl
theorem mse_X1_put : Cond.selects RX1 yX1_put yX1_put ∈ lw_good := in_t2 (List.mem_of_getElem? (i := 225) (by decide +kernel)) rfl
abbrev MX2_plansTooMany : AM := (yX2_plansTooMany, cX2_plansTooMany, 1, (some .boolean))
theorem mt_X2_plansTooMany : zMt MX2_plansTooMany 0 := ⟨in_t2 (List.mem_of_getElem? (i := 231) (rfl)) rfl, in_t1 (List.mem_of_getElem? (i := 3) (by decide +kernel)) rfl, ⟨by decide, by decide⟩, by decide +kernel, by decide⟩
theorem min_X2_plansTooMany : Cond.instanceMethod yX2_plansTooMany ∈ lw_good := in_t2 (List.mem_of_getElem? (i := 229) (by decide +kernel)) rfl
theorem mse_X2_plansTooMany : Cond.selects RX2 yX2_plansTooMany yX2_plansTooMany ∈ lw_good := in_t2 (List.mem_of_getElem? (i := 230) (by decide +kernel)) rfl
abbrev MX0_plansTooMany : AM := (yX0_plansTooMany, cX0_plansTooMany, 1, (some .boolean))
theorem mt_X0_plansTooMany : zMt MX0_plansTooMany 0 := ⟨in_t2 (List.mem_of_getElem? (i := 235) (rfl)) rfl, in_t1 (List.mem_of_getElem? (i := 4) (by decide +kernel)) rfl, ⟨by decide, by decide⟩, by decide +kernel, by decide⟩
theorem min_X0_plansTooMany : Cond.instanceMethod yX0_plansTooMany ∈ lw_good := in_t2 (List.mem_of_getElem? (i := 233) (by decide +kernel)) rfl
theorem mse_X0_plansTooMany : Cond.selects RX0 yX0_plansTooMany yX0_plansTooMany ∈ lw_good := in_t2 (List.mem_of_getElem? (i := 234) (by decide +kernel)) rfl
abbrev MX2_startTrial : AM := (yX2_startTrial, cX2_startTrial, 5, none)
theorem mt_X2_startTrial : zMt MX2_startTrial 1 := ⟨in_t3 (List.mem_of_getElem? (i := 0) (rfl)) rfl, in_t1 (List.mem_of_getElem? (i := 3) (by decide +kernel)) rfl, ⟨by decide, by decide⟩, by decide +kernel, by decide⟩
theorem min_X2_startTrial : Cond.instanceMethod yX2_startTrial ∈ lw_good := in_t2 (List.mem_of_getElem? (i := 238) (by decide +kernel)) rfl
theorem mse_X2_startTrial : Cond.selects RX2 yX2_startTrial yX2_startTrial ∈ lw_good := in_t2 (List.mem_of_getElem? (i := 239) (by decide +kernel)) rfl
abbrev MX0_traceOrigins : AM := (yX0_traceOrigins, cX0_traceOrigins, 2, none)
theorem mt_X0_traceOrigins : zMt MX0_traceOrigins 0 := ⟨in_t3 (List.mem_of_getElem? (i := 4) (rfl)) rfl, in_t1 (List.mem_of_getElem? (i := 4) (by decide +kernel)) rfl, ⟨by decide, by decide⟩, by decide +kernel, by decide⟩
theorem min_X0_traceOrigins : Cond.instanceMethod yX0_traceOrigins ∈ lw_good := in_t3 (List.mem_of_getElem? (i := 2) (by decide +kernel)) rfl
theorem mse_X0_traceOrigins : Cond.selects RX0 yX0_traceOrigins yX0_traceOrigins ∈ lw_good := in_t3 (List.mem_of_getElem? (i := 3) (by decide +kernel)) rfl
abbrev MX2_raise : AM := (yX2_raise, cX2_raise, 8, none)
theorem mt_X2_raise : zMt MX2_raise 2 := ⟨in_t3 (List.mem_of_getElem? (i := 9) (rfl)) rfl, in_t1 (List.mem_of_getElem? (i := 3) (by decide +kernel)) rfl, ⟨by decide, by decide⟩, by decide +kernel, by decide⟩
theorem min_X2_raise : Cond.instanceMethod yX2_raise ∈ lw_good := in_t3 (List.mem_of_getElem? (i := 7) (by decide +kernel)) rfl
theorem mse_X2_raise : Cond.selects RX2 yX2_raise yX2_raise ∈ lw_good := in_t3 (List.mem_of_getElem? (i := 8) (by decide +kernel)) rfl
abbrev MX9_keep : AM := (yX9_keep, cX9_keep, 5, none)
theorem mt_X9_keep : zMt MX9_keep 3 := ⟨in_t3 (List.mem_of_getElem? (i := 13) (rfl)) rfl, in_t1 (List.mem_of_getElem? (i := 1) (by decide +kernel)) rfl, ⟨by decide, by decide⟩, by decide +kernel, by decide⟩
theorem min_X9_keep : Cond.instanceMethod yX9_keep ∈ lw_good := in_t3 (List.mem_of_getElem? (i := 12) (by decide +kernel)) rfl
theorem mse_X9_keep : Cond.selects RX9 yX9_keep yX9_keep ∈ lw_good := good_at 1 (by decide +kernel) rfl
abbrev MX2_adopt : AM := (yX2_adopt, cX2_adopt, 4, none)
theorem mt_X2_adopt : zMt MX2_adopt 1 := ⟨in_t3 (List.mem_of_getElem? (i := 17) (rfl)) rfl, in_t1 (List.mem_of_getElem? (i := 3) (by decide +kernel)) rfl, ⟨by decide, by decide⟩, by decide +kernel, by decide⟩
theorem min_X2_adopt : Cond.instanceMethod yX2_adopt ∈ lw_good := in_t3 (List.mem_of_getElem? (i := 15) (by decide +kernel)) rfl
theorem mse_X2_adopt : Cond.selects RX2 yX2_adopt yX2_adopt ∈ lw_good := in_t3 (List.mem_of_getElem? (i := 16) (by decide +kernel)) rfl
abbrev MX0_grows : AM := (yX0_grows, cX0_grows, 1, (some .boolean))
theorem mt_X0_grows : zMt MX0_grows 0 := ⟨in_t3 (List.mem_of_getElem? (i := 21) (rfl)) rfl, in_t1 (List.mem_of_getElem? (i := 4) (by decide +kernel)) rfl, ⟨by decide, by decide⟩, by decide +kernel, by decide⟩
theorem min_X0_grows : Cond.instanceMethod yX0_grows ∈ lw_good := in_t3 (List.mem_of_getElem? (i := 19) (by decide +kernel)) rfl
theorem mse_X0_grows : Cond.selects RX0 yX0_grows yX0_grows ∈ lw_good := in_t3 (List.mem_of_getElem? (i := 20) (by decide +kernel)) rfl
abbrev MX2_refine : AM := (yX2_refine, cX2_refine, 7, none)
theorem mt_X2_refine : zMt MX2_refine 1 := ⟨in_t3 (List.mem_of_getElem? (i := 25) (rfl)) rfl, in_t1 (List.mem_of_getElem? (i := 3) (by decide +kernel)) rfl, ⟨by decide, by decide⟩, by decide +kernel, by decide⟩
theorem min_X2_refine : Cond.instanceMethod yX2_refine ∈ lw_good := in_t3 (List.mem_of_getElem? (i := 23) (by decide +kernel)) rfl
theorem mse_X2_refine : Cond.selects RX2 yX2_refine yX2_refine ∈ lw_good := in_t3 (List.mem_of_getElem? (i := 24) (by decide +kernel)) rfl
abbrev MX2_savedAt : AM := (yX2_savedAt, cX2_savedAt, 2, (some (.object "StockGrid$Saved")))
theorem mt_X2_savedAt : zMt MX2_savedAt 1 := ⟨in_t3 (List.mem_of_getElem? (i := 29) (rfl)) rfl, in_t1 (List.mem_of_getElem? (i := 3) (by decide +kernel)) rfl, ⟨by decide, by decide⟩, by decide +kernel, by decide⟩
theorem min_X2_savedAt : Cond.instanceMethod yX2_savedAt ∈ lw_good := in_t3 (List.mem_of_getElem? (i := 27) (by decide +kernel)) rfl
theorem mse_X2_savedAt : Cond.selects RX2 yX2_savedAt yX2_savedAt ∈ lw_good := in_t3 (List.mem_of_getElem? (i := 28) (by decide +kernel)) rfl
abbrev MX0_adopt : AM := (yX0_adopt, cX0_adopt, 4, none)
theorem mt_X0_adopt : zMt MX0_adopt 0 := ⟨in_t3 (List.mem_of_getElem? (i := 33) (rfl)) rfl, in_t1 (List.mem_of_getElem? (i := 4) (by decide +kernel)) rfl, ⟨by decide, by decide⟩, by decide +kernel, by decide⟩
theorem min_X0_adopt : Cond.instanceMethod yX0_adopt ∈ lw_good := in_t3 (List.mem_of_getElem? (i := 31) (by decide +kernel)) rfl
theorem mse_X0_adopt : Cond.selects RX0 yX0_adopt yX0_adopt ∈ lw_good := in_t3 (List.mem_of_getElem? (i := 32) (by decide +kernel)) rfl
abbrev MX6_put : AM := (yX6_put, cX6_put, 8, none)
theorem mt_X6_put : zMt MX6_put 4 := ⟨in_t3 (List.mem_of_getElem? (i := 39) (rfl)) rfl, in_t1 (List.mem_of_getElem? (i := 8) (by decide +kernel)) rfl, ⟨by decide, by decide⟩, by decide +kernel, by decide⟩
theorem min_X6_put : Cond.instanceMethod yX6_put ∈ lw_good := in_t3 (List.mem_of_getElem? (i := 37) (by decide +kernel)) rfl
theorem mse_X6_put : Cond.selects RX6 yX6_put yX6_put ∈ lw_good := in_t3 (List.mem_of_getElem? (i := 38) (by decide +kernel)) rfl
abbrev MX6_rowOf : AM := (yX6_rowOf, cX6_rowOf, 2, (some .int))
theorem mt_X6_rowOf : zMt MX6_rowOf 1 := ⟨in_t3 (List.mem_of_getElem? (i := 43) (rfl)) rfl, in_t1 (List.mem_of_getElem? (i := 8) (by decide +kernel)) rfl, ⟨by decide, by decide⟩, by decide +kernel, by decide⟩
theorem min_X6_rowOf : Cond.instanceMethod yX6_rowOf ∈ lw_good := in_t3 (List.mem_of_getElem? (i := 41) (by decide +kernel)) rfl
theorem mse_X6_rowOf : Cond.selects RX6 yX6_rowOf yX6_rowOf ∈ lw_good := in_t3 (List.mem_of_getElem? (i := 42) (by decide +kernel)) rfl
abbrev MX3_side : AM := (yX3_side, cX3_side, 2, (some .int))
theorem mt_X3_side : zMt MX3_side 1 := ⟨in_t3 (List.mem_of_getElem? (i := 47) (rfl)) rfl, in_t1 (List.mem_of_getElem? (i := 6) (by decide +kernel)) rfl, ⟨by decide, by decide⟩, by decide +kernel, by decide⟩
theorem min_X3_side : Cond.instanceMethod yX3_side ∈ lw_good := in_t3 (List.mem_of_getElem? (i := 45) (by decide +kernel)) rfl
theorem mse_X3_side : Cond.selects RX3 yX3_side yX3_side ∈ lw_good := in_t3 (List.mem_of_getElem? (i := 46) (by decide +kernel)) rfl
abbrev MX9_pick : AM := (yX9_pick, cX9_pick, 10, (some .long))
theorem mt_X9_pick : zMt MX9_pick 6 := ⟨in_t3 (List.mem_of_getElem? (i := 52) (rfl)) rfl, in_t1 (List.mem_of_getElem? (i := 1) (by decide +kernel)) rfl, ⟨by decide, by decide⟩, by decide +kernel, by decide⟩
theorem min_X9_pick : Cond.instanceMethod yX9_pick ∈ lw_good := in_t3 (List.mem_of_getElem? (i := 50) (by decide +kernel)) rfl
theorem mse_X9_pick : Cond.selects RX9 yX9_pick yX9_pick ∈ lw_good := in_t3 (List.mem_of_getElem? (i := 51) (by decide +kernel)) rfl
abbrev MX7_locate : AM := (yX7_locate, cX7_locate, 20, (some .boolean))
theorem mt_X7_locate : zMt MX7_locate 4 := ⟨in_t3 (List.mem_of_getElem? (i := 57) (rfl)) rfl, in_t1 (List.mem_of_getElem? (i := 2) (by decide +kernel)) rfl, ⟨by decide, by decide⟩, by decide +kernel, by decide⟩
theorem min_X7_locate : Cond.instanceMethod yX7_locate ∈ lw_good := in_t3 (List.mem_of_getElem? (i := 55) (by decide +kernel)) rfl
theorem mse_X7_locate : Cond.selects RX7 yX7_locate yX7_locate ∈ lw_good := in_t3 (List.mem_of_getElem? (i := 56) (by decide +kernel)) rfl
abbrev MX7_outer : AM := (yX7_outer, cX7_outer, 2, (some (.object "StockGrid$Cuts")))
theorem mt_X7_outer : zMt MX7_outer 1 := ⟨in_t3 (List.mem_of_getElem? (i := 61) (rfl)) rfl, in_t1 (List.mem_of_getElem? (i := 2) (by decide +kernel)) rfl, ⟨by decide, by decide⟩, by decide +kernel, by decide⟩
theorem min_X7_outer : Cond.instanceMethod yX7_outer ∈ lw_good := in_t3 (List.mem_of_getElem? (i := 59) (by decide +kernel)) rfl
theorem mse_X7_outer : Cond.selects RX7 yX7_outer yX7_outer ∈ lw_good := in_t3 (List.mem_of_getElem? (i := 60) (by decide +kernel)) rfl
abbrev MX7_measure : AM := (yX7_measure, cX7_measure, 13, none)
theorem mt_X7_measure : zMt MX7_measure 5 := ⟨in_t3 (List.mem_of_getElem? (i := 67) (rfl)) rfl, in_t1 (List.mem_of_getElem? (i := 2) (by decide +kernel)) rfl, ⟨by decide, by decide⟩, by decide +kernel, by decide⟩
theorem min_X7_measure : Cond.instanceMethod yX7_measure ∈ lw_good := in_t3 (List.mem_of_getElem? (i := 65) (by decide +kernel)) rfl
theorem mse_X7_measure : Cond.selects RX7 yX7_measure yX7_measure ∈ lw_good := in_t3 (List.mem_of_getElem? (i := 66) (by decide +kernel)) rfl
abbrev MX7_inner : AM := (yX7_inner, cX7_inner, 2, (some (.object "StockGrid$Cuts")))
theorem mt_X7_inner : zMt MX7_inner 1 := ⟨in_t3 (List.mem_of_getElem? (i := 71) (rfl)) rfl, in_t1 (List.mem_of_getElem? (i := 2) (by decide +kernel)) rfl, ⟨by decide, by decide⟩, by decide +kernel, by decide⟩
theorem min_X7_inner : Cond.instanceMethod yX7_inner ∈ lw_good := in_t3 (List.mem_of_getElem? (i := 69) (by decide +kernel)) rfl
theorem mse_X7_inner : Cond.selects RX7 yX7_inner yX7_inner ∈ lw_good := in_t3 (List.mem_of_getElem? (i := 70) (by decide +kernel)) rfl
abbrev MX7_field : AM := (yX7_field, cX7_field, 3, (some .int))
theorem mt_X7_field : zMt MX7_field 3 := ⟨in_t3 (List.mem_of_getElem? (i := 74) (rfl)) rfl, in_t1 (List.mem_of_getElem? (i := 2) (by decide +kernel)) rfl, ⟨by decide, by decide⟩, by decide +kernel, by decide⟩
theorem mst_X7_field : Cond.static yX7_field ∈ lw_good := in_t3 (List.mem_of_getElem? (i := 73) (by decide +kernel)) rfl
abbrev MX7_setOuter : AM := (yX7_setOuter, cX7_setOuter, 3, none)
theorem mt_X7_setOuter : zMt MX7_setOuter 2 := ⟨in_t3 (List.mem_of_getElem? (i := 80) (rfl)) rfl, in_t1 (List.mem_of_getElem? (i := 2) (by decide +kernel)) rfl, ⟨by decide, by decide⟩, by decide +kernel, by decide⟩
theorem min_X7_setOuter : Cond.instanceMethod yX7_setOuter ∈ lw_good := in_t3 (List.mem_of_getElem? (i := 78) (by decide +kernel)) rfl
theorem mse_X7_setOuter : Cond.selects RX7 yX7_setOuter yX7_setOuter ∈ lw_good := in_t3 (List.mem_of_getElem? (i := 79) (by decide +kernel)) rfl
abbrev MX7_locateInLine : AM := (yX7_locateInLine, cX7_locateInLine, 18, (some .boolean))
theorem mt_X7_locateInLine : zMt MX7_locateInLine 5 := ⟨in_t3 (List.mem_of_getElem? (i := 84) (rfl)) rfl, in_t1 (List.mem_of_getElem? (i := 2) (by decide +kernel)) rfl, ⟨by decide, by decide⟩, by decide +kernel, by decide⟩
theorem min_X7_locateInLine : Cond.instanceMethod yX7_locateInLine ∈ lw_good := in_t3 (List.mem_of_getElem? (i := 82) (by decide +kernel)) rfl
theorem mse_X7_locateInLine : Cond.selects RX7 yX7_locateInLine yX7_locateInLine ∈ lw_good := in_t3 (List.mem_of_getElem? (i := 83) (by decide +kernel)) rfl
abbrev MX2_fill : AM := (yX2_fill, cX2_fill, 11, none)
theorem mt_X2_fill : zMt MX2_fill 5 := ⟨in_t3 (List.mem_of_getElem? (i := 90) (rfl)) rfl, in_t1 (List.mem_of_getElem? (i := 3) (by decide +kernel)) rfl, ⟨by decide, by decide⟩, by decide +kernel, by decide⟩
theorem min_X2_fill : Cond.instanceMethod yX2_fill ∈ lw_good := in_t3 (List.mem_of_getElem? (i := 88) (by decide +kernel)) rfl
theorem mse_X2_fill : Cond.selects RX2 yX2_fill yX2_fill ∈ lw_good := in_t3 (List.mem_of_getElem? (i := 89) (by decide +kernel)) rfl
abbrev MX2_number : AM := (yX2_number, cX2_number, 3, (some .long))
theorem mt_X2_number : zMt MX2_number 2 := ⟨in_t3 (List.mem_of_getElem? (i := 94) (rfl)) rfl, in_t1 (List.mem_of_getElem? (i := 3) (by decide +kernel)) rfl, ⟨by decide, by decide⟩, by decide +kernel, by decide⟩
theorem min_X2_number : Cond.instanceMethod yX2_number ∈ lw_good := in_t3 (List.mem_of_getElem? (i := 92) (by decide +kernel)) rfl
theorem mse_X2_number : Cond.selects RX2 yX2_number yX2_number ∈ lw_good := in_t3 (List.mem_of_getElem? (i := 93) (by decide +kernel)) rfl
abbrev MX9_move : AM := (yX9_move, cX9_move, 11, (some .long))
theorem mt_X9_move : zMt MX9_move 7 := ⟨in_t3 (List.mem_of_getElem? (i := 99) (rfl)) rfl, in_t1 (List.mem_of_getElem? (i := 1) (by decide +kernel)) rfl, ⟨by decide, by decide⟩, by decide +kernel, by decide⟩
theorem min_X9_move : Cond.instanceMethod yX9_move ∈ lw_good := in_t3 (List.mem_of_getElem? (i := 97) (by decide +kernel)) rfl
theorem mse_X9_move : Cond.selects RX9 yX9_move yX9_move ∈ lw_good := in_t3 (List.mem_of_getElem? (i := 98) (by decide +kernel)) rfl
abbrev MX9_isShift : AM := (yX9_isShift, cX9_isShift, 1, (some .boolean))
theorem mt_X9_isShift : zMt MX9_isShift 1 := ⟨in_t3 (List.mem_of_getElem? (i := 102) (rfl)) rfl, in_t1 (List.mem_of_getElem? (i := 1) (by decide +kernel)) rfl, ⟨by decide, by decide⟩, by decide +kernel, by decide⟩
theorem mst_X9_isShift : Cond.static yX9_isShift ∈ lw_good := in_t3 (List.mem_of_getElem? (i := 101) (by decide +kernel)) rfl
abbrev MX0_planShifted : AM := (yX0_planShifted, cX0_planShifted, 5, none)
theorem mt_X0_planShifted : zMt MX0_planShifted 3 := ⟨in_t3 (List.mem_of_getElem? (i := 107) (rfl)) rfl, in_t1 (List.mem_of_getElem? (i := 4) (by decide +kernel)) rfl, ⟨by decide, by decide⟩, by decide +kernel, by decide⟩
theorem min_X0_planShifted : Cond.instanceMethod yX0_planShifted ∈ lw_good := in_t3 (List.mem_of_getElem? (i := 105) (by decide +kernel)) rfl
theorem mse_X0_planShifted : Cond.selects RX0 yX0_planShifted yX0_planShifted ∈ lw_good := in_t3 (List.mem_of_getElem? (i := 106) (by decide +kernel)) rfl
abbrev MX0_traceSources : AM := (yX0_traceSources, cX0_traceSources, 6, none)
theorem mt_X0_traceSources : zMt MX0_traceSources 3 := ⟨in_t3 (List.mem_of_getElem? (i := 111) (rfl)) rfl, in_t1 (List.mem_of_getElem? (i := 4) (by decide +kernel)) rfl, ⟨by decide, by decide⟩, by decide +kernel, by decide⟩
theorem min_X0_traceSources : Cond.instanceMethod yX0_traceSources ∈ lw_good := in_t3 (List.mem_of_getElem? (i := 109) (by decide +kernel)) rfl
theorem mse_X0_traceSources : Cond.selects RX0 yX0_traceSources yX0_traceSources ∈ lw_good := in_t3 (List.mem_of_getElem? (i := 110) (by decide +kernel)) rfl
abbrev MX2_bring : AM := (yX2_bring, cX2_bring, 9, none)
theorem mt_X2_bring : zMt MX2_bring 2 := ⟨in_t3 (List.mem_of_getElem? (i := 115) (rfl)) rfl, in_t1 (List.mem_of_getElem? (i := 3) (by decide +kernel)) rfl, ⟨by decide, by decide⟩, by decide +kernel, by decide⟩
theorem min_X2_bring : Cond.instanceMethod yX2_bring ∈ lw_good := in_t3 (List.mem_of_getElem? (i := 113) (by decide +kernel)) rfl
theorem mse_X2_bring : Cond.selects RX2 yX2_bring yX2_bring ∈ lw_good := in_t3 (List.mem_of_getElem? (i := 114) (by decide +kernel)) rfl
abbrev MX2_trialRefusal : AM := (yX2_trialRefusal, cX2_trialRefusal, 2, (some .int))
theorem mt_X2_trialRefusal : zMt MX2_trialRefusal 1 := ⟨in_t3 (List.mem_of_getElem? (i := 119) (rfl)) rfl, in_t1 (List.mem_of_getElem? (i := 3) (by decide +kernel)) rfl, ⟨by decide, by decide⟩, by decide +kernel, by decide⟩
theorem min_X2_trialRefusal : Cond.instanceMethod yX2_trialRefusal ∈ lw_good := in_t3 (List.mem_of_getElem? (i := 117) (by decide +kernel)) rfl
theorem mse_X2_trialRefusal : Cond.selects RX2 yX2_trialRefusal yX2_trialRefusal ∈ lw_good := in_t3 (List.mem_of_getElem? (i := 118) (by decide +kernel)) rfl
abbrev MX2_trialOverCap : AM := (yX2_trialOverCap, cX2_trialOverCap, 7, (some .boolean))
theorem mt_X2_trialOverCap : zMt MX2_trialOverCap 1 := ⟨in_t3 (List.mem_of_getElem? (i := 123) (rfl)) rfl, in_t1 (List.mem_of_getElem? (i := 3) (by decide +kernel)) rfl, ⟨by decide, by decide⟩, by decide +kernel, by decide⟩
theorem min_X2_trialOverCap : Cond.instanceMethod yX2_trialOverCap ∈ lw_good := in_t3 (List.mem_of_getElem? (i := 121) (by decide +kernel)) rfl
theorem mse_X2_trialOverCap : Cond.selects RX2 yX2_trialOverCap yX2_trialOverCap ∈ lw_good := in_t3 (List.mem_of_getElem? (i := 122) (by decide +kernel)) rfl
abbrev MX2_trialOverLimit : AM := (yX2_trialOverLimit, cX2_trialOverLimit, 6, (some .boolean))
theorem mt_X2_trialOverLimit : zMt MX2_trialOverLimit 1 := ⟨in_t3 (List.mem_of_getElem? (i := 127) (rfl)) rfl, in_t1 (List.mem_of_getElem? (i := 3) (by decide +kernel)) rfl, ⟨by decide, by decide⟩, by decide +kernel, by decide⟩
theorem min_X2_trialOverLimit : Cond.instanceMethod yX2_trialOverLimit ∈ lw_good := in_t3 (List.mem_of_getElem? (i := 125) (by decide +kernel)) rfl
theorem mse_X2_trialOverLimit : Cond.selects RX2 yX2_trialOverLimit yX2_trialOverLimit ∈ lw_good := in_t3 (List.mem_of_getElem? (i := 126) (by decide +kernel)) rfl
abbrev MX9_level : AM := (yX9_level, cX9_level, 19, (some .long))
theorem mt_X9_level : zMt MX9_level 5 := ⟨in_t3 (List.mem_of_getElem? (i := 132) (rfl)) rfl, in_t1 (List.mem_of_getElem? (i := 1) (by decide +kernel)) rfl, ⟨by decide, by decide⟩, by decide +kernel, by decide⟩
theorem min_X9_level : Cond.instanceMethod yX9_level ∈ lw_good := in_t3 (List.mem_of_getElem? (i := 130) (by decide +kernel)) rfl
theorem mse_X9_level : Cond.selects RX9 yX9_level yX9_level ∈ lw_good := in_t3 (List.mem_of_getElem? (i := 131) (by decide +kernel)) rfl
abbrev MX9_zone : AM := (yX9_zone, cX9_zone, 11, (some .long))
theorem mt_X9_zone : zMt MX9_zone 6 := ⟨in_t3 (List.mem_of_getElem? (i := 140) (rfl)) rfl, in_t1 (List.mem_of_getElem? (i := 1) (by decide +kernel)) rfl, ⟨by decide, by decide⟩, by decide +kernel, by decide⟩
theorem min_X9_zone : Cond.instanceMethod yX9_zone ∈ lw_good := in_t3 (List.mem_of_getElem? (i := 138) (by decide +kernel)) rfl
theorem mse_X9_zone : Cond.selects RX9 yX9_zone yX9_zone ∈ lw_good := in_t3 (List.mem_of_getElem? (i := 139) (by decide +kernel)) rfl
abbrev MX2_zoneOf : AM := (yX2_zoneOf, cX2_zoneOf, 2, (some (.object "StockGrid$Zone")))
theorem mt_X2_zoneOf : zMt MX2_zoneOf 1 := ⟨in_t3 (List.mem_of_getElem? (i := 144) (rfl)) rfl, in_t1 (List.mem_of_getElem? (i := 3) (by decide +kernel)) rfl, ⟨by decide, by decide⟩, by decide +kernel, by decide⟩
theorem min_X2_zoneOf : Cond.instanceMethod yX2_zoneOf ∈ lw_good := in_t3 (List.mem_of_getElem? (i := 142) (by decide +kernel)) rfl
theorem mse_X2_zoneOf : Cond.selects RX2 yX2_zoneOf yX2_zoneOf ∈ lw_good := in_t3 (List.mem_of_getElem? (i := 143) (by decide +kernel)) rfl
abbrev MX9_zoneAt : AM := (yX9_zoneAt, cX9_zoneAt, 4, (some .long))
theorem mt_X9_zoneAt : zMt MX9_zoneAt 2 := ⟨in_t3 (List.mem_of_getElem? (i := 149) (rfl)) rfl, in_t1 (List.mem_of_getElem? (i := 1) (by decide +kernel)) rfl, ⟨by decide, by decide⟩, by decide +kernel, by decide⟩
theorem min_X9_zoneAt : Cond.instanceMethod yX9_zoneAt ∈ lw_good := in_t3 (List.mem_of_getElem? (i := 147) (by decide +kernel)) rfl
theorem mse_X9_zoneAt : Cond.selects RX9 yX9_zoneAt yX9_zoneAt ∈ lw_good := in_t3 (List.mem_of_getElem? (i := 148) (by decide +kernel)) rfl
abbrev MX9_begin : AM := (yX9_begin, cX9_begin, 1, (some .int))
theorem mt_X9_begin : zMt MX9_begin 0 := ⟨in_t3 (List.mem_of_getElem? (i := 155) (rfl)) rfl, in_t1 (List.mem_of_getElem? (i := 1) (by decide +kernel)) rfl, ⟨by decide, by decide⟩, by decide +kernel, by decide⟩
theorem min_X9_begin : Cond.instanceMethod yX9_begin ∈ lw_good := in_t3 (List.mem_of_getElem? (i := 153) (by decide +kernel)) rfl
theorem mse_X9_begin : Cond.selects RX9 yX9_begin yX9_begin ∈ lw_good := in_t3 (List.mem_of_getElem? (i := 154) (by decide +kernel)) rfl
abbrev MX2_save : AM := (yX2_save, cX2_save, 1, none)
theorem mt_X2_save : zMt MX2_save 0 := ⟨in_t3 (List.mem_of_getElem? (i := 159) (rfl)) rfl, in_t1 (List.mem_of_getElem? (i := 3) (by decide +kernel)) rfl, ⟨by decide, by decide⟩, by decide +kernel, by decide⟩
theorem min_X2_save : Cond.instanceMethod yX2_save ∈ lw_good := in_t3 (List.mem_of_getElem? (i := 157) (by decide +kernel)) rfl
theorem mse_X2_save : Cond.selects RX2 yX2_save yX2_save ∈ lw_good := in_t3 (List.mem_of_getElem? (i := 158) (by decide +kernel)) rfl
abbrev MX4_init : AM := (yX4_init, cX4_init, 1, none)
theorem mt_X4_init : zMt MX4_init 0 := ⟨in_t3 (List.mem_of_getElem? (i := 163) (rfl)) rfl, in_t1 (List.mem_of_getElem? (i := 14) (by decide +kernel)) rfl, ⟨by decide, by decide⟩, by decide +kernel, by decide⟩
theorem min_X4_init : Cond.instanceMethod yX4_init ∈ lw_good := in_t3 (List.mem_of_getElem? (i := 162) (by decide +kernel)) rfl
abbrev MX9_commit : AM := (yX9_commit, cX9_commit, 1, (some .int))
theorem mt_X9_commit : zMt MX9_commit 0 := ⟨in_t3 (List.mem_of_getElem? (i := 176) (rfl)) rfl, in_t1 (List.mem_of_getElem? (i := 1) (by decide +kernel)) rfl, ⟨by decide, by decide⟩, by decide +kernel, by decide⟩
theorem min_X9_commit : Cond.instanceMethod yX9_commit ∈ lw_good := in_t3 (List.mem_of_getElem? (i := 174) (by decide +kernel)) rfl
theorem mse_X9_commit : Cond.selects RX9 yX9_commit yX9_commit ∈ lw_good := in_t3 (List.mem_of_getElem? (i := 175) (by decide +kernel)) rfl
abbrev MX2_joinInnermost : AM := (yX2_joinInnermost, cX2_joinInnermost, 3, none)
theorem mt_X2_joinInnermost : zMt MX2_joinInnermost 0 := ⟨in_t3 (List.mem_of_getElem? (i := 180) (rfl)) rfl, in_t1 (List.mem_of_getElem? (i := 3) (by decide +kernel)) rfl, ⟨by decide, by decide⟩, by decide +kernel, by decide⟩
theorem min_X2_joinInnermost : Cond.instanceMethod yX2_joinInnermost ∈ lw_good := in_t3 (List.mem_of_getElem? (i := 178) (by decide +kernel)) rfl
theorem mse_X2_joinInnermost : Cond.selects RX2 yX2_joinInnermost yX2_joinInnermost ∈ lw_good := in_t3 (List.mem_of_getElem? (i := 179) (by decide +kernel)) rfl
abbrev MX9_cancel : AM := (yX9_cancel, cX9_cancel, 2, (some .int))
theorem mt_X9_cancel : zMt MX9_cancel 0 := ⟨in_t3 (List.mem_of_getElem? (i := 184) (rfl)) rfl, in_t1 (List.mem_of_getElem? (i := 1) (by decide +kernel)) rfl, ⟨by decide, by decide⟩, by decide +kernel, by decide⟩
theorem min_X9_cancel : Cond.instanceMethod yX9_cancel ∈ lw_good := in_t3 (List.mem_of_getElem? (i := 182) (by decide +kernel)) rfl
theorem mse_X9_cancel : Cond.selects RX9 yX9_cancel yX9_cancel ∈ lw_good := in_t3 (List.mem_of_getElem? (i := 183) (by decide +kernel)) rfl
abbrev MX2_restore : AM := (yX2_restore, cX2_restore, 2, (some .int))
theorem mt_X2_restore : zMt MX2_restore 0 := ⟨in_t3 (List.mem_of_getElem? (i := 188) (rfl)) rfl, in_t1 (List.mem_of_getElem? (i := 3) (by decide +kernel)) rfl, ⟨by decide, by decide⟩, by decide +kernel, by decide⟩
theorem min_X2_restore : Cond.instanceMethod yX2_restore ∈ lw_good := in_t3 (List.mem_of_getElem? (i := 186) (by decide +kernel)) rfl
theorem mse_X2_restore : Cond.selects RX2 yX2_restore yX2_restore ∈ lw_good := in_t3 (List.mem_of_getElem? (i := 187) (by decide +kernel)) rfl
abbrev MX6_dropLatest : AM := (yX6_dropLatest, cX6_dropLatest, 2, none)
theorem mt_X6_dropLatest : zMt MX6_dropLatest 1 := ⟨in_t3 (List.mem_of_getElem? (i := 192) (rfl)) rfl, in_t1 (List.mem_of_getElem? (i := 8) (by decide +kernel)) rfl, ⟨by decide, by decide⟩, by decide +kernel, by decide⟩
theorem min_X6_dropLatest : Cond.instanceMethod yX6_dropLatest ∈ lw_good := in_t3 (List.mem_of_getElem? (i := 190) (by decide +kernel)) rfl
theorem mse_X6_dropLatest : Cond.selects RX6 yX6_dropLatest yX6_dropLatest ∈ lw_good := in_t3 (List.mem_of_getElem? (i := 191) (by decide +kernel)) rfl
abbrev MX9_feed : AM := (yX9_feed, cX9_feed, 6, (some .int))
theorem mt_X9_feed : zMt MX9_feed 5 := ⟨in_t3 (List.mem_of_getElem? (i := 197) (rfl)) rfl, in_t1 (List.mem_of_getElem? (i := 1) (by decide +kernel)) rfl, ⟨by decide, by decide⟩, by decide +kernel, by decide⟩
theorem min_X9_feed : Cond.instanceMethod yX9_feed ∈ lw_good := in_t3 (List.mem_of_getElem? (i := 195) (by decide +kernel)) rfl
theorem mse_X9_feed : Cond.selects RX9 yX9_feed yX9_feed ∈ lw_good := in_t3 (List.mem_of_getElem? (i := 196) (by decide +kernel)) rfl
abbrev MX5_hasRoom : AM := (yX5_hasRoom, cX5_hasRoom, 1, (some .boolean))
theorem mt_X5_hasRoom : zMt MX5_hasRoom 0 := ⟨in_t3 (List.mem_of_getElem? (i := 201) (rfl)) rfl, in_t1 (List.mem_of_getElem? (i := 9) (by decide +kernel)) rfl, ⟨by decide, by decide⟩, by decide +kernel, by decide⟩
theorem min_X5_hasRoom : Cond.instanceMethod yX5_hasRoom ∈ lw_good := in_t3 (List.mem_of_getElem? (i := 199) (by decide +kernel)) rfl
theorem mse_X5_hasRoom : Cond.selects RX5 yX5_hasRoom yX5_hasRoom ∈ lw_good := in_t3 (List.mem_of_getElem? (i := 200) (by decide +kernel)) rfl
abbrev MX5_put : AM := (yX5_put, cX5_put, 3, none)
theorem mt_X5_put : zMt MX5_put 1 := ⟨in_t3 (List.mem_of_getElem? (i := 205) (rfl)) rfl, in_t1 (List.mem_of_getElem? (i := 9) (by decide +kernel)) rfl, ⟨by decide, by decide⟩, by decide +kernel, by decide⟩
theorem min_X5_put : Cond.instanceMethod yX5_put ∈ lw_good := in_t3 (List.mem_of_getElem? (i := 203) (by decide +kernel)) rfl
theorem mse_X5_put : Cond.selects RX5 yX5_put yX5_put ∈ lw_good := in_t3 (List.mem_of_getElem? (i := 204) (by decide +kernel)) rfl
abbrev MX9_run : AM := (yX9_run, cX9_run, 6, (some .int))
theorem mt_X9_run : zMt MX9_run 1 := ⟨in_t3 (List.mem_of_getElem? (i := 209) (rfl)) rfl, in_t1 (List.mem_of_getElem? (i := 1) (by decide +kernel)) rfl, ⟨by decide, by decide⟩, by decide +kernel, by decide⟩
theorem min_X9_run : Cond.instanceMethod yX9_run ∈ lw_good := in_t3 (List.mem_of_getElem? (i := 207) (by decide +kernel)) rfl
theorem mse_X9_run : Cond.selects RX9 yX9_run yX9_run ∈ lw_good := in_t3 (List.mem_of_getElem? (i := 208) (by decide +kernel)) rfl
abbrev MX5_read : AM := (yX5_read, cX5_read, 3, (some .int))
theorem mt_X5_read : zMt MX5_read 1 := ⟨in_t3 (List.mem_of_getElem? (i := 213) (rfl)) rfl, in_t1 (List.mem_of_getElem? (i := 9) (by decide +kernel)) rfl, ⟨by decide, by decide⟩, by decide +kernel, by decide⟩
theorem min_X5_read : Cond.instanceMethod yX5_read ∈ lw_good := in_t3 (List.mem_of_getElem? (i := 211) (by decide +kernel)) rfl
theorem mse_X5_read : Cond.selects RX5 yX5_read yX5_read ∈ lw_good := in_t3 (List.mem_of_getElem? (i := 212) (by decide +kernel)) rfl
abbrev MX5_step : AM := (yX5_step, cX5_step, 1, none)
theorem mt_X5_step : zMt MX5_step 0 := ⟨in_t3 (List.mem_of_getElem? (i := 219) (rfl)) rfl, in_t1 (List.mem_of_getElem? (i := 9) (by decide +kernel)) rfl, ⟨by decide, by decide⟩, by decide +kernel, by decide⟩
theorem min_X5_step : Cond.instanceMethod yX5_step ∈ lw_good := in_t3 (List.mem_of_getElem? (i := 217) (by decide +kernel)) rfl
theorem mse_X5_step : Cond.selects RX5 yX5_step yX5_step ∈ lw_good := in_t3 (List.mem_of_getElem? (i := 218) (by decide +kernel)) rfl
abbrev MX5_kindOfByte : AM := (yX5_kindOfByte, cX5_kindOfByte, 3, (some .int))
theorem mt_X5_kindOfByte : zMt MX5_kindOfByte 1 := ⟨in_t3 (List.mem_of_getElem? (i := 223) (rfl)) rfl, in_t1 (List.mem_of_getElem? (i := 9) (by decide +kernel)) rfl, ⟨by decide, by decide⟩, by decide +kernel, by decide⟩
theorem min_X5_kindOfByte : Cond.instanceMethod yX5_kindOfByte ∈ lw_good := in_t3 (List.mem_of_getElem? (i := 221) (by decide +kernel)) rfl
theorem mse_X5_kindOfByte : Cond.selects RX5 yX5_kindOfByte yX5_kindOfByte ∈ lw_good := in_t3 (List.mem_of_getElem? (i := 222) (by decide +kernel)) rfl
abbrev MX5_readAct : AM := (yX5_readAct, cX5_readAct, 2, none)
theorem mt_X5_readAct : zMt MX5_readAct 0 := ⟨in_t3 (List.mem_of_getElem? (i := 227) (rfl)) rfl, in_t1 (List.mem_of_getElem? (i := 9) (by decide +kernel)) rfl, ⟨by decide, by decide⟩, by decide +kernel, by decide⟩
theorem min_X5_readAct : Cond.instanceMethod yX5_readAct ∈ lw_good := in_t3 (List.mem_of_getElem? (i := 225) (by decide +kernel)) rfl
theorem mse_X5_readAct : Cond.selects RX5 yX5_readAct yX5_readAct ∈ lw_good := in_t3 (List.mem_of_getElem? (i := 226) (by decide +kernel)) rfl
abbrev MX5_kindOfWord : AM := (yX5_kindOfWord, cX5_kindOfWord, 1, (some .int))
theorem mt_X5_kindOfWord : zMt MX5_kindOfWord 0 := ⟨in_t3 (List.mem_of_getElem? (i := 231) (rfl)) rfl, in_t1 (List.mem_of_getElem? (i := 9) (by decide +kernel)) rfl, ⟨by decide, by decide⟩, by decide +kernel, by decide⟩
theorem min_X5_kindOfWord : Cond.instanceMethod yX5_kindOfWord ∈ lw_good := in_t3 (List.mem_of_getElem? (i := 229) (by decide +kernel)) rfl
theorem mse_X5_kindOfWord : Cond.selects RX5 yX5_kindOfWord yX5_kindOfWord ∈ lw_good := in_t3 (List.mem_of_getElem? (i := 230) (by decide +kernel)) rfl
abbrev MX5_isWord : AM := (yX5_isWord, cX5_isWord, 3, (some .boolean))
theorem mt_X5_isWord : zMt MX5_isWord 1 := ⟨in_t3 (List.mem_of_getElem? (i := 236) (rfl)) rfl, in_t1 (List.mem_of_getElem? (i := 9) (by decide +kernel)) rfl, ⟨by decide, by decide⟩, by decide +kernel, by decide⟩
theorem min_X5_isWord : Cond.instanceMethod yX5_isWord ∈ lw_good := in_t3 (List.mem_of_getElem? (i := 234) (by decide +kernel)) rfl
theorem mse_X5_isWord : Cond.selects RX5 yX5_isWord yX5_isWord ∈ lw_good := in_t3 (List.mem_of_getElem? (i := 235) (by decide +kernel)) rfl
abbrev MX5_blame : AM := (yX5_blame, cX5_blame, 2, none)
theorem mt_X5_blame : zMt MX5_blame 1 := ⟨in_t4 (List.mem_of_getElem? (i := 52) (rfl)) rfl, in_t1 (List.mem_of_getElem? (i := 9) (by decide +kernel)) rfl, ⟨by decide, by decide⟩, by decide +kernel, by decide⟩
theorem min_X5_blame : Cond.instanceMethod yX5_blame ∈ lw_good := in_t4 (List.mem_of_getElem? (i := 50) (by decide +kernel)) rfl
theorem mse_X5_blame : Cond.selects RX5 yX5_blame yX5_blame ∈ lw_good := in_t4 (List.mem_of_getElem? (i := 51) (by decide +kernel)) rfl
abbrev MX5_readPlace : AM := (yX5_readPlace, cX5_readPlace, 2, none)
theorem mt_X5_readPlace : zMt MX5_readPlace 0 := ⟨in_t4 (List.mem_of_getElem? (i := 56) (rfl)) rfl, in_t1 (List.mem_of_getElem? (i := 9) (by decide +kernel)) rfl, ⟨by decide, by decide⟩, by decide +kernel, by decide⟩
theorem min_X5_readPlace : Cond.instanceMethod yX5_readPlace ∈ lw_good := in_t4 (List.mem_of_getElem? (i := 54) (by decide +kernel)) rfl
theorem mse_X5_readPlace : Cond.selects RX5 yX5_readPlace yX5_readPlace ∈ lw_good := in_t4 (List.mem_of_getElem? (i := 55) (by decide +kernel)) rfl
abbrev MX5_readNumber : AM := (yX5_readNumber, cX5_readNumber, 7, (some .long))
theorem mt_X5_readNumber : zMt MX5_readNumber 2 := ⟨in_t4 (List.mem_of_getElem? (i := 62) (rfl)) rfl, in_t1 (List.mem_of_getElem? (i := 9) (by decide +kernel)) rfl, ⟨by decide, by decide⟩, by decide +kernel, by decide⟩
theorem min_X5_readNumber : Cond.instanceMethod yX5_readNumber ∈ lw_good := in_t4 (List.mem_of_getElem? (i := 60) (by decide +kernel)) rfl
theorem mse_X5_readNumber : Cond.selects RX5 yX5_readNumber yX5_readNumber ∈ lw_good := in_t4 (List.mem_of_getElem? (i := 61) (by decide +kernel)) rfl
abbrev MX5_numberOfToken : AM := (yX5_numberOfToken, cX5_numberOfToken, 4, (some .long))
theorem mt_X5_numberOfToken : zMt MX5_numberOfToken 0 := ⟨in_t4 (List.mem_of_getElem? (i := 66) (rfl)) rfl, in_t1 (List.mem_of_getElem? (i := 9) (by decide +kernel)) rfl, ⟨by decide, by decide⟩, by decide +kernel, by decide⟩
theorem min_X5_numberOfToken : Cond.instanceMethod yX5_numberOfToken ∈ lw_good := in_t4 (List.mem_of_getElem? (i := 64) (by decide +kernel)) rfl
theorem mse_X5_numberOfToken : Cond.selects RX5 yX5_numberOfToken yX5_numberOfToken ∈ lw_good := in_t4 (List.mem_of_getElem? (i := 65) (by decide +kernel)) rfl
abbrev MX5_readAdded : AM := (yX5_readAdded, cX5_readAdded, 1, (some .long))
theorem mt_X5_readAdded : zMt MX5_readAdded 0 := ⟨in_t4 (List.mem_of_getElem? (i := 73) (rfl)) rfl, in_t1 (List.mem_of_getElem? (i := 9) (by decide +kernel)) rfl, ⟨by decide, by decide⟩, by decide +kernel, by decide⟩
theorem min_X5_readAdded : Cond.instanceMethod yX5_readAdded ∈ lw_good := in_t4 (List.mem_of_getElem? (i := 71) (by decide +kernel)) rfl
theorem mse_X5_readAdded : Cond.selects RX5 yX5_readAdded yX5_readAdded ∈ lw_good := in_t4 (List.mem_of_getElem? (i := 72) (by decide +kernel)) rfl
abbrev MX5_isSign : AM := (yX5_isSign, cX5_isSign, 2, (some .boolean))
theorem mt_X5_isSign : zMt MX5_isSign 1 := ⟨in_t4 (List.mem_of_getElem? (i := 77) (rfl)) rfl, in_t1 (List.mem_of_getElem? (i := 9) (by decide +kernel)) rfl, ⟨by decide, by decide⟩, by decide +kernel, by decide⟩
theorem min_X5_isSign : Cond.instanceMethod yX5_isSign ∈ lw_good := in_t4 (List.mem_of_getElem? (i := 75) (by decide +kernel)) rfl
theorem mse_X5_isSign : Cond.selects RX5 yX5_isSign yX5_isSign ∈ lw_good := in_t4 (List.mem_of_getElem? (i := 76) (by decide +kernel)) rfl
abbrev MX9_doTold : AM := (yX9_doTold, cX9_doTold, 4, (some .long))
theorem mt_X9_doTold : zMt MX9_doTold 1 := ⟨in_t4 (List.mem_of_getElem? (i := 83) (rfl)) rfl, in_t1 (List.mem_of_getElem? (i := 1) (by decide +kernel)) rfl, ⟨by decide, by decide⟩, by decide +kernel, by decide⟩
theorem min_X9_doTold : Cond.instanceMethod yX9_doTold ∈ lw_good := in_t4 (List.mem_of_getElem? (i := 82) (by decide +kernel)) rfl
theorem mse_X9_doTold : Cond.selects RX9 yX9_doTold yX9_doTold ∈ lw_good := good_at 2 (by decide +kernel) rfl
abbrev MX5_amount : AM := (yX5_amount, cX5_amount, 2, (some .long))
theorem mt_X5_amount : zMt MX5_amount 1 := ⟨in_t4 (List.mem_of_getElem? (i := 87) (rfl)) rfl, in_t1 (List.mem_of_getElem? (i := 9) (by decide +kernel)) rfl, ⟨by decide, by decide⟩, by decide +kernel, by decide⟩
theorem min_X5_amount : Cond.instanceMethod yX5_amount ∈ lw_good := in_t4 (List.mem_of_getElem? (i := 85) (by decide +kernel)) rfl
theorem mse_X5_amount : Cond.selects RX5 yX5_amount yX5_amount ∈ lw_good := in_t4 (List.mem_of_getElem? (i := 86) (by decide +kernel)) rfl
abbrev MX5_kind : AM := (yX5_kind, cX5_kind, 2, (some .int))
theorem mt_X5_kind : zMt MX5_kind 1 := ⟨in_t4 (List.mem_of_getElem? (i := 91) (rfl)) rfl, in_t1 (List.mem_of_getElem? (i := 9) (by decide +kernel)) rfl, ⟨by decide, by decide⟩, by decide +kernel, by decide⟩
theorem min_X5_kind : Cond.instanceMethod yX5_kind ∈ lw_good := in_t4 (List.mem_of_getElem? (i := 89) (by decide +kernel)) rfl
theorem mse_X5_kind : Cond.selects RX5 yX5_kind yX5_kind ∈ lw_good := in_t4 (List.mem_of_getElem? (i := 90) (by decide +kernel)) rfl
abbrev MX5_number : AM := (yX5_number, cX5_number, 3, (some .int))
theorem mt_X5_number : zMt MX5_number 2 := ⟨in_t4 (List.mem_of_getElem? (i := 95) (rfl)) rfl, in_t1 (List.mem_of_getElem? (i := 9) (by decide +kernel)) rfl, ⟨by decide, by decide⟩, by decide +kernel, by decide⟩
theorem min_X5_number : Cond.instanceMethod yX5_number ∈ lw_good := in_t4 (List.mem_of_getElem? (i := 93) (by decide +kernel)) rfl
theorem mse_X5_number : Cond.selects RX5 yX5_number yX5_number ∈ lw_good := in_t4 (List.mem_of_getElem? (i := 94) (by decide +kernel)) rfl
abbrev MX9_fault : AM := (yX9_fault, cX9_fault, 2, (some .int))
theorem mt_X9_fault : zMt MX9_fault 1 := ⟨in_t4 (List.mem_of_getElem? (i := 104) (rfl)) rfl, in_t1 (List.mem_of_getElem? (i := 1) (by decide +kernel)) rfl, ⟨by decide, by decide⟩, by decide +kernel, by decide⟩
theorem min_X9_fault : Cond.instanceMethod yX9_fault ∈ lw_good := in_t4 (List.mem_of_getElem? (i := 102) (by decide +kernel)) rfl
theorem mse_X9_fault : Cond.selects RX9 yX9_fault yX9_fault ∈ lw_good := in_t4 (List.mem_of_getElem? (i := 103) (by decide +kernel)) rfl
abbrev MX9_sum : AM := (yX9_sum, cX9_sum, 6, (some .long))
theorem mt_X9_sum : zMt MX9_sum 5 := ⟨in_t4 (List.mem_of_getElem? (i := 108) (rfl)) rfl, in_t1 (List.mem_of_getElem? (i := 1) (by decide +kernel)) rfl, ⟨by decide, by decide⟩, by decide +kernel, by decide⟩
theorem min_X9_sum : Cond.instanceMethod yX9_sum ∈ lw_good := in_t4 (List.mem_of_getElem? (i := 106) (by decide +kernel)) rfl
theorem mse_X9_sum : Cond.selects RX9 yX9_sum yX9_sum ∈ lw_good := in_t4 (List.mem_of_getElem? (i := 107) (by decide +kernel)) rfl
abbrev MX9_isGoodOrAll : AM := (yX9_isGoodOrAll, cX9_isGoodOrAll, 1, (some .boolean))
theorem mt_X9_isGoodOrAll : zMt MX9_isGoodOrAll 1 := ⟨in_t4 (List.mem_of_getElem? (i := 111) (rfl)) rfl, in_t1 (List.mem_of_getElem? (i := 1) (by decide +kernel)) rfl, ⟨by decide, by decide⟩, by decide +kernel, by decide⟩
theorem mst_X9_isGoodOrAll : Cond.static yX9_isGoodOrAll ∈ lw_good := in_t4 (List.mem_of_getElem? (i := 110) (by decide +kernel)) rfl
abbrev MX9_at : AM := (yX9_at, cX9_at, 4, (some .long))
theorem mt_X9_at : zMt MX9_at 3 := ⟨in_t4 (List.mem_of_getElem? (i := 115) (rfl)) rfl, in_t1 (List.mem_of_getElem? (i := 1) (by decide +kernel)) rfl, ⟨by decide, by decide⟩, by decide +kernel, by decide⟩
theorem min_X9_at : Cond.instanceMethod yX9_at ∈ lw_good := in_t4 (List.mem_of_getElem? (i := 113) (by decide +kernel)) rfl
theorem mse_X9_at : Cond.selects RX9 yX9_at yX9_at ∈ lw_good := in_t4 (List.mem_of_getElem? (i := 114) (by decide +kernel)) rfl
abbrev MX9_bound : AM := (yX9_bound, cX9_bound, 7, (some .long))
theorem mt_X9_bound : zMt MX9_bound 6 := ⟨in_t4 (List.mem_of_getElem? (i := 119) (rfl)) rfl, in_t1 (List.mem_of_getElem? (i := 1) (by decide +kernel)) rfl, ⟨by decide, by decide⟩, by decide +kernel, by decide⟩
theorem min_X9_bound : Cond.instanceMethod yX9_bound ∈ lw_good := in_t4 (List.mem_of_getElem? (i := 117) (by decide +kernel)) rfl
theorem mse_X9_bound : Cond.selects RX9 yX9_bound yX9_bound ∈ lw_good := in_t4 (List.mem_of_getElem? (i := 118) (by decide +kernel)) rfl
abbrev MX9_empty : AM := (yX9_empty, cX9_empty, 5, (some .long))
theorem mt_X9_empty : zMt MX9_empty 4 := ⟨in_t4 (List.mem_of_getElem? (i := 125) (rfl)) rfl, in_t1 (List.mem_of_getElem? (i := 1) (by decide +kernel)) rfl, ⟨by decide, by decide⟩, by decide +kernel, by decide⟩
theorem min_X9_empty : Cond.instanceMethod yX9_empty ∈ lw_good := in_t4 (List.mem_of_getElem? (i := 123) (by decide +kernel)) rfl
theorem mse_X9_empty : Cond.selects RX9 yX9_empty yX9_empty ∈ lw_good := in_t4 (List.mem_of_getElem? (i := 124) (by decide +kernel)) rfl
abbrev MX2_cellsFrom : AM := (yX2_cellsFrom, cX2_cellsFrom, 14, (some .long))
theorem mt_X2_cellsFrom : zMt MX2_cellsFrom 3 := ⟨in_t4 (List.mem_of_getElem? (i := 129) (rfl)) rfl, in_t1 (List.mem_of_getElem? (i := 3) (by decide +kernel)) rfl, ⟨by decide, by decide⟩, by decide +kernel, by decide⟩
theorem min_X2_cellsFrom : Cond.instanceMethod yX2_cellsFrom ∈ lw_good := in_t4 (List.mem_of_getElem? (i := 127) (by decide +kernel)) rfl
theorem mse_X2_cellsFrom : Cond.selects RX2 yX2_cellsFrom yX2_cellsFrom ∈ lw_good := in_t4 (List.mem_of_getElem? (i := 128) (by decide +kernel)) rfl
abbrev MX9_share : AM := (yX9_share, cX9_share, 13, (some .long))
theorem mt_X9_share : zMt MX9_share 6 := ⟨in_t4 (List.mem_of_getElem? (i := 133) (rfl)) rfl, in_t1 (List.mem_of_getElem? (i := 1) (by decide +kernel)) rfl, ⟨by decide, by decide⟩, by decide +kernel, by decide⟩
theorem min_X9_share : Cond.instanceMethod yX9_share ∈ lw_good := in_t4 (List.mem_of_getElem? (i := 131) (by decide +kernel)) rfl
theorem mse_X9_share : Cond.selects RX9 yX9_share yX9_share ∈ lw_good := in_t4 (List.mem_of_getElem? (i := 132) (by decide +kernel)) rfl
abbrev MX9_commonDivisor : AM := (yX9_commonDivisor, cX9_commonDivisor, 11, (some .long))
theorem mt_X9_commonDivisor : zMt MX9_commonDivisor 2 := ⟨in_t4 (List.mem_of_getElem? (i := 136) (rfl)) rfl, in_t1 (List.mem_of_getElem? (i := 1) (by decide +kernel)) rfl, ⟨by decide, by decide⟩, by decide +kernel, by decide⟩
theorem mst_X9_commonDivisor : Cond.static yX9_commonDivisor ∈ lw_good := in_t4 (List.mem_of_getElem? (i := 135) (by decide +kernel)) rfl
abbrev MX9_atLeast : AM := (yX9_atLeast, cX9_atLeast, 8, (some .long))
theorem mt_X9_atLeast : zMt MX9_atLeast 6 := ⟨in_t4 (List.mem_of_getElem? (i := 140) (rfl)) rfl, in_t1 (List.mem_of_getElem? (i := 1) (by decide +kernel)) rfl, ⟨by decide, by decide⟩, by decide +kernel, by decide⟩
theorem min_X9_atLeast : Cond.instanceMethod yX9_atLeast ∈ lw_good := in_t4 (List.mem_of_getElem? (i := 138) (by decide +kernel)) rfl
theorem mse_X9_atLeast : Cond.selects RX9 yX9_atLeast yX9_atLeast ∈ lw_good := in_t4 (List.mem_of_getElem? (i := 139) (by decide +kernel)) rfl
abbrev MX9_value : AM := (yX9_value, cX9_value, 8, (some .long))
theorem mt_X9_value : zMt MX9_value 6 := ⟨in_t4 (List.mem_of_getElem? (i := 144) (rfl)) rfl, in_t1 (List.mem_of_getElem? (i := 1) (by decide +kernel)) rfl, ⟨by decide, by decide⟩, by decide +kernel, by decide⟩
theorem min_X9_value : Cond.instanceMethod yX9_value ∈ lw_good := in_t4 (List.mem_of_getElem? (i := 142) (by decide +kernel)) rfl
theorem mse_X9_value : Cond.selects RX9 yX9_value yX9_value ∈ lw_good := in_t4 (List.mem_of_getElem? (i := 143) (by decide +kernel)) rfl
abbrev MX2_valueOfRank : AM := (yX2_valueOfRank, cX2_valueOfRank, 14, (some .long))
theorem mt_X2_valueOfRank : zMt MX2_valueOfRank 3 := ⟨in_t4 (List.mem_of_getElem? (i := 148) (rfl)) rfl, in_t1 (List.mem_of_getElem? (i := 3) (by decide +kernel)) rfl, ⟨by decide, by decide⟩, by decide +kernel, by decide⟩
theorem min_X2_valueOfRank : Cond.instanceMethod yX2_valueOfRank ∈ lw_good := in_t4 (List.mem_of_getElem? (i := 146) (by decide +kernel)) rfl
theorem mse_X2_valueOfRank : Cond.selects RX2 yX2_valueOfRank yX2_valueOfRank ∈ lw_good := in_t4 (List.mem_of_getElem? (i := 147) (by decide +kernel)) rfl
abbrev MX9_hole : AM := (yX9_hole, cX9_hole, 2, (some .long))
theorem mt_X9_hole : zMt MX9_hole 1 := ⟨in_t4 (List.mem_of_getElem? (i := 154) (rfl)) rfl, in_t1 (List.mem_of_getElem? (i := 1) (by decide +kernel)) rfl, ⟨by decide, by decide⟩, by decide +kernel, by decide⟩
theorem min_X9_hole : Cond.instanceMethod yX9_hole ∈ lw_good := in_t4 (List.mem_of_getElem? (i := 152) (by decide +kernel)) rfl
theorem mse_X9_hole : Cond.selects RX9 yX9_hole yX9_hole ∈ lw_good := in_t4 (List.mem_of_getElem? (i := 153) (by decide +kernel)) rfl
abbrev MX7_findHole : AM := (yX7_findHole, cX7_findHole, 5, (some .boolean))
theorem mt_X7_findHole : zMt MX7_findHole 0 := ⟨in_t4 (List.mem_of_getElem? (i := 158) (rfl)) rfl, in_t1 (List.mem_of_getElem? (i := 2) (by decide +kernel)) rfl, ⟨by decide, by decide⟩, by decide +kernel, by decide⟩
theorem min_X7_findHole : Cond.instanceMethod yX7_findHole ∈ lw_good := in_t4 (List.mem_of_getElem? (i := 156) (by decide +kernel)) rfl
theorem mse_X7_findHole : Cond.selects RX7 yX7_findHole yX7_findHole ∈ lw_good := in_t4 (List.mem_of_getElem? (i := 157) (by decide +kernel)) rfl
abbrev MX7_takeHolesAbove : AM := (yX7_takeHolesAbove, cX7_takeHolesAbove, 8, none)
theorem mt_X7_takeHolesAbove : zMt MX7_takeHolesAbove 1 := ⟨in_t4 (List.mem_of_getElem? (i := 162) (rfl)) rfl, in_t1 (List.mem_of_getElem? (i := 2) (by decide +kernel)) rfl, ⟨by decide, by decide⟩, by decide +kernel, by decide⟩
theorem min_X7_takeHolesAbove : Cond.instanceMethod yX7_takeHolesAbove ∈ lw_good := in_t4 (List.mem_of_getElem? (i := 160) (by decide +kernel)) rfl
theorem mse_X7_takeHolesAbove : Cond.selects RX7 yX7_takeHolesAbove yX7_takeHolesAbove ∈ lw_good := in_t4 (List.mem_of_getElem? (i := 161) (by decide +kernel)) rfl
abbrev MX7_takeHole : AM := (yX7_takeHole, cX7_takeHole, 7, none)
theorem mt_X7_takeHole : zMt MX7_takeHole 4 := ⟨in_t4 (List.mem_of_getElem? (i := 166) (rfl)) rfl, in_t1 (List.mem_of_getElem? (i := 2) (by decide +kernel)) rfl, ⟨by decide, by decide⟩, by decide +kernel, by decide⟩
theorem min_X7_takeHole : Cond.instanceMethod yX7_takeHole ∈ lw_good := in_t4 (List.mem_of_getElem? (i := 164) (by decide +kernel)) rfl
theorem mse_X7_takeHole : Cond.selects RX7 yX7_takeHole yX7_takeHole ∈ lw_good := in_t4 (List.mem_of_getElem? (i := 165) (by decide +kernel)) rfl
abbrev MX7_isAheadOfHole : AM := (yX7_isAheadOfHole, cX7_isAheadOfHole, 4, (some .boolean))
theorem mt_X7_isAheadOfHole : zMt MX7_isAheadOfHole 3 := ⟨in_t4 (List.mem_of_getElem? (i := 170) (rfl)) rfl, in_t1 (List.mem_of_getElem? (i := 2) (by decide +kernel)) rfl, ⟨by decide, by decide⟩, by decide +kernel, by decide⟩
theorem min_X7_isAheadOfHole : Cond.instanceMethod yX7_isAheadOfHole ∈ lw_good := in_t4 (List.mem_of_getElem? (i := 168) (by decide +kernel)) rfl
theorem mse_X7_isAheadOfHole : Cond.selects RX7 yX7_isAheadOfHole yX7_isAheadOfHole ∈ lw_good := in_t4 (List.mem_of_getElem? (i := 169) (by decide +kernel)) rfl
abbrev MX9_before : AM := (yX9_before, cX9_before, 8, (some .long))
theorem mt_X9_before : zMt MX9_before 6 := ⟨in_t4 (List.mem_of_getElem? (i := 175) (rfl)) rfl, in_t1 (List.mem_of_getElem? (i := 1) (by decide +kernel)) rfl, ⟨by decide, by decide⟩, by decide +kernel, by decide⟩
theorem min_X9_before : Cond.instanceMethod yX9_before ∈ lw_good := in_t4 (List.mem_of_getElem? (i := 173) (by decide +kernel)) rfl
theorem mse_X9_before : Cond.selects RX9 yX9_before yX9_before ∈ lw_good := in_t4 (List.mem_of_getElem? (i := 174) (by decide +kernel)) rfl
abbrev MX2_sumWhenSaved : AM := (yX2_sumWhenSaved, cX2_sumWhenSaved, 4, (some .long))
theorem mt_X2_sumWhenSaved : zMt MX2_sumWhenSaved 3 := ⟨in_t4 (List.mem_of_getElem? (i := 180) (rfl)) rfl, in_t1 (List.mem_of_getElem? (i := 3) (by decide +kernel)) rfl, ⟨by decide, by decide⟩, by decide +kernel, by decide⟩
theorem min_X2_sumWhenSaved : Cond.instanceMethod yX2_sumWhenSaved ∈ lw_good := in_t4 (List.mem_of_getElem? (i := 178) (by decide +kernel)) rfl
theorem mse_X2_sumWhenSaved : Cond.selects RX2 yX2_sumWhenSaved yX2_sumWhenSaved ∈ lw_good := in_t4 (List.mem_of_getElem? (i := 179) (by decide +kernel)) rfl
abbrev MX9_find : AM := (yX9_find, cX9_find, 5, (some .long))
theorem mt_X9_find : zMt MX9_find 3 := ⟨in_t4 (List.mem_of_getElem? (i := 184) (rfl)) rfl, in_t1 (List.mem_of_getElem? (i := 1) (by decide +kernel)) rfl, ⟨by decide, by decide⟩, by decide +kernel, by decide⟩
theorem min_X9_find : Cond.instanceMethod yX9_find ∈ lw_good := in_t4 (List.mem_of_getElem? (i := 182) (by decide +kernel)) rfl
theorem mse_X9_find : Cond.selects RX9 yX9_find yX9_find ∈ lw_good := in_t4 (List.mem_of_getElem? (i := 183) (by decide +kernel)) rfl
abbrev MX9_isAxis : AM := (yX9_isAxis, cX9_isAxis, 1, (some .boolean))
theorem mt_X9_isAxis : zMt MX9_isAxis 1 := ⟨in_t4 (List.mem_of_getElem? (i := 187) (rfl)) rfl, in_t1 (List.mem_of_getElem? (i := 1) (by decide +kernel)) rfl, ⟨by decide, by decide⟩, by decide +kernel, by decide⟩
theorem mst_X9_isAxis : Cond.static yX9_isAxis ∈ lw_good := in_t4 (List.mem_of_getElem? (i := 186) (by decide +kernel)) rfl
abbrev MX9_numberOfUnit : AM := (yX9_numberOfUnit, cX9_numberOfUnit, 6, (some .long))
theorem mt_X9_numberOfUnit : zMt MX9_numberOfUnit 4 := ⟨in_t4 (List.mem_of_getElem? (i := 191) (rfl)) rfl, in_t1 (List.mem_of_getElem? (i := 1) (by decide +kernel)) rfl, ⟨by decide, by decide⟩, by decide +kernel, by decide⟩
theorem min_X9_numberOfUnit : Cond.instanceMethod yX9_numberOfUnit ∈ lw_good := in_t4 (List.mem_of_getElem? (i := 190) (by decide +kernel)) rfl
theorem mse_X9_numberOfUnit : Cond.selects RX9 yX9_numberOfUnit yX9_numberOfUnit ∈ lw_good := good_at 3 (by decide +kernel) rfl
abbrev MX9_findIn : AM := (yX9_findIn, cX9_findIn, 8, (some .long))
theorem mt_X9_findIn : zMt MX9_findIn 6 := ⟨in_t4 (List.mem_of_getElem? (i := 195) (rfl)) rfl, in_t1 (List.mem_of_getElem? (i := 1) (by decide +kernel)) rfl, ⟨by decide, by decide⟩, by decide +kernel, by decide⟩
theorem min_X9_findIn : Cond.instanceMethod yX9_findIn ∈ lw_good := in_t4 (List.mem_of_getElem? (i := 193) (by decide +kernel)) rfl
theorem mse_X9_findIn : Cond.selects RX9 yX9_findIn yX9_findIn ∈ lw_good := in_t4 (List.mem_of_getElem? (i := 194) (by decide +kernel)) rfl
abbrev MX9_touched : AM := (yX9_touched, cX9_touched, 8, (some .long))
theorem mt_X9_touched : zMt MX9_touched 6 := ⟨in_t4 (List.mem_of_getElem? (i := 199) (rfl)) rfl, in_t1 (List.mem_of_getElem? (i := 1) (by decide +kernel)) rfl, ⟨by decide, by decide⟩, by decide +kernel, by decide⟩
theorem min_X9_touched : Cond.instanceMethod yX9_touched ∈ lw_good := in_t4 (List.mem_of_getElem? (i := 197) (by decide +kernel)) rfl
theorem mse_X9_touched : Cond.selects RX9 yX9_touched yX9_touched ∈ lw_good := in_t4 (List.mem_of_getElem? (i := 198) (by decide +kernel)) rfl
abbrev MX9_ahead : AM := (yX9_ahead, cX9_ahead, 5, (some .long))
theorem mt_X9_ahead : zMt MX9_ahead 4 := ⟨in_t4 (List.mem_of_getElem? (i := 203) (rfl)) rfl, in_t1 (List.mem_of_getElem? (i := 1) (by decide +kernel)) rfl, ⟨by decide, by decide⟩, by decide +kernel, by decide⟩
theorem min_X9_ahead : Cond.instanceMethod yX9_ahead ∈ lw_good := in_t4 (List.mem_of_getElem? (i := 201) (by decide +kernel)) rfl
theorem mse_X9_ahead : Cond.selects RX9 yX9_ahead yX9_ahead ∈ lw_good := in_t4 (List.mem_of_getElem? (i := 202) (by decide +kernel)) rfl
abbrev MX9_depot : AM := (yX9_depot, cX9_depot, 7, (some .long))
theorem mt_X9_depot : zMt MX9_depot 2 := ⟨in_t4 (List.mem_of_getElem? (i := 207) (rfl)) rfl, in_t1 (List.mem_of_getElem? (i := 1) (by decide +kernel)) rfl, ⟨by decide, by decide⟩, by decide +kernel, by decide⟩
theorem min_X9_depot : Cond.instanceMethod yX9_depot ∈ lw_good := in_t4 (List.mem_of_getElem? (i := 205) (by decide +kernel)) rfl
theorem mse_X9_depot : Cond.selects RX9 yX9_depot yX9_depot ∈ lw_good := in_t4 (List.mem_of_getElem? (i := 206) (by decide +kernel)) rfl
abbrev MX7_middle : AM := (yX7_middle, cX7_middle, 11, (some .int))
theorem mt_X7_middle : zMt MX7_middle 3 := ⟨in_t4 (List.mem_of_getElem? (i := 211) (rfl)) rfl, in_t1 (List.mem_of_getElem? (i := 2) (by decide +kernel)) rfl, ⟨by decide, by decide⟩, by decide +kernel, by decide⟩
theorem min_X7_middle : Cond.instanceMethod yX7_middle ∈ lw_good := in_t4 (List.mem_of_getElem? (i := 209) (by decide +kernel)) rfl
theorem mse_X7_middle : Cond.selects RX7 yX7_middle yX7_middle ∈ lw_good := in_t4 (List.mem_of_getElem? (i := 210) (by decide +kernel)) rfl
abbrev MX7_measureWhole : AM := (yX7_measureWhole, cX7_measureWhole, 4, none)
theorem mt_X7_measureWhole : zMt MX7_measureWhole 3 := ⟨in_t4 (List.mem_of_getElem? (i := 216) (rfl)) rfl, in_t1 (List.mem_of_getElem? (i := 2) (by decide +kernel)) rfl, ⟨by decide, by decide⟩, by decide +kernel, by decide⟩
theorem min_X7_measureWhole : Cond.instanceMethod yX7_measureWhole ∈ lw_good := in_t4 (List.mem_of_getElem? (i := 214) (by decide +kernel)) rfl
theorem mse_X7_measureWhole : Cond.selects RX7 yX7_measureWhole yX7_measureWhole ∈ lw_good := in_t4 (List.mem_of_getElem? (i := 215) (by decide +kernel)) rfl
abbrev MX1_widthOf : AM := (yX1_widthOf, cX1_widthOf, 2, (some .int))
theorem mt_X1_widthOf : zMt MX1_widthOf 1 := ⟨in_t4 (List.mem_of_getElem? (i := 220) (rfl)) rfl, in_t1 (List.mem_of_getElem? (i := 5) (by decide +kernel)) rfl, ⟨by decide, by decide⟩, by decide +kernel, by decide⟩
theorem min_X1_widthOf : Cond.instanceMethod yX1_widthOf ∈ lw_good := in_t4 (List.mem_of_getElem? (i := 218) (by decide +kernel)) rfl
theorem mse_X1_widthOf : Cond.selects RX1 yX1_widthOf yX1_widthOf ∈ lw_good := in_t4 (List.mem_of_getElem? (i := 219) (by decide +kernel)) rfl
abbrev MX7_haulAcross : AM := (yX7_haulAcross, cX7_haulAcross, 12, (some .long))
theorem mt_X7_haulAcross : zMt MX7_haulAcross 4 := ⟨in_t4 (List.mem_of_getElem? (i := 224) (rfl)) rfl, in_t1 (List.mem_of_getElem? (i := 2) (by decide +kernel)) rfl, ⟨by decide, by decide⟩, by decide +kernel, by decide⟩
theorem min_X7_haulAcross : Cond.instanceMethod yX7_haulAcross ∈ lw_good := in_t4 (List.mem_of_getElem? (i := 222) (by decide +kernel)) rfl
theorem mse_X7_haulAcross : Cond.selects RX7 yX7_haulAcross yX7_haulAcross ∈ lw_good := in_t4 (List.mem_of_getElem? (i := 223) (by decide +kernel)) rfl
abbrev MX7_distances : AM := (yX7_distances, cX7_distances, 3, (some .long))
theorem mt_X7_distances : zMt MX7_distances 3 := ⟨in_t4 (List.mem_of_getElem? (i := 228) (rfl)) rfl, in_t1 (List.mem_of_getElem? (i := 2) (by decide +kernel)) rfl, ⟨by decide, by decide⟩, by decide +kernel, by decide⟩
theorem mst_X7_distances : Cond.static yX7_distances ∈ lw_good := in_t4 (List.mem_of_getElem? (i := 227) (by decide +kernel)) rfl
abbrev MX7_sumUpTo : AM := (yX7_sumUpTo, cX7_sumUpTo, 2, (some .long))
theorem mt_X7_sumUpTo : zMt MX7_sumUpTo 1 := ⟨in_t4 (List.mem_of_getElem? (i := 231) (rfl)) rfl, in_t1 (List.mem_of_getElem? (i := 2) (by decide +kernel)) rfl, ⟨by decide, by decide⟩, by decide +kernel, by decide⟩
theorem mst_X7_sumUpTo : Cond.static yX7_sumUpTo ∈ lw_good := in_t4 (List.mem_of_getElem? (i := 230) (by decide +kernel)) rfl
abbrev MX9_window : AM := (yX9_window, cX9_window, 5, (some .long))
theorem mt_X9_window : zMt MX9_window 4 := ⟨in_t4 (List.mem_of_getElem? (i := 237) (rfl)) rfl, in_t1 (List.mem_of_getElem? (i := 1) (by decide +kernel)) rfl, ⟨by decide, by decide⟩, by decide +kernel, by decide⟩
theorem min_X9_window : Cond.instanceMethod yX9_window ∈ lw_good := in_t4 (List.mem_of_getElem? (i := 235) (by decide +kernel)) rfl
theorem mse_X9_window : Cond.selects RX9 yX9_window yX9_window ∈ lw_good := in_t4 (List.mem_of_getElem? (i := 236) (by decide +kernel)) rfl
abbrev MX7_findWindow : AM := (yX7_findWindow, cX7_findWindow, 12, none)
theorem mt_X7_findWindow : zMt MX7_findWindow 3 := ⟨in_t5 (List.mem_of_getElem? (i := 2) (rfl)) rfl, in_t1 (List.mem_of_getElem? (i := 2) (by decide +kernel)) rfl, ⟨by decide, by decide⟩, by decide +kernel, by decide⟩
theorem min_X7_findWindow : Cond.instanceMethod yX7_findWindow ∈ lw_good := in_t5 (List.mem_of_getElem? (i := 0) (by decide +kernel)) rfl
theorem mse_X7_findWindow : Cond.selects RX7 yX7_findWindow yX7_findWindow ∈ lw_good := in_t5 (List.mem_of_getElem? (i := 1) (by decide +kernel)) rfl
abbrev MX7_gatherStarts : AM := (yX7_gatherStarts, cX7_gatherStarts, 6, (some .int))
theorem mt_X7_gatherStarts : zMt MX7_gatherStarts 3 := ⟨in_t5 (List.mem_of_getElem? (i := 5) (rfl)) rfl, in_t1 (List.mem_of_getElem? (i := 2) (by decide +kernel)) rfl, ⟨by decide, by decide⟩, by decide +kernel, by decide⟩
theorem mst_X7_gatherStarts : Cond.static yX7_gatherStarts ∈ lw_good := in_t5 (List.mem_of_getElem? (i := 4) (by decide +kernel)) rfl
abbrev MX7_sumColumnsAbove : AM := (yX7_sumColumnsAbove, cX7_sumColumnsAbove, 9, none)
theorem mt_X7_sumColumnsAbove : zMt MX7_sumColumnsAbove 1 := ⟨in_t5 (List.mem_of_getElem? (i := 9) (rfl)) rfl, in_t1 (List.mem_of_getElem? (i := 2) (by decide +kernel)) rfl, ⟨by decide, by decide⟩, by decide +kernel, by decide⟩
theorem min_X7_sumColumnsAbove : Cond.instanceMethod yX7_sumColumnsAbove ∈ lw_good := in_t5 (List.mem_of_getElem? (i := 7) (by decide +kernel)) rfl
theorem mse_X7_sumColumnsAbove : Cond.selects RX7 yX7_sumColumnsAbove yX7_sumColumnsAbove ∈ lw_good := in_t5 (List.mem_of_getElem? (i := 8) (by decide +kernel)) rfl
abbrev MX7_sumColumnsBetween : AM := (yX7_sumColumnsBetween, cX7_sumColumnsBetween, 17, none)
theorem mt_X7_sumColumnsBetween : zMt MX7_sumColumnsBetween 3 := ⟨in_t5 (List.mem_of_getElem? (i := 14) (rfl)) rfl, in_t1 (List.mem_of_getElem? (i := 2) (by decide +kernel)) rfl, ⟨by decide, by decide⟩, by decide +kernel, by decide⟩
theorem min_X7_sumColumnsBetween : Cond.instanceMethod yX7_sumColumnsBetween ∈ lw_good := in_t5 (List.mem_of_getElem? (i := 12) (by decide +kernel)) rfl
theorem mse_X7_sumColumnsBetween : Cond.selects RX7 yX7_sumColumnsBetween yX7_sumColumnsBetween ∈ lw_good := in_t5 (List.mem_of_getElem? (i := 13) (by decide +kernel)) rfl
abbrev MX7_unitsAhead : AM := (yX7_unitsAhead, cX7_unitsAhead, 3, (some .long))
theorem mt_X7_unitsAhead : zMt MX7_unitsAhead 1 := ⟨in_t5 (List.mem_of_getElem? (i := 18) (rfl)) rfl, in_t1 (List.mem_of_getElem? (i := 2) (by decide +kernel)) rfl, ⟨by decide, by decide⟩, by decide +kernel, by decide⟩
theorem min_X7_unitsAhead : Cond.instanceMethod yX7_unitsAhead ∈ lw_good := in_t5 (List.mem_of_getElem? (i := 16) (by decide +kernel)) rfl
theorem mse_X7_unitsAhead : Cond.selects RX7 yX7_unitsAhead yX7_unitsAhead ∈ lw_good := in_t5 (List.mem_of_getElem? (i := 17) (by decide +kernel)) rfl
abbrev MX9_line : AM := (yX9_line, cX9_line, 5, (some .long))
theorem mt_X9_line : zMt MX9_line 3 := ⟨in_t5 (List.mem_of_getElem? (i := 22) (rfl)) rfl, in_t1 (List.mem_of_getElem? (i := 1) (by decide +kernel)) rfl, ⟨by decide, by decide⟩, by decide +kernel, by decide⟩
theorem min_X9_line : Cond.instanceMethod yX9_line ∈ lw_good := in_t5 (List.mem_of_getElem? (i := 20) (by decide +kernel)) rfl
theorem mse_X9_line : Cond.selects RX9 yX9_line yX9_line ∈ lw_good := in_t5 (List.mem_of_getElem? (i := 21) (by decide +kernel)) rfl
abbrev MX7_findLine : AM := (yX7_findLine, cX7_findLine, 6, (some .int))
theorem mt_X7_findLine : zMt MX7_findLine 2 := ⟨in_t5 (List.mem_of_getElem? (i := 26) (rfl)) rfl, in_t1 (List.mem_of_getElem? (i := 2) (by decide +kernel)) rfl, ⟨by decide, by decide⟩, by decide +kernel, by decide⟩
theorem min_X7_findLine : Cond.instanceMethod yX7_findLine ∈ lw_good := in_t5 (List.mem_of_getElem? (i := 24) (by decide +kernel)) rfl
theorem mse_X7_findLine : Cond.selects RX7 yX7_findLine yX7_findLine ∈ lw_good := in_t5 (List.mem_of_getElem? (i := 25) (by decide +kernel)) rfl
abbrev MX9_borders : AM := (yX9_borders, cX9_borders, 4, (some .int))
theorem mt_X9_borders : zMt MX9_borders 2 := ⟨in_t5 (List.mem_of_getElem? (i := 30) (rfl)) rfl, in_t1 (List.mem_of_getElem? (i := 1) (by decide +kernel)) rfl, ⟨by decide, by decide⟩, by decide +kernel, by decide⟩
theorem min_X9_borders : Cond.instanceMethod yX9_borders ∈ lw_good := in_t5 (List.mem_of_getElem? (i := 28) (by decide +kernel)) rfl
theorem mse_X9_borders : Cond.selects RX9 yX9_borders yX9_borders ∈ lw_good := in_t5 (List.mem_of_getElem? (i := 29) (by decide +kernel)) rfl
abbrev MX2_axisOf : AM := (yX2_axisOf, cX2_axisOf, 2, (some (.object "StockGrid$Axis")))
theorem mt_X2_axisOf : zMt MX2_axisOf 1 := ⟨in_t5 (List.mem_of_getElem? (i := 34) (rfl)) rfl, in_t1 (List.mem_of_getElem? (i := 3) (by decide +kernel)) rfl, ⟨by decide, by decide⟩, by decide +kernel, by decide⟩
theorem min_X2_axisOf : Cond.instanceMethod yX2_axisOf ∈ lw_good := in_t5 (List.mem_of_getElem? (i := 32) (by decide +kernel)) rfl
theorem mse_X2_axisOf : Cond.selects RX2 yX2_axisOf yX2_axisOf ∈ lw_good := in_t5 (List.mem_of_getElem? (i := 33) (by decide +kernel)) rfl
abbrev MX9_border : AM := (yX9_border, cX9_border, 4, (some .int))
theorem mt_X9_border : zMt MX9_border 2 := ⟨in_t5 (List.mem_of_getElem? (i := 38) (rfl)) rfl, in_t1 (List.mem_of_getElem? (i := 1) (by decide +kernel)) rfl, ⟨by decide, by decide⟩, by decide +kernel, by decide⟩
theorem min_X9_border : Cond.instanceMethod yX9_border ∈ lw_good := in_t5 (List.mem_of_getElem? (i := 36) (by decide +kernel)) rfl
theorem mse_X9_border : Cond.selects RX9 yX9_border yX9_border ∈ lw_good := in_t5 (List.mem_of_getElem? (i := 37) (by decide +kernel)) rfl
abbrev MX9_act : AM := (yX9_act, cX9_act, 3, (some .long))
theorem mt_X9_act : zMt MX9_act 2 := ⟨in_t5 (List.mem_of_getElem? (i := 42) (rfl)) rfl, in_t1 (List.mem_of_getElem? (i := 1) (by decide +kernel)) rfl, ⟨by decide, by decide⟩, by decide +kernel, by decide⟩
theorem min_X9_act : Cond.instanceMethod yX9_act ∈ lw_good := in_t5 (List.mem_of_getElem? (i := 40) (by decide +kernel)) rfl
theorem mse_X9_act : Cond.selects RX9 yX9_act yX9_act ∈ lw_good := in_t5 (List.mem_of_getElem? (i := 41) (by decide +kernel)) rfl
abbrev MX6_told : AM := (yX6_told, cX6_told, 3, (some .long))
theorem mt_X6_told : zMt MX6_told 2 := ⟨in_t5 (List.mem_of_getElem? (i := 46) (rfl)) rfl, in_t1 (List.mem_of_getElem? (i := 8) (by decide +kernel)) rfl, ⟨by decide, by decide⟩, by decide +kernel, by decide⟩
theorem min_X6_told : Cond.instanceMethod yX6_told ∈ lw_good := in_t5 (List.mem_of_getElem? (i := 44) (by decide +kernel)) rfl
theorem mse_X6_told : Cond.selects RX6 yX6_told yX6_told ∈ lw_good := in_t5 (List.mem_of_getElem? (i := 45) (by decide +kernel)) rfl
abbrev MX9_count : AM := (yX9_count, cX9_count, 2, (some .long))
theorem mt_X9_count : zMt MX9_count 1 := ⟨in_t5 (List.mem_of_getElem? (i := 50) (rfl)) rfl, in_t1 (List.mem_of_getElem? (i := 1) (by decide +kernel)) rfl, ⟨by decide, by decide⟩, by decide +kernel, by decide⟩
theorem min_X9_count : Cond.instanceMethod yX9_count ∈ lw_good := in_t5 (List.mem_of_getElem? (i := 48) (by decide +kernel)) rfl
theorem mse_X9_count : Cond.selects RX9 yX9_count yX9_count ∈ lw_good := in_t5 (List.mem_of_getElem? (i := 49) (by decide +kernel)) rfl
abbrev MX10_init : AM := (yX10_init, cX10_init, 1, none)
theorem mt_X10_init : zMt MX10_init 0 := ⟨in_t5 (List.mem_of_getElem? (i := 55) (rfl)) rfl, in_t1 (List.mem_of_getElem? (i := 11) (by decide +kernel)) rfl, ⟨by decide, by decide⟩, by decide +kernel, by decide⟩
theorem min_X10_init : Cond.instanceMethod yX10_init ∈ lw_good := in_t5 (List.mem_of_getElem? (i := 54) (by decide +kernel)) rfl
abbrev MX10_begins : AM := (yX10_begins, cX10_begins, 2, none)
theorem mt_X10_begins : zMt MX10_begins 0 := ⟨in_t5 (List.mem_of_getElem? (i := 62) (rfl)) rfl, in_t1 (List.mem_of_getElem? (i := 11) (by decide +kernel)) rfl, ⟨by decide, by decide⟩, by decide +kernel, by decide⟩
theorem min_X10_begins : Cond.instanceMethod yX10_begins ∈ lw_good := in_t5 (List.mem_of_getElem? (i := 61) (by decide +kernel)) rfl
theorem mse_X10_begins : Cond.selects RX10 yX10_begins yX10_begins ∈ lw_good := good_at 4 (by decide +kernel) rfl
abbrev MX10_world : AM := (yX10_world, cX10_world, 5, (some .long))
theorem mt_X10_world : zMt MX10_world 3 := ⟨in_t5 (List.mem_of_getElem? (i := 221) (rfl)) rfl, in_t1 (List.mem_of_getElem? (i := 11) (by decide +kernel)) rfl, ⟨by decide, by decide⟩, by decide +kernel, by decide⟩
theorem min_X10_world : Cond.instanceMethod yX10_world ∈ lw_good := in_t5 (List.mem_of_getElem? (i := 219) (by decide +kernel)) rfl
theorem mse_X10_world : Cond.selects RX10 yX10_world yX10_world ∈ lw_good := in_t5 (List.mem_of_getElem? (i := 220) (by decide +kernel)) rfl
abbrev MX10_isIn : AM := (yX10_isIn, cX10_isIn, 6, (some .boolean))
theorem mt_X10_isIn : zMt MX10_isIn 3 := ⟨in_t5 (List.mem_of_getElem? (i := 225) (rfl)) rfl, in_t1 (List.mem_of_getElem? (i := 11) (by decide +kernel)) rfl, ⟨by decide, by decide⟩, by decide +kernel, by decide⟩
theorem mst_X10_isIn : Cond.static yX10_isIn ∈ lw_good := in_t5 (List.mem_of_getElem? (i := 224) (by decide +kernel)) rfl
abbrev MX10_add : AM := (yX10_add, cX10_add, 12, (some .long))
theorem mt_X10_add : zMt MX10_add 6 := ⟨in_t5 (List.mem_of_getElem? (i := 230) (rfl)) rfl, in_t1 (List.mem_of_getElem? (i := 11) (by decide +kernel)) rfl, ⟨by decide, by decide⟩, by decide +kernel, by decide⟩
theorem min_X10_add : Cond.instanceMethod yX10_add ∈ lw_good := in_t5 (List.mem_of_getElem? (i := 228) (by decide +kernel)) rfl
theorem mse_X10_add : Cond.selects RX10 yX10_add yX10_add ∈ lw_good := in_t5 (List.mem_of_getElem? (i := 229) (by decide +kernel)) rfl
abbrev MX10_isGood : AM := (yX10_isGood, cX10_isGood, 1, (some .boolean))
theorem mt_X10_isGood : zMt MX10_isGood 1 := ⟨in_t5 (List.mem_of_getElem? (i := 233) (rfl)) rfl, in_t1 (List.mem_of_getElem? (i := 11) (by decide +kernel)) rfl, ⟨by decide, by decide⟩, by decide +kernel, by decide⟩
theorem mst_X10_isGood : Cond.static yX10_isGood ∈ lw_good := in_t5 (List.mem_of_getElem? (i := 232) (by decide +kernel)) rfl
abbrev MX10_isRectangle : AM := (yX10_isRectangle, cX10_isRectangle, 5, (some .boolean))
theorem mt_X10_isRectangle : zMt MX10_isRectangle 4 := ⟨in_t5 (List.mem_of_getElem? (i := 238) (rfl)) rfl, in_t1 (List.mem_of_getElem? (i := 11) (by decide +kernel)) rfl, ⟨by decide, by decide⟩, by decide +kernel, by decide⟩
theorem min_X10_isRectangle : Cond.instanceMethod yX10_isRectangle ∈ lw_good := in_t5 (List.mem_of_getElem? (i := 237) (by decide +kernel)) rfl
theorem mse_X10_isRectangle : Cond.selects RX10 yX10_isRectangle yX10_isRectangle ∈ lw_good := good_at 5 (by decide +kernel) rfl
abbrev MX10_breaksBy : AM := (yX10_breaksBy, cX10_breaksBy, 11, (some .int))
theorem mt_X10_breaksBy : zMt MX10_breaksBy 6 := ⟨in_t6 (List.mem_of_getElem? (i := 5) (rfl)) rfl, in_t1 (List.mem_of_getElem? (i := 11) (by decide +kernel)) rfl, ⟨by decide, by decide⟩, by decide +kernel, by decide⟩
theorem min_X10_breaksBy : Cond.instanceMethod yX10_breaksBy ∈ lw_good := in_t6 (List.mem_of_getElem? (i := 4) (by decide +kernel)) rfl
theorem mse_X10_breaksBy : Cond.selects RX10 yX10_breaksBy yX10_breaksBy ∈ lw_good := good_at 6 (by decide +kernel) rfl
abbrev MX10_part : AM := (yX10_part, cX10_part, 7, (some .int))
theorem mt_X10_part : zMt MX10_part 4 := ⟨in_t6 (List.mem_of_getElem? (i := 9) (rfl)) rfl, in_t1 (List.mem_of_getElem? (i := 11) (by decide +kernel)) rfl, ⟨by decide, by decide⟩, by decide +kernel, by decide⟩
theorem min_X10_part : Cond.instanceMethod yX10_part ∈ lw_good := in_t6 (List.mem_of_getElem? (i := 8) (by decide +kernel)) rfl
theorem mse_X10_part : Cond.selects RX10 yX10_part yX10_part ∈ lw_good := good_at 7 (by decide +kernel) rfl
abbrev MX10_edgeAt : AM := (yX10_edgeAt, cX10_edgeAt, 3, (some .int))
theorem mt_X10_edgeAt : zMt MX10_edgeAt 2 := ⟨in_t6 (List.mem_of_getElem? (i := 13) (rfl)) rfl, in_t1 (List.mem_of_getElem? (i := 11) (by decide +kernel)) rfl, ⟨by decide, by decide⟩, by decide +kernel, by decide⟩
theorem min_X10_edgeAt : Cond.instanceMethod yX10_edgeAt ∈ lw_good := in_t6 (List.mem_of_getElem? (i := 12) (by decide +kernel)) rfl
theorem mse_X10_edgeAt : Cond.selects RX10 yX10_edgeAt yX10_edgeAt ∈ lw_good := good_at 8 (by decide +kernel) rfl
abbrev MX10_sizeOf : AM := (yX10_sizeOf, cX10_sizeOf, 2, (some .int))
theorem mt_X10_sizeOf : zMt MX10_sizeOf 1 := ⟨in_t6 (List.mem_of_getElem? (i := 17) (rfl)) rfl, in_t1 (List.mem_of_getElem? (i := 11) (by decide +kernel)) rfl, ⟨by decide, by decide⟩, by decide +kernel, by decide⟩
theorem min_X10_sizeOf : Cond.instanceMethod yX10_sizeOf ∈ lw_good := in_t6 (List.mem_of_getElem? (i := 16) (by decide +kernel)) rfl
theorem mse_X10_sizeOf : Cond.selects RX10 yX10_sizeOf yX10_sizeOf ∈ lw_good := good_at 9 (by decide +kernel) rfl
abbrev MX10_in : AM := (yX10_in, cX10_in, 4, (some .long))
theorem mt_X10_in : zMt MX10_in 3 := ⟨in_t6 (List.mem_of_getElem? (i := 21) (rfl)) rfl, in_t1 (List.mem_of_getElem? (i := 11) (by decide +kernel)) rfl, ⟨by decide, by decide⟩, by decide +kernel, by decide⟩
theorem min_X10_in : Cond.instanceMethod yX10_in ∈ lw_good := in_t6 (List.mem_of_getElem? (i := 20) (by decide +kernel)) rfl
theorem mse_X10_in : Cond.selects RX10 yX10_in yX10_in ∈ lw_good := good_at 10 (by decide +kernel) rfl
abbrev MX10_slot : AM := (yX10_slot, cX10_slot, 3, (some .int))
theorem mt_X10_slot : zMt MX10_slot 3 := ⟨in_t6 (List.mem_of_getElem? (i := 24) (rfl)) rfl, in_t1 (List.mem_of_getElem? (i := 11) (by decide +kernel)) rfl, ⟨by decide, by decide⟩, by decide +kernel, by decide⟩
theorem mst_X10_slot : Cond.static yX10_slot ∈ lw_good := in_t6 (List.mem_of_getElem? (i := 23) (by decide +kernel)) rfl
abbrev MX10_meets : AM := (yX10_meets, cX10_meets, 6, (some .boolean))
theorem mt_X10_meets : zMt MX10_meets 5 := ⟨in_t6 (List.mem_of_getElem? (i := 28) (rfl)) rfl, in_t1 (List.mem_of_getElem? (i := 11) (by decide +kernel)) rfl, ⟨by decide, by decide⟩, by decide +kernel, by decide⟩
theorem min_X10_meets : Cond.instanceMethod yX10_meets ∈ lw_good := in_t6 (List.mem_of_getElem? (i := 27) (by decide +kernel)) rfl
theorem mse_X10_meets : Cond.selects RX10 yX10_meets yX10_meets ∈ lw_good := good_at 11 (by decide +kernel) rfl
abbrev MX10_zoned : AM := (yX10_zoned, cX10_zoned, 2, (some .long))
theorem mt_X10_zoned : zMt MX10_zoned 1 := ⟨in_t6 (List.mem_of_getElem? (i := 32) (rfl)) rfl, in_t1 (List.mem_of_getElem? (i := 11) (by decide +kernel)) rfl, ⟨by decide, by decide⟩, by decide +kernel, by decide⟩
theorem min_X10_zoned : Cond.instanceMethod yX10_zoned ∈ lw_good := in_t6 (List.mem_of_getElem? (i := 31) (by decide +kernel)) rfl
theorem mse_X10_zoned : Cond.selects RX10 yX10_zoned yX10_zoned ∈ lw_good := good_at 12 (by decide +kernel) rfl
abbrev MX10_sumOf : AM := (yX10_sumOf, cX10_sumOf, 10, (some .long))
theorem mt_X10_sumOf : zMt MX10_sumOf 5 := ⟨in_t6 (List.mem_of_getElem? (i := 36) (rfl)) rfl, in_t1 (List.mem_of_getElem? (i := 11) (by decide +kernel)) rfl, ⟨by decide, by decide⟩, by decide +kernel, by decide⟩
theorem min_X10_sumOf : Cond.instanceMethod yX10_sumOf ∈ lw_good := in_t6 (List.mem_of_getElem? (i := 35) (by decide +kernel)) rfl
theorem mse_X10_sumOf : Cond.selects RX10 yX10_sumOf yX10_sumOf ∈ lw_good := good_at 13 (by decide +kernel) rfl
abbrev MX10_acrossSum : AM := (yX10_acrossSum, cX10_acrossSum, 8, (some .long))
theorem mt_X10_acrossSum : zMt MX10_acrossSum 4 := ⟨in_t6 (List.mem_of_getElem? (i := 40) (rfl)) rfl, in_t1 (List.mem_of_getElem? (i := 11) (by decide +kernel)) rfl, ⟨by decide, by decide⟩, by decide +kernel, by decide⟩
theorem min_X10_acrossSum : Cond.instanceMethod yX10_acrossSum ∈ lw_good := in_t6 (List.mem_of_getElem? (i := 39) (by decide +kernel)) rfl
theorem mse_X10_acrossSum : Cond.selects RX10 yX10_acrossSum yX10_acrossSum ∈ lw_good := good_at 14 (by decide +kernel) rfl
abbrev MX10_cells : AM := (yX10_cells, cX10_cells, 1, (some .long))
theorem mt_X10_cells : zMt MX10_cells 0 := ⟨in_t6 (List.mem_of_getElem? (i := 44) (rfl)) rfl, in_t1 (List.mem_of_getElem? (i := 11) (by decide +kernel)) rfl, ⟨by decide, by decide⟩, by decide +kernel, by decide⟩
theorem min_X10_cells : Cond.instanceMethod yX10_cells ∈ lw_good := in_t6 (List.mem_of_getElem? (i := 43) (by decide +kernel)) rfl
theorem mse_X10_cells : Cond.selects RX10 yX10_cells yX10_cells ∈ lw_good := good_at 15 (by decide +kernel) rfl
abbrev MX10_hasRoom : AM := (yX10_hasRoom, cX10_hasRoom, 5, (some .boolean))
theorem mt_X10_hasRoom : zMt MX10_hasRoom 4 := ⟨in_t6 (List.mem_of_getElem? (i := 51) (rfl)) rfl, in_t1 (List.mem_of_getElem? (i := 11) (by decide +kernel)) rfl, ⟨by decide, by decide⟩, by decide +kernel, by decide⟩
theorem min_X10_hasRoom : Cond.instanceMethod yX10_hasRoom ∈ lw_good := in_t6 (List.mem_of_getElem? (i := 50) (by decide +kernel)) rfl
theorem mse_X10_hasRoom : Cond.selects RX10 yX10_hasRoom yX10_hasRoom ∈ lw_good := good_at 16 (by decide +kernel) rfl
abbrev MX10_wantsAll : AM := (yX10_wantsAll, cX10_wantsAll, 5, none)
theorem mt_X10_wantsAll : zMt MX10_wantsAll 4 := ⟨in_t6 (List.mem_of_getElem? (i := 55) (rfl)) rfl, in_t1 (List.mem_of_getElem? (i := 11) (by decide +kernel)) rfl, ⟨by decide, by decide⟩, by decide +kernel, by decide⟩
theorem min_X10_wantsAll : Cond.instanceMethod yX10_wantsAll ∈ lw_good := in_t6 (List.mem_of_getElem? (i := 54) (by decide +kernel)) rfl
theorem mse_X10_wantsAll : Cond.selects RX10 yX10_wantsAll yX10_wantsAll ∈ lw_good := good_at 17 (by decide +kernel) rfl
abbrev MX10_wants : AM := (yX10_wants, cX10_wants, 4, none)
theorem mt_X10_wants : zMt MX10_wants 2 := ⟨in_t6 (List.mem_of_getElem? (i := 59) (rfl)) rfl, in_t1 (List.mem_of_getElem? (i := 11) (by decide +kernel)) rfl, ⟨by decide, by decide⟩, by decide +kernel, by decide⟩
theorem min_X10_wants : Cond.instanceMethod yX10_wants ∈ lw_good := in_t6 (List.mem_of_getElem? (i := 58) (by decide +kernel)) rfl
theorem mse_X10_wants : Cond.selects RX10 yX10_wants yX10_wants ∈ lw_good := good_at 18 (by decide +kernel) rfl
abbrev MX10_isEdge : AM := (yX10_isEdge, cX10_isEdge, 4, (some .boolean))
theorem mt_X10_isEdge : zMt MX10_isEdge 2 := ⟨in_t6 (List.mem_of_getElem? (i := 63) (rfl)) rfl, in_t1 (List.mem_of_getElem? (i := 11) (by decide +kernel)) rfl, ⟨by decide, by decide⟩, by decide +kernel, by decide⟩
theorem min_X10_isEdge : Cond.instanceMethod yX10_isEdge ∈ lw_good := in_t6 (List.mem_of_getElem? (i := 62) (by decide +kernel)) rfl
theorem mse_X10_isEdge : Cond.selects RX10 yX10_isEdge yX10_isEdge ∈ lw_good := good_at 19 (by decide +kernel) rfl
abbrev MX10_isRoom : AM := (yX10_isRoom, cX10_isRoom, 2, (some .boolean))
theorem mt_X10_isRoom : zMt MX10_isRoom 1 := ⟨in_t6 (List.mem_of_getElem? (i := 67) (rfl)) rfl, in_t1 (List.mem_of_getElem? (i := 11) (by decide +kernel)) rfl, ⟨by decide, by decide⟩, by decide +kernel, by decide⟩
theorem min_X10_isRoom : Cond.instanceMethod yX10_isRoom ∈ lw_good := in_t6 (List.mem_of_getElem? (i := 66) (by decide +kernel)) rfl
theorem mse_X10_isRoom : Cond.selects RX10 yX10_isRoom yX10_isRoom ∈ lw_good := good_at 20 (by decide +kernel) rfl
abbrev MX10_acts : AM := (yX10_acts, cX10_acts, 2, none)
theorem mt_X10_acts : zMt MX10_acts 0 := ⟨in_t6 (List.mem_of_getElem? (i := 72) (rfl)) rfl, in_t1 (List.mem_of_getElem? (i := 11) (by decide +kernel)) rfl, ⟨by decide, by decide⟩, by decide +kernel, by decide⟩
theorem min_X10_acts : Cond.instanceMethod yX10_acts ∈ lw_good := in_t6 (List.mem_of_getElem? (i := 71) (by decide +kernel)) rfl
theorem mse_X10_acts : Cond.selects RX10 yX10_acts yX10_acts ∈ lw_good := good_at 21 (by decide +kernel) rfl
abbrev MX10_comes : AM := (yX10_comes, cX10_comes, 6, none)
theorem mt_X10_comes : zMt MX10_comes 2 := ⟨in_t6 (List.mem_of_getElem? (i := 76) (rfl)) rfl, in_t1 (List.mem_of_getElem? (i := 11) (by decide +kernel)) rfl, ⟨by decide, by decide⟩, by decide +kernel, by decide⟩
theorem min_X10_comes : Cond.instanceMethod yX10_comes ∈ lw_good := in_t6 (List.mem_of_getElem? (i := 75) (by decide +kernel)) rfl
theorem mse_X10_comes : Cond.selects RX10 yX10_comes yX10_comes ∈ lw_good := good_at 22 (by decide +kernel) rfl
abbrev MX10_parts : AM := (yX10_parts, cX10_parts, 10, none)
theorem mt_X10_parts : zMt MX10_parts 5 := ⟨in_t6 (List.mem_of_getElem? (i := 79) (rfl)) rfl, in_t1 (List.mem_of_getElem? (i := 11) (by decide +kernel)) rfl, ⟨by decide, by decide⟩, by decide +kernel, by decide⟩
theorem mst_X10_parts : Cond.static yX10_parts ∈ lw_good := in_t6 (List.mem_of_getElem? (i := 78) (by decide +kernel)) rfl
abbrev MX10_tells : AM := (yX10_tells, cX10_tells, 10, none)
theorem mt_X10_tells : zMt MX10_tells 7 := ⟨in_t6 (List.mem_of_getElem? (i := 83) (rfl)) rfl, in_t1 (List.mem_of_getElem? (i := 11) (by decide +kernel)) rfl, ⟨by decide, by decide⟩, by decide +kernel, by decide⟩
theorem min_X10_tells : Cond.instanceMethod yX10_tells ∈ lw_good := in_t6 (List.mem_of_getElem? (i := 82) (by decide +kernel)) rfl
theorem mse_X10_tells : Cond.selects RX10 yX10_tells yX10_tells ∈ lw_good := good_at 23 (by decide +kernel) rfl
abbrev MX10_pick : AM := (yX10_pick, cX10_pick, 12, (some .long))
theorem mt_X10_pick : zMt MX10_pick 6 := ⟨in_t6 (List.mem_of_getElem? (i := 87) (rfl)) rfl, in_t1 (List.mem_of_getElem? (i := 11) (by decide +kernel)) rfl, ⟨by decide, by decide⟩, by decide +kernel, by decide⟩
theorem min_X10_pick : Cond.instanceMethod yX10_pick ∈ lw_good := in_t6 (List.mem_of_getElem? (i := 85) (by decide +kernel)) rfl
theorem mse_X10_pick : Cond.selects RX10 yX10_pick yX10_pick ∈ lw_good := in_t6 (List.mem_of_getElem? (i := 86) (by decide +kernel)) rfl
abbrev MX10_finds : AM := (yX10_finds, cX10_finds, 19, (some .boolean))
theorem mt_X10_finds : zMt MX10_finds 6 := ⟨in_t6 (List.mem_of_getElem? (i := 91) (rfl)) rfl, in_t1 (List.mem_of_getElem? (i := 11) (by decide +kernel)) rfl, ⟨by decide, by decide⟩, by decide +kernel, by decide⟩
theorem min_X10_finds : Cond.instanceMethod yX10_finds ∈ lw_good := in_t6 (List.mem_of_getElem? (i := 90) (by decide +kernel)) rfl
theorem mse_X10_finds : Cond.selects RX10 yX10_finds yX10_finds ∈ lw_good := good_at 24 (by decide +kernel) rfl
abbrev MX10_empties : AM := (yX10_empties, cX10_empties, 8, none)
theorem mt_X10_empties : zMt MX10_empties 5 := ⟨in_t6 (List.mem_of_getElem? (i := 96) (rfl)) rfl, in_t1 (List.mem_of_getElem? (i := 11) (by decide +kernel)) rfl, ⟨by decide, by decide⟩, by decide +kernel, by decide⟩
theorem min_X10_empties : Cond.instanceMethod yX10_empties ∈ lw_good := in_t6 (List.mem_of_getElem? (i := 95) (by decide +kernel)) rfl
theorem mse_X10_empties : Cond.selects RX10 yX10_empties yX10_empties ∈ lw_good := good_at 25 (by decide +kernel) rfl
abbrev MX10_blockAt : AM := (yX10_blockAt, cX10_blockAt, 4, (some .int))
theorem mt_X10_blockAt : zMt MX10_blockAt 2 := ⟨in_t6 (List.mem_of_getElem? (i := 100) (rfl)) rfl, in_t1 (List.mem_of_getElem? (i := 11) (by decide +kernel)) rfl, ⟨by decide, by decide⟩, by decide +kernel, by decide⟩
theorem min_X10_blockAt : Cond.instanceMethod yX10_blockAt ∈ lw_good := in_t6 (List.mem_of_getElem? (i := 99) (by decide +kernel)) rfl
theorem mse_X10_blockAt : Cond.selects RX10 yX10_blockAt yX10_blockAt ∈ lw_good := good_at 26 (by decide +kernel) rfl
abbrev MX10_number : AM := (yX10_number, cX10_number, 3, (some .long))
theorem mt_X10_number : zMt MX10_number 2 := ⟨in_t6 (List.mem_of_getElem? (i := 104) (rfl)) rfl, in_t1 (List.mem_of_getElem? (i := 11) (by decide +kernel)) rfl, ⟨by decide, by decide⟩, by decide +kernel, by decide⟩
theorem min_X10_number : Cond.instanceMethod yX10_number ∈ lw_good := in_t6 (List.mem_of_getElem? (i := 103) (by decide +kernel)) rfl
theorem mse_X10_number : Cond.selects RX10 yX10_number yX10_number ∈ lw_good := good_at 27 (by decide +kernel) rfl
abbrev MX10_move : AM := (yX10_move, cX10_move, 14, (some .long))
theorem mt_X10_move : zMt MX10_move 7 := ⟨in_t6 (List.mem_of_getElem? (i := 108) (rfl)) rfl, in_t1 (List.mem_of_getElem? (i := 11) (by decide +kernel)) rfl, ⟨by decide, by decide⟩, by decide +kernel, by decide⟩
theorem min_X10_move : Cond.instanceMethod yX10_move ∈ lw_good := in_t6 (List.mem_of_getElem? (i := 106) (by decide +kernel)) rfl
theorem mse_X10_move : Cond.selects RX10 yX10_move yX10_move ∈ lw_good := in_t6 (List.mem_of_getElem? (i := 107) (by decide +kernel)) rfl
abbrev MX10_wantsMoved : AM := (yX10_wantsMoved, cX10_wantsMoved, 7, none)
theorem mt_X10_wantsMoved : zMt MX10_wantsMoved 4 := ⟨in_t6 (List.mem_of_getElem? (i := 114) (rfl)) rfl, in_t1 (List.mem_of_getElem? (i := 11) (by decide +kernel)) rfl, ⟨by decide, by decide⟩, by decide +kernel, by decide⟩
theorem min_X10_wantsMoved : Cond.instanceMethod yX10_wantsMoved ∈ lw_good := in_t6 (List.mem_of_getElem? (i := 113) (by decide +kernel)) rfl
theorem mse_X10_wantsMoved : Cond.selects RX10 yX10_wantsMoved yX10_wantsMoved ∈ lw_good := good_at 28 (by decide +kernel) rfl
abbrev MX10_laysThen : AM := (yX10_laysThen, cX10_laysThen, 5, none)
theorem mt_X10_laysThen : zMt MX10_laysThen 1 := ⟨in_t6 (List.mem_of_getElem? (i := 118) (rfl)) rfl, in_t1 (List.mem_of_getElem? (i := 11) (by decide +kernel)) rfl, ⟨by decide, by decide⟩, by decide +kernel, by decide⟩
theorem min_X10_laysThen : Cond.instanceMethod yX10_laysThen ∈ lw_good := in_t6 (List.mem_of_getElem? (i := 117) (by decide +kernel)) rfl
theorem mse_X10_laysThen : Cond.selects RX10 yX10_laysThen yX10_laysThen ∈ lw_good := good_at 29 (by decide +kernel) rfl
abbrev MX10_keepsAcross : AM := (yX10_keepsAcross, cX10_keepsAcross, 2, none)
theorem mt_X10_keepsAcross : zMt MX10_keepsAcross 0 := ⟨in_t6 (List.mem_of_getElem? (i := 122) (rfl)) rfl, in_t1 (List.mem_of_getElem? (i := 11) (by decide +kernel)) rfl, ⟨by decide, by decide⟩, by decide +kernel, by decide⟩
theorem min_X10_keepsAcross : Cond.instanceMethod yX10_keepsAcross ∈ lw_good := in_t6 (List.mem_of_getElem? (i := 121) (by decide +kernel)) rfl
theorem mse_X10_keepsAcross : Cond.selects RX10 yX10_keepsAcross yX10_keepsAcross ∈ lw_good := good_at 30 (by decide +kernel) rfl
abbrev MX10_isInside : AM := (yX10_isInside, cX10_isInside, 6, (some .boolean))
theorem mt_X10_isInside : zMt MX10_isInside 6 := ⟨in_t6 (List.mem_of_getElem? (i := 125) (rfl)) rfl, in_t1 (List.mem_of_getElem? (i := 11) (by decide +kernel)) rfl, ⟨by decide, by decide⟩, by decide +kernel, by decide⟩
theorem mst_X10_isInside : Cond.static yX10_isInside ∈ lw_good := in_t6 (List.mem_of_getElem? (i := 124) (by decide +kernel)) rfl
abbrev MX10_cell : AM := (yX10_cell, cX10_cell, 4, (some .long))
theorem mt_X10_cell : zMt MX10_cell 3 := ⟨in_t6 (List.mem_of_getElem? (i := 129) (rfl)) rfl, in_t1 (List.mem_of_getElem? (i := 11) (by decide +kernel)) rfl, ⟨by decide, by decide⟩, by decide +kernel, by decide⟩
theorem min_X10_cell : Cond.instanceMethod yX10_cell ∈ lw_good := in_t6 (List.mem_of_getElem? (i := 128) (by decide +kernel)) rfl
theorem mse_X10_cell : Cond.selects RX10 yX10_cell yX10_cell ∈ lw_good := good_at 31 (by decide +kernel) rfl
abbrev MX10_comesAcross : AM := (yX10_comesAcross, cX10_comesAcross, 2, none)
theorem mt_X10_comesAcross : zMt MX10_comesAcross 0 := ⟨in_t6 (List.mem_of_getElem? (i := 134) (rfl)) rfl, in_t1 (List.mem_of_getElem? (i := 11) (by decide +kernel)) rfl, ⟨by decide, by decide⟩, by decide +kernel, by decide⟩
theorem min_X10_comesAcross : Cond.instanceMethod yX10_comesAcross ∈ lw_good := in_t6 (List.mem_of_getElem? (i := 133) (by decide +kernel)) rfl
theorem mse_X10_comesAcross : Cond.selects RX10 yX10_comesAcross yX10_comesAcross ∈ lw_good := good_at 32 (by decide +kernel) rfl
abbrev MX10_comesAll : AM := (yX10_comesAll, cX10_comesAll, 4, none)
theorem mt_X10_comesAll : zMt MX10_comesAll 1 := ⟨in_t6 (List.mem_of_getElem? (i := 138) (rfl)) rfl, in_t1 (List.mem_of_getElem? (i := 11) (by decide +kernel)) rfl, ⟨by decide, by decide⟩, by decide +kernel, by decide⟩
theorem min_X10_comesAll : Cond.instanceMethod yX10_comesAll ∈ lw_good := in_t6 (List.mem_of_getElem? (i := 137) (by decide +kernel)) rfl
theorem mse_X10_comesAll : Cond.selects RX10 yX10_comesAll yX10_comesAll ∈ lw_good := good_at 33 (by decide +kernel) rfl
abbrev MX10_level : AM := (yX10_level, cX10_level, 20, (some .long))
theorem mt_X10_level : zMt MX10_level 5 := ⟨in_t6 (List.mem_of_getElem? (i := 143) (rfl)) rfl, in_t1 (List.mem_of_getElem? (i := 11) (by decide +kernel)) rfl, ⟨by decide, by decide⟩, by decide +kernel, by decide⟩
theorem min_X10_level : Cond.instanceMethod yX10_level ∈ lw_good := in_t6 (List.mem_of_getElem? (i := 141) (by decide +kernel)) rfl
theorem mse_X10_level : Cond.selects RX10 yX10_level yX10_level ∈ lw_good := in_t6 (List.mem_of_getElem? (i := 142) (by decide +kernel)) rfl
abbrev MX10_first0 : AM := (yX10_first0, cX10_first0, 7, (some .long))
theorem mt_X10_first0 : zMt MX10_first0 2 := ⟨in_t6 (List.mem_of_getElem? (i := 147) (rfl)) rfl, in_t1 (List.mem_of_getElem? (i := 11) (by decide +kernel)) rfl, ⟨by decide, by decide⟩, by decide +kernel, by decide⟩
theorem min_X10_first0 : Cond.instanceMethod yX10_first0 ∈ lw_good := in_t6 (List.mem_of_getElem? (i := 146) (by decide +kernel)) rfl
theorem mse_X10_first0 : Cond.selects RX10 yX10_first0 yX10_first0 ∈ lw_good := good_at 34 (by decide +kernel) rfl
abbrev MX10_zone : AM := (yX10_zone, cX10_zone, 10, (some .long))
theorem mt_X10_zone : zMt MX10_zone 6 := ⟨in_t6 (List.mem_of_getElem? (i := 151) (rfl)) rfl, in_t1 (List.mem_of_getElem? (i := 11) (by decide +kernel)) rfl, ⟨by decide, by decide⟩, by decide +kernel, by decide⟩
theorem min_X10_zone : Cond.instanceMethod yX10_zone ∈ lw_good := in_t6 (List.mem_of_getElem? (i := 149) (by decide +kernel)) rfl
theorem mse_X10_zone : Cond.selects RX10 yX10_zone yX10_zone ∈ lw_good := in_t6 (List.mem_of_getElem? (i := 150) (by decide +kernel)) rfl
abbrev MX10_zoneAt : AM := (yX10_zoneAt, cX10_zoneAt, 5, (some .long))
theorem mt_X10_zoneAt : zMt MX10_zoneAt 2 := ⟨in_t6 (List.mem_of_getElem? (i := 156) (rfl)) rfl, in_t1 (List.mem_of_getElem? (i := 11) (by decide +kernel)) rfl, ⟨by decide, by decide⟩, by decide +kernel, by decide⟩
theorem min_X10_zoneAt : Cond.instanceMethod yX10_zoneAt ∈ lw_good := in_t6 (List.mem_of_getElem? (i := 154) (by decide +kernel)) rfl
theorem mse_X10_zoneAt : Cond.selects RX10 yX10_zoneAt yX10_zoneAt ∈ lw_good := in_t6 (List.mem_of_getElem? (i := 155) (by decide +kernel)) rfl
abbrev MX10_begin : AM := (yX10_begin, cX10_begin, 2, (some .int))
theorem mt_X10_begin : zMt MX10_begin 0 := ⟨in_t6 (List.mem_of_getElem? (i := 161) (rfl)) rfl, in_t1 (List.mem_of_getElem? (i := 11) (by decide +kernel)) rfl, ⟨by decide, by decide⟩, by decide +kernel, by decide⟩
theorem min_X10_begin : Cond.instanceMethod yX10_begin ∈ lw_good := in_t6 (List.mem_of_getElem? (i := 159) (by decide +kernel)) rfl
theorem mse_X10_begin : Cond.selects RX10 yX10_begin yX10_begin ∈ lw_good := in_t6 (List.mem_of_getElem? (i := 160) (by decide +kernel)) rfl
abbrev MX10_commit : AM := (yX10_commit, cX10_commit, 1, (some .int))
theorem mt_X10_commit : zMt MX10_commit 0 := ⟨in_t6 (List.mem_of_getElem? (i := 165) (rfl)) rfl, in_t1 (List.mem_of_getElem? (i := 11) (by decide +kernel)) rfl, ⟨by decide, by decide⟩, by decide +kernel, by decide⟩
theorem min_X10_commit : Cond.instanceMethod yX10_commit ∈ lw_good := in_t6 (List.mem_of_getElem? (i := 163) (by decide +kernel)) rfl
theorem mse_X10_commit : Cond.selects RX10 yX10_commit yX10_commit ∈ lw_good := in_t6 (List.mem_of_getElem? (i := 164) (by decide +kernel)) rfl
abbrev MX10_cancel : AM := (yX10_cancel, cX10_cancel, 2, (some .int))
theorem mt_X10_cancel : zMt MX10_cancel 0 := ⟨in_t6 (List.mem_of_getElem? (i := 169) (rfl)) rfl, in_t1 (List.mem_of_getElem? (i := 11) (by decide +kernel)) rfl, ⟨by decide, by decide⟩, by decide +kernel, by decide⟩
theorem min_X10_cancel : Cond.instanceMethod yX10_cancel ∈ lw_good := in_t6 (List.mem_of_getElem? (i := 167) (by decide +kernel)) rfl
theorem mse_X10_cancel : Cond.selects RX10 yX10_cancel yX10_cancel ∈ lw_good := in_t6 (List.mem_of_getElem? (i := 168) (by decide +kernel)) rfl
abbrev MX10_feed : AM := (yX10_feed, cX10_feed, 8, (some .int))
theorem mt_X10_feed : zMt MX10_feed 5 := ⟨in_t6 (List.mem_of_getElem? (i := 173) (rfl)) rfl, in_t1 (List.mem_of_getElem? (i := 11) (by decide +kernel)) rfl, ⟨by decide, by decide⟩, by decide +kernel, by decide⟩
theorem min_X10_feed : Cond.instanceMethod yX10_feed ∈ lw_good := in_t6 (List.mem_of_getElem? (i := 171) (by decide +kernel)) rfl
theorem mse_X10_feed : Cond.selects RX10 yX10_feed yX10_feed ∈ lw_good := in_t6 (List.mem_of_getElem? (i := 172) (by decide +kernel)) rfl
abbrev MX10_run : AM := (yX10_run, cX10_run, 5, (some .int))
theorem mt_X10_run : zMt MX10_run 1 := ⟨in_t6 (List.mem_of_getElem? (i := 177) (rfl)) rfl, in_t1 (List.mem_of_getElem? (i := 11) (by decide +kernel)) rfl, ⟨by decide, by decide⟩, by decide +kernel, by decide⟩
theorem min_X10_run : Cond.instanceMethod yX10_run ∈ lw_good := in_t6 (List.mem_of_getElem? (i := 175) (by decide +kernel)) rfl
theorem mse_X10_run : Cond.selects RX10 yX10_run yX10_run ∈ lw_good := in_t6 (List.mem_of_getElem? (i := 176) (by decide +kernel)) rfl
abbrev MX10_isOver : AM := (yX10_isOver, cX10_isOver, 1, (some .boolean))
theorem mt_X10_isOver : zMt MX10_isOver 0 := ⟨in_t6 (List.mem_of_getElem? (i := 181) (rfl)) rfl, in_t1 (List.mem_of_getElem? (i := 11) (by decide +kernel)) rfl, ⟨by decide, by decide⟩, by decide +kernel, by decide⟩
theorem min_X10_isOver : Cond.instanceMethod yX10_isOver ∈ lw_good := in_t6 (List.mem_of_getElem? (i := 180) (by decide +kernel)) rfl
theorem mse_X10_isOver : Cond.selects RX10 yX10_isOver yX10_isOver ∈ lw_good := good_at 35 (by decide +kernel) rfl
abbrev MX10_blanks : AM := (yX10_blanks, cX10_blanks, 1, none)
theorem mt_X10_blanks : zMt MX10_blanks 0 := ⟨in_t6 (List.mem_of_getElem? (i := 185) (rfl)) rfl, in_t1 (List.mem_of_getElem? (i := 11) (by decide +kernel)) rfl, ⟨by decide, by decide⟩, by decide +kernel, by decide⟩
theorem min_X10_blanks : Cond.instanceMethod yX10_blanks ∈ lw_good := in_t6 (List.mem_of_getElem? (i := 184) (by decide +kernel)) rfl
theorem mse_X10_blanks : Cond.selects RX10 yX10_blanks yX10_blanks ∈ lw_good := good_at 36 (by decide +kernel) rfl
abbrev MX10_peek : AM := (yX10_peek, cX10_peek, 1, (some .int))
theorem mt_X10_peek : zMt MX10_peek 0 := ⟨in_t6 (List.mem_of_getElem? (i := 189) (rfl)) rfl, in_t1 (List.mem_of_getElem? (i := 11) (by decide +kernel)) rfl, ⟨by decide, by decide⟩, by decide +kernel, by decide⟩
theorem min_X10_peek : Cond.instanceMethod yX10_peek ∈ lw_good := in_t6 (List.mem_of_getElem? (i := 188) (by decide +kernel)) rfl
theorem mse_X10_peek : Cond.selects RX10 yX10_peek yX10_peek ∈ lw_good := good_at 37 (by decide +kernel) rfl
abbrev MX10_readAct : AM := (yX10_readAct, cX10_readAct, 6, none)
theorem mt_X10_readAct : zMt MX10_readAct 0 := ⟨in_t6 (List.mem_of_getElem? (i := 193) (rfl)) rfl, in_t1 (List.mem_of_getElem? (i := 11) (by decide +kernel)) rfl, ⟨by decide, by decide⟩, by decide +kernel, by decide⟩
theorem min_X10_readAct : Cond.instanceMethod yX10_readAct ∈ lw_good := in_t6 (List.mem_of_getElem? (i := 192) (by decide +kernel)) rfl
theorem mse_X10_readAct : Cond.selects RX10 yX10_readAct yX10_readAct ∈ lw_good := good_at 38 (by decide +kernel) rfl
abbrev MX10_wordNext : AM := (yX10_wordNext, cX10_wordNext, 7, (some .int))
theorem mt_X10_wordNext : zMt MX10_wordNext 0 := ⟨in_t6 (List.mem_of_getElem? (i := 197) (rfl)) rfl, in_t1 (List.mem_of_getElem? (i := 11) (by decide +kernel)) rfl, ⟨by decide, by decide⟩, by decide +kernel, by decide⟩
theorem min_X10_wordNext : Cond.instanceMethod yX10_wordNext ∈ lw_good := in_t6 (List.mem_of_getElem? (i := 196) (by decide +kernel)) rfl
theorem mse_X10_wordNext : Cond.selects RX10 yX10_wordNext yX10_wordNext ∈ lw_good := good_at 39 (by decide +kernel) rfl
abbrev MX10_lettersHere : AM := (yX10_lettersHere, cX10_lettersHere, 2, (some .int))
theorem mt_X10_lettersHere : zMt MX10_lettersHere 0 := ⟨in_t6 (List.mem_of_getElem? (i := 201) (rfl)) rfl, in_t1 (List.mem_of_getElem? (i := 11) (by decide +kernel)) rfl, ⟨by decide, by decide⟩, by decide +kernel, by decide⟩
theorem min_X10_lettersHere : Cond.instanceMethod yX10_lettersHere ∈ lw_good := in_t6 (List.mem_of_getElem? (i := 200) (by decide +kernel)) rfl
theorem mse_X10_lettersHere : Cond.selects RX10 yX10_lettersHere yX10_lettersHere ∈ lw_good := good_at 40 (by decide +kernel) rfl
abbrev MX10_fails : AM := (yX10_fails, cX10_fails, 3, none)
theorem mt_X10_fails : zMt MX10_fails 2 := ⟨in_t6 (List.mem_of_getElem? (i := 210) (rfl)) rfl, in_t1 (List.mem_of_getElem? (i := 11) (by decide +kernel)) rfl, ⟨by decide, by decide⟩, by decide +kernel, by decide⟩
theorem min_X10_fails : Cond.instanceMethod yX10_fails ∈ lw_good := in_t6 (List.mem_of_getElem? (i := 209) (by decide +kernel)) rfl
theorem mse_X10_fails : Cond.selects RX10 yX10_fails yX10_fails ∈ lw_good := good_at 41 (by decide +kernel) rfl
abbrev MX10_numeral : AM := (yX10_numeral, cX10_numeral, 8, (some .long))
theorem mt_X10_numeral : zMt MX10_numeral 2 := ⟨in_t6 (List.mem_of_getElem? (i := 214) (rfl)) rfl, in_t1 (List.mem_of_getElem? (i := 11) (by decide +kernel)) rfl, ⟨by decide, by decide⟩, by decide +kernel, by decide⟩
theorem min_X10_numeral : Cond.instanceMethod yX10_numeral ∈ lw_good := in_t6 (List.mem_of_getElem? (i := 213) (by decide +kernel)) rfl
theorem mse_X10_numeral : Cond.selects RX10 yX10_numeral yX10_numeral ∈ lw_good := good_at 42 (by decide +kernel) rfl
abbrev MX10_does : AM := (yX10_does, cX10_does, 8, (some .long))
theorem mt_X10_does : zMt MX10_does 1 := ⟨in_t6 (List.mem_of_getElem? (i := 223) (rfl)) rfl, in_t1 (List.mem_of_getElem? (i := 11) (by decide +kernel)) rfl, ⟨by decide, by decide⟩, by decide +kernel, by decide⟩
theorem min_X10_does : Cond.instanceMethod yX10_does ∈ lw_good := in_t6 (List.mem_of_getElem? (i := 222) (by decide +kernel)) rfl
theorem mse_X10_does : Cond.selects RX10 yX10_does yX10_does ∈ lw_good := good_at 43 (by decide +kernel) rfl
abbrev MX10_fault : AM := (yX10_fault, cX10_fault, 2, (some .int))
theorem mt_X10_fault : zMt MX10_fault 1 := ⟨in_t6 (List.mem_of_getElem? (i := 232) (rfl)) rfl, in_t1 (List.mem_of_getElem? (i := 11) (by decide +kernel)) rfl, ⟨by decide, by decide⟩, by decide +kernel, by decide⟩
theorem min_X10_fault : Cond.instanceMethod yX10_fault ∈ lw_good := in_t6 (List.mem_of_getElem? (i := 230) (by decide +kernel)) rfl
theorem mse_X10_fault : Cond.selects RX10 yX10_fault yX10_fault ∈ lw_good := in_t6 (List.mem_of_getElem? (i := 231) (by decide +kernel)) rfl
abbrev MX10_sum : AM := (yX10_sum, cX10_sum, 6, (some .long))
theorem mt_X10_sum : zMt MX10_sum 5 := ⟨in_t6 (List.mem_of_getElem? (i := 236) (rfl)) rfl, in_t1 (List.mem_of_getElem? (i := 11) (by decide +kernel)) rfl, ⟨by decide, by decide⟩, by decide +kernel, by decide⟩
theorem min_X10_sum : Cond.instanceMethod yX10_sum ∈ lw_good := in_t6 (List.mem_of_getElem? (i := 234) (by decide +kernel)) rfl
theorem mse_X10_sum : Cond.selects RX10 yX10_sum yX10_sum ∈ lw_good := in_t6 (List.mem_of_getElem? (i := 235) (by decide +kernel)) rfl
abbrev MX10_isGoodOrAll : AM := (yX10_isGoodOrAll, cX10_isGoodOrAll, 1, (some .boolean))
theorem mt_X10_isGoodOrAll : zMt MX10_isGoodOrAll 1 := ⟨in_t6 (List.mem_of_getElem? (i := 239) (rfl)) rfl, in_t1 (List.mem_of_getElem? (i := 11) (by decide +kernel)) rfl, ⟨by decide, by decide⟩, by decide +kernel, by decide⟩
theorem mst_X10_isGoodOrAll : Cond.static yX10_isGoodOrAll ∈ lw_good := in_t6 (List.mem_of_getElem? (i := 238) (by decide +kernel)) rfl
abbrev MX10_at : AM := (yX10_at, cX10_at, 4, (some .long))
theorem mt_X10_at : zMt MX10_at 3 := ⟨in_t7 (List.mem_of_getElem? (i := 3) (rfl)) rfl, in_t1 (List.mem_of_getElem? (i := 11) (by decide +kernel)) rfl, ⟨by decide, by decide⟩, by decide +kernel, by decide⟩
theorem min_X10_at : Cond.instanceMethod yX10_at ∈ lw_good := in_t7 (List.mem_of_getElem? (i := 1) (by decide +kernel)) rfl
theorem mse_X10_at : Cond.selects RX10 yX10_at yX10_at ∈ lw_good := in_t7 (List.mem_of_getElem? (i := 2) (by decide +kernel)) rfl
abbrev MX10_isCell : AM := (yX10_isCell, cX10_isCell, 3, (some .boolean))
theorem mt_X10_isCell : zMt MX10_isCell 2 := ⟨in_t7 (List.mem_of_getElem? (i := 7) (rfl)) rfl, in_t1 (List.mem_of_getElem? (i := 11) (by decide +kernel)) rfl, ⟨by decide, by decide⟩, by decide +kernel, by decide⟩
theorem min_X10_isCell : Cond.instanceMethod yX10_isCell ∈ lw_good := in_t7 (List.mem_of_getElem? (i := 6) (by decide +kernel)) rfl
theorem mse_X10_isCell : Cond.selects RX10 yX10_isCell yX10_isCell ∈ lw_good := good_at 44 (by decide +kernel) rfl
abbrev MX10_bound : AM := (yX10_bound, cX10_bound, 13, (some .long))
theorem mt_X10_bound : zMt MX10_bound 6 := ⟨in_t7 (List.mem_of_getElem? (i := 11) (rfl)) rfl, in_t1 (List.mem_of_getElem? (i := 11) (by decide +kernel)) rfl, ⟨by decide, by decide⟩, by decide +kernel, by decide⟩
theorem min_X10_bound : Cond.instanceMethod yX10_bound ∈ lw_good := in_t7 (List.mem_of_getElem? (i := 9) (by decide +kernel)) rfl
theorem mse_X10_bound : Cond.selects RX10 yX10_bound yX10_bound ∈ lw_good := in_t7 (List.mem_of_getElem? (i := 10) (by decide +kernel)) rfl
abbrev MX10_empty : AM := (yX10_empty, cX10_empty, 9, (some .long))
theorem mt_X10_empty : zMt MX10_empty 4 := ⟨in_t7 (List.mem_of_getElem? (i := 15) (rfl)) rfl, in_t1 (List.mem_of_getElem? (i := 11) (by decide +kernel)) rfl, ⟨by decide, by decide⟩, by decide +kernel, by decide⟩
theorem min_X10_empty : Cond.instanceMethod yX10_empty ∈ lw_good := in_t7 (List.mem_of_getElem? (i := 13) (by decide +kernel)) rfl
theorem mse_X10_empty : Cond.selects RX10 yX10_empty yX10_empty ∈ lw_good := in_t7 (List.mem_of_getElem? (i := 14) (by decide +kernel)) rfl
abbrev MX10_share : AM := (yX10_share, cX10_share, 11, (some .long))
theorem mt_X10_share : zMt MX10_share 6 := ⟨in_t7 (List.mem_of_getElem? (i := 19) (rfl)) rfl, in_t1 (List.mem_of_getElem? (i := 11) (by decide +kernel)) rfl, ⟨by decide, by decide⟩, by decide +kernel, by decide⟩
theorem min_X10_share : Cond.instanceMethod yX10_share ∈ lw_good := in_t7 (List.mem_of_getElem? (i := 17) (by decide +kernel)) rfl
theorem mse_X10_share : Cond.selects RX10 yX10_share yX10_share ∈ lw_good := in_t7 (List.mem_of_getElem? (i := 18) (by decide +kernel)) rfl
abbrev MX10_common : AM := (yX10_common, cX10_common, 4, (some .long))
theorem mt_X10_common : zMt MX10_common 2 := ⟨in_t7 (List.mem_of_getElem? (i := 22) (rfl)) rfl, in_t1 (List.mem_of_getElem? (i := 11) (by decide +kernel)) rfl, ⟨by decide, by decide⟩, by decide +kernel, by decide⟩
theorem mst_X10_common : Cond.static yX10_common ∈ lw_good := in_t7 (List.mem_of_getElem? (i := 21) (by decide +kernel)) rfl
abbrev MX10_atLeast : AM := (yX10_atLeast, cX10_atLeast, 8, (some .long))
theorem mt_X10_atLeast : zMt MX10_atLeast 6 := ⟨in_t7 (List.mem_of_getElem? (i := 26) (rfl)) rfl, in_t1 (List.mem_of_getElem? (i := 11) (by decide +kernel)) rfl, ⟨by decide, by decide⟩, by decide +kernel, by decide⟩
theorem min_X10_atLeast : Cond.instanceMethod yX10_atLeast ∈ lw_good := in_t7 (List.mem_of_getElem? (i := 24) (by decide +kernel)) rfl
theorem mse_X10_atLeast : Cond.selects RX10 yX10_atLeast yX10_atLeast ∈ lw_good := in_t7 (List.mem_of_getElem? (i := 25) (by decide +kernel)) rfl
abbrev MX10_cellsFrom : AM := (yX10_cellsFrom, cX10_cellsFrom, 12, (some .long))
theorem mt_X10_cellsFrom : zMt MX10_cellsFrom 6 := ⟨in_t7 (List.mem_of_getElem? (i := 30) (rfl)) rfl, in_t1 (List.mem_of_getElem? (i := 11) (by decide +kernel)) rfl, ⟨by decide, by decide⟩, by decide +kernel, by decide⟩
theorem min_X10_cellsFrom : Cond.instanceMethod yX10_cellsFrom ∈ lw_good := in_t7 (List.mem_of_getElem? (i := 29) (by decide +kernel)) rfl
theorem mse_X10_cellsFrom : Cond.selects RX10 yX10_cellsFrom yX10_cellsFrom ∈ lw_good := good_at 45 (by decide +kernel) rfl
abbrev MX10_value : AM := (yX10_value, cX10_value, 16, (some .long))
theorem mt_X10_value : zMt MX10_value 6 := ⟨in_t7 (List.mem_of_getElem? (i := 34) (rfl)) rfl, in_t1 (List.mem_of_getElem? (i := 11) (by decide +kernel)) rfl, ⟨by decide, by decide⟩, by decide +kernel, by decide⟩
theorem min_X10_value : Cond.instanceMethod yX10_value ∈ lw_good := in_t7 (List.mem_of_getElem? (i := 32) (by decide +kernel)) rfl
theorem mse_X10_value : Cond.selects RX10 yX10_value yX10_value ∈ lw_good := in_t7 (List.mem_of_getElem? (i := 33) (by decide +kernel)) rfl
abbrev MX10_hole : AM := (yX10_hole, cX10_hole, 6, (some .long))
theorem mt_X10_hole : zMt MX10_hole 1 := ⟨in_t7 (List.mem_of_getElem? (i := 39) (rfl)) rfl, in_t1 (List.mem_of_getElem? (i := 11) (by decide +kernel)) rfl, ⟨by decide, by decide⟩, by decide +kernel, by decide⟩
theorem min_X10_hole : Cond.instanceMethod yX10_hole ∈ lw_good := in_t7 (List.mem_of_getElem? (i := 37) (by decide +kernel)) rfl
theorem mse_X10_hole : Cond.selects RX10 yX10_hole yX10_hole ∈ lw_good := in_t7 (List.mem_of_getElem? (i := 38) (by decide +kernel)) rfl
abbrev MX10_tries : AM := (yX10_tries, cX10_tries, 8, none)
theorem mt_X10_tries : zMt MX10_tries 4 := ⟨in_t7 (List.mem_of_getElem? (i := 44) (rfl)) rfl, in_t1 (List.mem_of_getElem? (i := 11) (by decide +kernel)) rfl, ⟨by decide, by decide⟩, by decide +kernel, by decide⟩
theorem min_X10_tries : Cond.instanceMethod yX10_tries ∈ lw_good := in_t7 (List.mem_of_getElem? (i := 43) (by decide +kernel)) rfl
theorem mse_X10_tries : Cond.selects RX10 yX10_tries yX10_tries ∈ lw_good := good_at 46 (by decide +kernel) rfl
abbrev MX10_before : AM := (yX10_before, cX10_before, 11, (some .long))
theorem mt_X10_before : zMt MX10_before 6 := ⟨in_t7 (List.mem_of_getElem? (i := 48) (rfl)) rfl, in_t1 (List.mem_of_getElem? (i := 11) (by decide +kernel)) rfl, ⟨by decide, by decide⟩, by decide +kernel, by decide⟩
theorem min_X10_before : Cond.instanceMethod yX10_before ∈ lw_good := in_t7 (List.mem_of_getElem? (i := 46) (by decide +kernel)) rfl
theorem mse_X10_before : Cond.selects RX10 yX10_before yX10_before ∈ lw_good := in_t7 (List.mem_of_getElem? (i := 47) (by decide +kernel)) rfl
abbrev MX10_find : AM := (yX10_find, cX10_find, 6, (some .long))
theorem mt_X10_find : zMt MX10_find 3 := ⟨in_t7 (List.mem_of_getElem? (i := 52) (rfl)) rfl, in_t1 (List.mem_of_getElem? (i := 11) (by decide +kernel)) rfl, ⟨by decide, by decide⟩, by decide +kernel, by decide⟩
theorem min_X10_find : Cond.instanceMethod yX10_find ∈ lw_good := in_t7 (List.mem_of_getElem? (i := 50) (by decide +kernel)) rfl
theorem mse_X10_find : Cond.selects RX10 yX10_find yX10_find ∈ lw_good := in_t7 (List.mem_of_getElem? (i := 51) (by decide +kernel)) rfl
abbrev MX10_findsDown : AM := (yX10_findsDown, cX10_findsDown, 14, (some .boolean))
theorem mt_X10_findsDown : zMt MX10_findsDown 2 := ⟨in_t7 (List.mem_of_getElem? (i := 56) (rfl)) rfl, in_t1 (List.mem_of_getElem? (i := 11) (by decide +kernel)) rfl, ⟨by decide, by decide⟩, by decide +kernel, by decide⟩
theorem min_X10_findsDown : Cond.instanceMethod yX10_findsDown ∈ lw_good := in_t7 (List.mem_of_getElem? (i := 55) (by decide +kernel)) rfl
theorem mse_X10_findsDown : Cond.selects RX10 yX10_findsDown yX10_findsDown ∈ lw_good := good_at 47 (by decide +kernel) rfl
abbrev MX10_downSum : AM := (yX10_downSum, cX10_downSum, 8, (some .long))
theorem mt_X10_downSum : zMt MX10_downSum 4 := ⟨in_t7 (List.mem_of_getElem? (i := 60) (rfl)) rfl, in_t1 (List.mem_of_getElem? (i := 11) (by decide +kernel)) rfl, ⟨by decide, by decide⟩, by decide +kernel, by decide⟩
theorem min_X10_downSum : Cond.instanceMethod yX10_downSum ∈ lw_good := in_t7 (List.mem_of_getElem? (i := 59) (by decide +kernel)) rfl
theorem mse_X10_downSum : Cond.selects RX10 yX10_downSum yX10_downSum ∈ lw_good := good_at 48 (by decide +kernel) rfl
abbrev MX10_acrossOf : AM := (yX10_acrossOf, cX10_acrossOf, 2, (some .int))
theorem mt_X10_acrossOf : zMt MX10_acrossOf 1 := ⟨in_t7 (List.mem_of_getElem? (i := 64) (rfl)) rfl, in_t1 (List.mem_of_getElem? (i := 11) (by decide +kernel)) rfl, ⟨by decide, by decide⟩, by decide +kernel, by decide⟩
theorem min_X10_acrossOf : Cond.instanceMethod yX10_acrossOf ∈ lw_good := in_t7 (List.mem_of_getElem? (i := 63) (by decide +kernel)) rfl
theorem mse_X10_acrossOf : Cond.selects RX10 yX10_acrossOf yX10_acrossOf ∈ lw_good := good_at 49 (by decide +kernel) rfl
abbrev MX10_downOf : AM := (yX10_downOf, cX10_downOf, 2, (some .int))
theorem mt_X10_downOf : zMt MX10_downOf 1 := ⟨in_t7 (List.mem_of_getElem? (i := 68) (rfl)) rfl, in_t1 (List.mem_of_getElem? (i := 11) (by decide +kernel)) rfl, ⟨by decide, by decide⟩, by decide +kernel, by decide⟩
theorem min_X10_downOf : Cond.instanceMethod yX10_downOf ∈ lw_good := in_t7 (List.mem_of_getElem? (i := 67) (by decide +kernel)) rfl
theorem mse_X10_downOf : Cond.selects RX10 yX10_downOf yX10_downOf ∈ lw_good := good_at 50 (by decide +kernel) rfl
abbrev MX10_findIn : AM := (yX10_findIn, cX10_findIn, 8, (some .long))
theorem mt_X10_findIn : zMt MX10_findIn 6 := ⟨in_t7 (List.mem_of_getElem? (i := 72) (rfl)) rfl, in_t1 (List.mem_of_getElem? (i := 11) (by decide +kernel)) rfl, ⟨by decide, by decide⟩, by decide +kernel, by decide⟩
theorem min_X10_findIn : Cond.instanceMethod yX10_findIn ∈ lw_good := in_t7 (List.mem_of_getElem? (i := 70) (by decide +kernel)) rfl
theorem mse_X10_findIn : Cond.selects RX10 yX10_findIn yX10_findIn ∈ lw_good := in_t7 (List.mem_of_getElem? (i := 71) (by decide +kernel)) rfl
abbrev MX10_touched : AM := (yX10_touched, cX10_touched, 10, (some .long))
theorem mt_X10_touched : zMt MX10_touched 6 := ⟨in_t7 (List.mem_of_getElem? (i := 76) (rfl)) rfl, in_t1 (List.mem_of_getElem? (i := 11) (by decide +kernel)) rfl, ⟨by decide, by decide⟩, by decide +kernel, by decide⟩
theorem min_X10_touched : Cond.instanceMethod yX10_touched ∈ lw_good := in_t7 (List.mem_of_getElem? (i := 74) (by decide +kernel)) rfl
theorem mse_X10_touched : Cond.selects RX10 yX10_touched yX10_touched ∈ lw_good := in_t7 (List.mem_of_getElem? (i := 75) (by decide +kernel)) rfl
abbrev MX10_ahead : AM := (yX10_ahead, cX10_ahead, 5, (some .long))
theorem mt_X10_ahead : zMt MX10_ahead 4 := ⟨in_t7 (List.mem_of_getElem? (i := 80) (rfl)) rfl, in_t1 (List.mem_of_getElem? (i := 11) (by decide +kernel)) rfl, ⟨by decide, by decide⟩, by decide +kernel, by decide⟩
theorem min_X10_ahead : Cond.instanceMethod yX10_ahead ∈ lw_good := in_t7 (List.mem_of_getElem? (i := 78) (by decide +kernel)) rfl
theorem mse_X10_ahead : Cond.selects RX10 yX10_ahead yX10_ahead ∈ lw_good := in_t7 (List.mem_of_getElem? (i := 79) (by decide +kernel)) rfl
abbrev MX10_depot : AM := (yX10_depot, cX10_depot, 7, (some .long))
theorem mt_X10_depot : zMt MX10_depot 2 := ⟨in_t7 (List.mem_of_getElem? (i := 84) (rfl)) rfl, in_t1 (List.mem_of_getElem? (i := 11) (by decide +kernel)) rfl, ⟨by decide, by decide⟩, by decide +kernel, by decide⟩
theorem min_X10_depot : Cond.instanceMethod yX10_depot ∈ lw_good := in_t7 (List.mem_of_getElem? (i := 82) (by decide +kernel)) rfl
theorem mse_X10_depot : Cond.selects RX10 yX10_depot yX10_depot ∈ lw_good := in_t7 (List.mem_of_getElem? (i := 83) (by decide +kernel)) rfl
abbrev MX10_middle : AM := (yX10_middle, cX10_middle, 10, (some .int))
theorem mt_X10_middle : zMt MX10_middle 2 := ⟨in_t7 (List.mem_of_getElem? (i := 88) (rfl)) rfl, in_t1 (List.mem_of_getElem? (i := 11) (by decide +kernel)) rfl, ⟨by decide, by decide⟩, by decide +kernel, by decide⟩
theorem min_X10_middle : Cond.instanceMethod yX10_middle ∈ lw_good := in_t7 (List.mem_of_getElem? (i := 87) (by decide +kernel)) rfl
theorem mse_X10_middle : Cond.selects RX10 yX10_middle yX10_middle ∈ lw_good := good_at 51 (by decide +kernel) rfl
abbrev MX10_lineOf : AM := (yX10_lineOf, cX10_lineOf, 4, (some .long))
theorem mt_X10_lineOf : zMt MX10_lineOf 3 := ⟨in_t7 (List.mem_of_getElem? (i := 92) (rfl)) rfl, in_t1 (List.mem_of_getElem? (i := 11) (by decide +kernel)) rfl, ⟨by decide, by decide⟩, by decide +kernel, by decide⟩
theorem min_X10_lineOf : Cond.instanceMethod yX10_lineOf ∈ lw_good := in_t7 (List.mem_of_getElem? (i := 91) (by decide +kernel)) rfl
theorem mse_X10_lineOf : Cond.selects RX10 yX10_lineOf yX10_lineOf ∈ lw_good := good_at 52 (by decide +kernel) rfl
abbrev MX10_haul : AM := (yX10_haul, cX10_haul, 11, (some .long))
theorem mt_X10_haul : zMt MX10_haul 3 := ⟨in_t7 (List.mem_of_getElem? (i := 96) (rfl)) rfl, in_t1 (List.mem_of_getElem? (i := 11) (by decide +kernel)) rfl, ⟨by decide, by decide⟩, by decide +kernel, by decide⟩
theorem min_X10_haul : Cond.instanceMethod yX10_haul ∈ lw_good := in_t7 (List.mem_of_getElem? (i := 95) (by decide +kernel)) rfl
theorem mse_X10_haul : Cond.selects RX10 yX10_haul yX10_haul ∈ lw_good := good_at 53 (by decide +kernel) rfl
abbrev MX10_farAll : AM := (yX10_farAll, cX10_farAll, 7, (some .long))
theorem mt_X10_farAll : zMt MX10_farAll 3 := ⟨in_t7 (List.mem_of_getElem? (i := 99) (rfl)) rfl, in_t1 (List.mem_of_getElem? (i := 11) (by decide +kernel)) rfl, ⟨by decide, by decide⟩, by decide +kernel, by decide⟩
theorem mst_X10_farAll : Cond.static yX10_farAll ∈ lw_good := in_t7 (List.mem_of_getElem? (i := 98) (by decide +kernel)) rfl
abbrev MX10_window : AM := (yX10_window, cX10_window, 16, (some .long))
theorem mt_X10_window : zMt MX10_window 4 := ⟨in_t7 (List.mem_of_getElem? (i := 103) (rfl)) rfl, in_t1 (List.mem_of_getElem? (i := 11) (by decide +kernel)) rfl, ⟨by decide, by decide⟩, by decide +kernel, by decide⟩
theorem min_X10_window : Cond.instanceMethod yX10_window ∈ lw_good := in_t7 (List.mem_of_getElem? (i := 101) (by decide +kernel)) rfl
theorem mse_X10_window : Cond.selects RX10 yX10_window yX10_window ∈ lw_good := in_t7 (List.mem_of_getElem? (i := 102) (by decide +kernel)) rfl
abbrev MX10_laysPlaces : AM := (yX10_laysPlaces, cX10_laysPlaces, 10, (some .int))
theorem mt_X10_laysPlaces : zMt MX10_laysPlaces 3 := ⟨in_t7 (List.mem_of_getElem? (i := 107) (rfl)) rfl, in_t1 (List.mem_of_getElem? (i := 11) (by decide +kernel)) rfl, ⟨by decide, by decide⟩, by decide +kernel, by decide⟩
theorem min_X10_laysPlaces : Cond.instanceMethod yX10_laysPlaces ∈ lw_good := in_t7 (List.mem_of_getElem? (i := 106) (by decide +kernel)) rfl
theorem mse_X10_laysPlaces : Cond.selects RX10 yX10_laysPlaces yX10_laysPlaces ∈ lw_good := good_at 54 (by decide +kernel) rfl
abbrev MX10_line : AM := (yX10_line, cX10_line, 10, (some .long))
theorem mt_X10_line : zMt MX10_line 3 := ⟨in_t7 (List.mem_of_getElem? (i := 111) (rfl)) rfl, in_t1 (List.mem_of_getElem? (i := 11) (by decide +kernel)) rfl, ⟨by decide, by decide⟩, by decide +kernel, by decide⟩
theorem min_X10_line : Cond.instanceMethod yX10_line ∈ lw_good := in_t7 (List.mem_of_getElem? (i := 109) (by decide +kernel)) rfl
theorem mse_X10_line : Cond.selects RX10 yX10_line yX10_line ∈ lw_good := in_t7 (List.mem_of_getElem? (i := 110) (by decide +kernel)) rfl
abbrev MX10_borders : AM := (yX10_borders, cX10_borders, 3, (some .int))
theorem mt_X10_borders : zMt MX10_borders 2 := ⟨in_t7 (List.mem_of_getElem? (i := 115) (rfl)) rfl, in_t1 (List.mem_of_getElem? (i := 11) (by decide +kernel)) rfl, ⟨by decide, by decide⟩, by decide +kernel, by decide⟩
theorem min_X10_borders : Cond.instanceMethod yX10_borders ∈ lw_good := in_t7 (List.mem_of_getElem? (i := 113) (by decide +kernel)) rfl
theorem mse_X10_borders : Cond.selects RX10 yX10_borders yX10_borders ∈ lw_good := in_t7 (List.mem_of_getElem? (i := 114) (by decide +kernel)) rfl
abbrev MX10_border : AM := (yX10_border, cX10_border, 3, (some .int))
theorem mt_X10_border : zMt MX10_border 2 := ⟨in_t7 (List.mem_of_getElem? (i := 119) (rfl)) rfl, in_t1 (List.mem_of_getElem? (i := 11) (by decide +kernel)) rfl, ⟨by decide, by decide⟩, by decide +kernel, by decide⟩
theorem min_X10_border : Cond.instanceMethod yX10_border ∈ lw_good := in_t7 (List.mem_of_getElem? (i := 117) (by decide +kernel)) rfl
theorem mse_X10_border : Cond.selects RX10 yX10_border yX10_border ∈ lw_good := in_t7 (List.mem_of_getElem? (i := 118) (by decide +kernel)) rfl
abbrev MX10_act : AM := (yX10_act, cX10_act, 3, (some .long))
theorem mt_X10_act : zMt MX10_act 2 := ⟨in_t7 (List.mem_of_getElem? (i := 123) (rfl)) rfl, in_t1 (List.mem_of_getElem? (i := 11) (by decide +kernel)) rfl, ⟨by decide, by decide⟩, by decide +kernel, by decide⟩
theorem min_X10_act : Cond.instanceMethod yX10_act ∈ lw_good := in_t7 (List.mem_of_getElem? (i := 121) (by decide +kernel)) rfl
theorem mse_X10_act : Cond.selects RX10 yX10_act yX10_act ∈ lw_good := in_t7 (List.mem_of_getElem? (i := 122) (by decide +kernel)) rfl
abbrev MX10_count : AM := (yX10_count, cX10_count, 2, (some .long))
theorem mt_X10_count : zMt MX10_count 1 := ⟨in_t7 (List.mem_of_getElem? (i := 128) (rfl)) rfl, in_t1 (List.mem_of_getElem? (i := 11) (by decide +kernel)) rfl, ⟨by decide, by decide⟩, by decide +kernel, by decide⟩
theorem min_X10_count : Cond.instanceMethod yX10_count ∈ lw_good := in_t7 (List.mem_of_getElem? (i := 126) (by decide +kernel)) rfl
theorem mse_X10_count : Cond.selects RX10 yX10_count yX10_count ∈ lw_good := in_t7 (List.mem_of_getElem? (i := 127) (by decide +kernel)) rfl
abbrev Mlaw : AM := (x, code, 4, some .boolean)
theorem ml_X9_3 : Cond.methodLink RX9 3 Lib.objectInit ∈ lw_good := in_t1 (List.mem_of_getElem? (i := 24) (by decide +kernel)) rfl
theorem ml_X9_11 : (RX9, 11, yX7_init) ∈ nestL := by decide +kernel
theorem ml_X9_23 : (RX9, 23, yX6_init) ∈ nestL := by decide +kernel
theorem ml_X9_30 : (RX9, 30, yX5_init) ∈ nestL := by decide +kernel
theorem ml_X9_37 : (RX9, 37, yX3_init) ∈ nestL := by decide +kernel
theorem ml_X9_47 : Cond.methodLink RX9 47 yX2_clear ∈ lw_good := in_t2 (List.mem_of_getElem? (i := 73) (by decide +kernel)) rfl
theorem ml_X9_55 : Cond.methodLink RX9 55 yX6_clear ∈ lw_good := in_t2 (List.mem_of_getElem? (i := 119) (by decide +kernel)) rfl
theorem ml_X9_60 : Cond.methodLink RX9 60 yX3_cells ∈ lw_good := in_t2 (List.mem_of_getElem? (i := 123) (by decide +kernel)) rfl
theorem ml_X9_64 : Cond.methodLink RX9 64 yX9_isGood ∈ lw_good := in_t2 (List.mem_of_getElem? (i := 139) (by decide +kernel)) rfl
theorem ml_X9_68 : Cond.methodLink RX9 68 yX9_ask ∈ lw_good := in_t2 (List.mem_of_getElem? (i := 142) (by decide +kernel)) rfl
theorem ml_X9_76 : Cond.methodLink RX9 76 yX2_addRefusal ∈ lw_good := in_t2 (List.mem_of_getElem? (i := 154) (by decide +kernel)) rfl
theorem ml_X9_80 : Cond.methodLink RX9 80 yX2_plan ∈ lw_good := in_t2 (List.mem_of_getElem? (i := 204) (by decide +kernel)) rfl
theorem ml_X9_84 : Cond.methodLink RX9 84 yX2_plansTooMany ∈ lw_good := in_t2 (List.mem_of_getElem? (i := 228) (by decide +kernel)) rfl
theorem ml_X9_90 : Cond.methodLink RX9 90 yX2_startTrial ∈ lw_good := in_t2 (List.mem_of_getElem? (i := 237) (by decide +kernel)) rfl
theorem ml_X9_94 : Cond.methodLink RX9 94 yX2_raise ∈ lw_good := in_t3 (List.mem_of_getElem? (i := 6) (by decide +kernel)) rfl
theorem ml_X9_98 : Cond.methodLink RX9 98 yX9_keep ∈ lw_good := in_t3 (List.mem_of_getElem? (i := 10) (by decide +kernel)) rfl
theorem ml_X9_101 : Cond.methodLink RX9 101 yX2_sumOf ∈ lw_good := in_t3 (List.mem_of_getElem? (i := 48) (by decide +kernel)) rfl
theorem ml_X9_107 : Cond.methodLink RX9 107 yX7_locate ∈ lw_good := in_t3 (List.mem_of_getElem? (i := 54) (by decide +kernel)) rfl
theorem ml_X9_124 : Cond.methodLink RX9 124 yX0_planSpan ∈ lw_good := in_t3 (List.mem_of_getElem? (i := 86) (by decide +kernel)) rfl
theorem ml_X9_133 : Cond.methodLink RX9 133 yX2_fill ∈ lw_good := in_t3 (List.mem_of_getElem? (i := 87) (by decide +kernel)) rfl
theorem ml_X9_141 : Cond.methodLink RX9 141 yX2_number ∈ lw_good := in_t3 (List.mem_of_getElem? (i := 91) (by decide +kernel)) rfl
theorem ml_X9_145 : Cond.methodLink RX9 145 yX9_isShift ∈ lw_good := in_t3 (List.mem_of_getElem? (i := 100) (by decide +kernel)) rfl
theorem ml_X9_148 : Cond.methodLink RX9 148 yX3_set ∈ lw_good := in_t2 (List.mem_of_getElem? (i := 146) (by decide +kernel)) rfl
theorem ml_X9_152 : Cond.methodLink RX9 152 yX2_holds ∈ lw_good := in_t2 (List.mem_of_getElem? (i := 147) (by decide +kernel)) rfl
theorem ml_X9_156 : Cond.methodLink RX9 156 yX2_planMore ∈ lw_good := in_t3 (List.mem_of_getElem? (i := 103) (by decide +kernel)) rfl
theorem ml_X9_159 : Cond.methodLink RX9 159 yX0_planShifted ∈ lw_good := in_t3 (List.mem_of_getElem? (i := 104) (by decide +kernel)) rfl
theorem ml_X9_163 : Cond.methodLink RX9 163 yX0_traceSources ∈ lw_good := in_t3 (List.mem_of_getElem? (i := 108) (by decide +kernel)) rfl
theorem ml_X9_166 : Cond.methodLink RX9 166 yX2_bring ∈ lw_good := in_t3 (List.mem_of_getElem? (i := 112) (by decide +kernel)) rfl
theorem ml_X9_170 : Cond.methodLink RX9 170 yX2_trialRefusal ∈ lw_good := in_t3 (List.mem_of_getElem? (i := 116) (by decide +kernel)) rfl
theorem ml_X9_176 : Cond.methodLink RX9 176 Lib.MathLoose.max_long.x ∈ lw_good := in_t3 (List.mem_of_getElem? (i := 133) (by decide +kernel)) rfl
theorem ml_X9_182 : Cond.methodLink RX9 182 yX3_width ∈ lw_good := in_t3 (List.mem_of_getElem? (i := 134) (by decide +kernel)) rfl
theorem ml_X9_186 : Cond.methodLink RX9 186 Lib.Math.max.name ∈ lw_good := in_t3 (List.mem_of_getElem? (i := 135) (by decide +kernel)) rfl
theorem ml_X9_193 : Cond.methodLink RX9 193 yX1_put ∈ lw_good := in_t3 (List.mem_of_getElem? (i := 136) (by decide +kernel)) rfl
theorem ml_X9_198 : Cond.methodLink RX9 198 yX2_zoneOf ∈ lw_good := in_t3 (List.mem_of_getElem? (i := 141) (by decide +kernel)) rfl
theorem ml_X9_218 : Cond.methodLink RX9 218 yX3_side ∈ lw_good := in_t3 (List.mem_of_getElem? (i := 151) (by decide +kernel)) rfl
theorem ml_X9_224 : Cond.methodLink RX9 224 yX2_save ∈ lw_good := in_t3 (List.mem_of_getElem? (i := 156) (by decide +kernel)) rfl
theorem ml_X9_227 : Cond.methodLink RX9 227 yX2_joinInnermost ∈ lw_good := in_t3 (List.mem_of_getElem? (i := 177) (by decide +kernel)) rfl
theorem ml_X9_230 : Cond.methodLink RX9 230 yX2_restore ∈ lw_good := in_t3 (List.mem_of_getElem? (i := 185) (by decide +kernel)) rfl
theorem ml_X9_233 : Cond.methodLink RX9 233 yX6_dropLatest ∈ lw_good := in_t3 (List.mem_of_getElem? (i := 189) (by decide +kernel)) rfl
theorem ml_X9_236 : Cond.methodLink RX9 236 yX5_hasRoom ∈ lw_good := in_t3 (List.mem_of_getElem? (i := 198) (by decide +kernel)) rfl
theorem ml_X9_239 : Cond.methodLink RX9 239 yX5_put ∈ lw_good := in_t3 (List.mem_of_getElem? (i := 202) (by decide +kernel)) rfl
theorem ml_X9_243 : Cond.methodLink RX9 243 yX5_read ∈ lw_good := in_t3 (List.mem_of_getElem? (i := 210) (by decide +kernel)) rfl
theorem ml_X9_252 : Cond.methodLink RX9 252 yX9_doTold ∈ lw_good := in_t4 (List.mem_of_getElem? (i := 80) (by decide +kernel)) rfl
theorem ml_X9_262 : Cond.methodLink RX9 262 yX9_isGoodOrAll ∈ lw_good := in_t4 (List.mem_of_getElem? (i := 109) (by decide +kernel)) rfl
theorem ml_X9_265 : Cond.methodLink RX9 265 yX2_leastIn ∈ lw_good := in_t4 (List.mem_of_getElem? (i := 120) (by decide +kernel)) rfl
theorem ml_X9_268 : Cond.methodLink RX9 268 yX2_mostIn ∈ lw_good := in_t4 (List.mem_of_getElem? (i := 121) (by decide +kernel)) rfl
theorem ml_X9_271 : Cond.methodLink RX9 271 yX2_cellsFrom ∈ lw_good := in_t4 (List.mem_of_getElem? (i := 126) (by decide +kernel)) rfl
theorem ml_X9_275 : Cond.methodLink RX9 275 yX9_commonDivisor ∈ lw_good := in_t4 (List.mem_of_getElem? (i := 134) (by decide +kernel)) rfl
theorem ml_X9_278 : Cond.methodLink RX9 278 yX2_valueOfRank ∈ lw_good := in_t4 (List.mem_of_getElem? (i := 145) (by decide +kernel)) rfl
theorem ml_X9_281 : Cond.methodLink RX9 281 yX7_findHole ∈ lw_good := in_t4 (List.mem_of_getElem? (i := 155) (by decide +kernel)) rfl
theorem ml_X9_287 : Cond.methodLink RX9 287 yX2_savedAt ∈ lw_good := in_t4 (List.mem_of_getElem? (i := 176) (by decide +kernel)) rfl
theorem ml_X9_291 : Cond.methodLink RX9 291 yX2_sumWhenSaved ∈ lw_good := in_t4 (List.mem_of_getElem? (i := 177) (by decide +kernel)) rfl
theorem ml_X9_295 : Cond.methodLink RX9 295 yX9_isAxis ∈ lw_good := in_t4 (List.mem_of_getElem? (i := 185) (by decide +kernel)) rfl
theorem ml_X9_298 : Cond.methodLink RX9 298 yX9_numberOfUnit ∈ lw_good := in_t4 (List.mem_of_getElem? (i := 188) (by decide +kernel)) rfl
theorem ml_X9_311 : Cond.methodLink RX9 311 yX7_middle ∈ lw_good := in_t4 (List.mem_of_getElem? (i := 208) (by decide +kernel)) rfl
theorem ml_X9_315 : Cond.methodLink RX9 315 yX7_haulAcross ∈ lw_good := in_t4 (List.mem_of_getElem? (i := 221) (by decide +kernel)) rfl
theorem ml_X9_321 : Cond.methodLink RX9 321 yX3_height ∈ lw_good := in_t4 (List.mem_of_getElem? (i := 238) (by decide +kernel)) rfl
theorem ml_X9_324 : Cond.methodLink RX9 324 yX7_findWindow ∈ lw_good := in_t4 (List.mem_of_getElem? (i := 239) (by decide +kernel)) rfl
theorem ml_X9_330 : Cond.methodLink RX9 330 yX7_findLine ∈ lw_good := in_t5 (List.mem_of_getElem? (i := 23) (by decide +kernel)) rfl
theorem ml_X9_333 : Cond.methodLink RX9 333 yX2_axisOf ∈ lw_good := in_t5 (List.mem_of_getElem? (i := 31) (by decide +kernel)) rfl
theorem ml_X9_351 : Cond.methodLink RX9 351 yX6_told ∈ lw_good := in_t5 (List.mem_of_getElem? (i := 43) (by decide +kernel)) rfl
theorem ml_X9_357 : Cond.methodLink RX9 357 yX2_adopt ∈ lw_good := in_t3 (List.mem_of_getElem? (i := 14) (by decide +kernel)) rfl
theorem ml_X9_360 : Cond.methodLink RX9 360 yX6_put ∈ lw_good := in_t3 (List.mem_of_getElem? (i := 36) (by decide +kernel)) rfl
theorem ml_X9_363 : Cond.methodLink RX9 363 yX5_amount ∈ lw_good := in_t4 (List.mem_of_getElem? (i := 84) (by decide +kernel)) rfl
theorem ml_X9_366 : Cond.methodLink RX9 366 yX5_kind ∈ lw_good := in_t4 (List.mem_of_getElem? (i := 88) (by decide +kernel)) rfl
theorem ml_X9_369 : Cond.methodLink RX9 369 yX5_number ∈ lw_good := in_t4 (List.mem_of_getElem? (i := 92) (by decide +kernel)) rfl
theorem ml_X9_371 : Cond.methodLink RX9 371 yX9_add ∈ lw_good := in_t4 (List.mem_of_getElem? (i := 96) (by decide +kernel)) rfl
theorem ml_X9_375 : Cond.methodLink RX9 375 yX9_pick ∈ lw_good := in_t4 (List.mem_of_getElem? (i := 97) (by decide +kernel)) rfl
theorem ml_X9_379 : Cond.methodLink RX9 379 yX9_begin ∈ lw_good := in_t4 (List.mem_of_getElem? (i := 98) (by decide +kernel)) rfl
theorem ml_X9_382 : Cond.methodLink RX9 382 yX9_commit ∈ lw_good := in_t4 (List.mem_of_getElem? (i := 99) (by decide +kernel)) rfl
theorem ml_X9_385 : Cond.methodLink RX9 385 yX9_cancel ∈ lw_good := in_t4 (List.mem_of_getElem? (i := 100) (by decide +kernel)) rfl
theorem ml_X0_3 : Cond.methodLink RX0 3 Lib.objectInit ∈ lw_good := in_t1 (List.mem_of_getElem? (i := 44) (by decide +kernel)) rfl
theorem ml_X0_11 : (RX0, 11, yX1_init) ∈ nestL := by decide +kernel
theorem ml_X0_28 : Cond.methodLink RX0 28 yX1_clear ∈ lw_good := in_t2 (List.mem_of_getElem? (i := 81) (by decide +kernel)) rfl
theorem ml_X0_36 : Cond.methodLink RX0 36 yX1_put ∈ lw_good := in_t2 (List.mem_of_getElem? (i := 223) (by decide +kernel)) rfl
theorem ml_X0_45 : Cond.methodLink RX0 45 yX1_bandOf ∈ lw_good := in_t3 (List.mem_of_getElem? (i := 5) (by decide +kernel)) rfl
theorem ml_X0_49 : Cond.methodLink RX0 49 yX1_copy ∈ lw_good := in_t3 (List.mem_of_getElem? (i := 34) (by decide +kernel)) rfl
theorem ml_X1_3 : Cond.methodLink RX1 3 Lib.objectInit ∈ lw_good := in_t1 (List.mem_of_getElem? (i := 50) (by decide +kernel)) rfl
theorem ml_X1_22 : Cond.methodLink RX1 22 arraycopyName ∈ lw_good := in_t2 (List.mem_of_getElem? (i := 212) (by decide +kernel)) rfl
theorem ml_X1_28 : Cond.methodLink RX1 28 yX1_bandOf ∈ lw_good := in_t2 (List.mem_of_getElem? (i := 227) (by decide +kernel)) rfl
theorem ml_X2_3 : Cond.methodLink RX2 3 Lib.objectInit ∈ lw_good := in_t1 (List.mem_of_getElem? (i := 38) (by decide +kernel)) rfl
theorem ml_X2_11 : (RX2, 11, yX0_init) ∈ nestL := by decide +kernel
theorem ml_X2_23 : (RX2, 23, yX3_init) ∈ nestL := by decide +kernel
theorem ml_X2_47 : (RX2, 47, yX8_init) ∈ nestL := by decide +kernel
theorem ml_X2_48 : Cond.methodLink RX2 48 yX0_clear ∈ lw_good := in_t2 (List.mem_of_getElem? (i := 77) (by decide +kernel)) rfl
theorem ml_X2_52 : Cond.methodLink RX2 52 yX3_set ∈ lw_good := in_t2 (List.mem_of_getElem? (i := 85) (by decide +kernel)) rfl
theorem ml_X2_64 : Cond.methodLink RX2 64 yJ7_fill_d0a16 ∈ lw_good := in_t2 (List.mem_of_getElem? (i := 89) (by decide +kernel)) rfl
theorem ml_X2_86 : Cond.methodLink RX2 86 yX3_width ∈ lw_good := in_t3 (List.mem_of_getElem? (i := 95) (by decide +kernel)) rfl
theorem ml_X2_94 : Cond.methodLink RX2 94 yX2_sumBy ∈ lw_good := in_t2 (List.mem_of_getElem? (i := 194) (by decide +kernel)) rfl
theorem ml_X2_99 : Cond.methodLink RX2 99 yX1_bandOf ∈ lw_good := in_t2 (List.mem_of_getElem? (i := 163) (by decide +kernel)) rfl
theorem ml_X2_105 : Cond.methodLink RX2 105 yX1_overlap ∈ lw_good := in_t2 (List.mem_of_getElem? (i := 198) (by decide +kernel)) rfl
theorem ml_X2_111 : Cond.methodLink RX2 111 yX2_unitsAt ∈ lw_good := in_t2 (List.mem_of_getElem? (i := 167) (by decide +kernel)) rfl
theorem ml_X2_115 : Cond.methodLink RX2 115 Lib.MathLoose.min_long.x ∈ lw_good := in_t2 (List.mem_of_getElem? (i := 171) (by decide +kernel)) rfl
theorem ml_X2_121 : Cond.methodLink RX2 121 Lib.MathLoose.max_long.x ∈ lw_good := in_t2 (List.mem_of_getElem? (i := 178) (by decide +kernel)) rfl
theorem ml_X2_124 : Cond.methodLink RX2 124 yX2_leastIn ∈ lw_good := in_t2 (List.mem_of_getElem? (i := 158) (by decide +kernel)) rfl
theorem ml_X2_128 : Cond.methodLink RX2 128 yX2_mostIn ∈ lw_good := in_t2 (List.mem_of_getElem? (i := 174) (by decide +kernel)) rfl
theorem ml_X2_131 : Cond.methodLink RX2 131 yX3_cells ∈ lw_good := in_t2 (List.mem_of_getElem? (i := 202) (by decide +kernel)) rfl
theorem ml_X2_137 : Cond.methodLink RX2 137 yX2_cellsFrom ∈ lw_good := in_t4 (List.mem_of_getElem? (i := 150) (by decide +kernel)) rfl
theorem ml_X2_141 : (RX2, 141, yX4_init) ∈ nestL := by decide +kernel
theorem ml_X2_142 : Cond.methodLink RX2 142 arraycopyName ∈ lw_good := in_t3 (List.mem_of_getElem? (i := 35) (by decide +kernel)) rfl
theorem ml_X2_151 : Cond.methodLink RX2 151 yX2_savedAt ∈ lw_good := in_t3 (List.mem_of_getElem? (i := 26) (by decide +kernel)) rfl
theorem ml_X2_158 : Cond.methodLink RX2 158 yX1_copy ∈ lw_good := in_t2 (List.mem_of_getElem? (i := 208) (by decide +kernel)) rfl
theorem ml_X2_162 : Cond.methodLink RX2 162 yX2_planMore ∈ lw_good := in_t2 (List.mem_of_getElem? (i := 215) (by decide +kernel)) rfl
theorem ml_X2_166 : Cond.methodLink RX2 166 yX0_planSpan ∈ lw_good := in_t2 (List.mem_of_getElem? (i := 219) (by decide +kernel)) rfl
theorem ml_X2_170 : Cond.methodLink RX2 170 yX0_plansTooMany ∈ lw_good := in_t2 (List.mem_of_getElem? (i := 232) (by decide +kernel)) rfl
theorem ml_X2_177 : Cond.methodLink RX2 177 yX2_commonCells ∈ lw_good := in_t2 (List.mem_of_getElem? (i := 181) (by decide +kernel)) rfl
theorem ml_X2_181 : Cond.methodLink RX2 181 yX2_sumOf ∈ lw_good := in_t2 (List.mem_of_getElem? (i := 190) (by decide +kernel)) rfl
theorem ml_X2_189 : Cond.methodLink RX2 189 Lib.Math.min.name ∈ lw_good := in_t2 (List.mem_of_getElem? (i := 184) (by decide +kernel)) rfl
theorem ml_X2_192 : Cond.methodLink RX2 192 Lib.Math.max.name ∈ lw_good := in_t2 (List.mem_of_getElem? (i := 187) (by decide +kernel)) rfl
theorem ml_X2_194 : Cond.methodLink RX2 194 yX0_traceOrigins ∈ lw_good := in_t3 (List.mem_of_getElem? (i := 1) (by decide +kernel)) rfl
theorem ml_X2_207 : Cond.methodLink RX2 207 yX2_trialOverCap ∈ lw_good := in_t3 (List.mem_of_getElem? (i := 120) (by decide +kernel)) rfl
theorem ml_X2_211 : Cond.methodLink RX2 211 yX2_trialOverLimit ∈ lw_good := in_t3 (List.mem_of_getElem? (i := 124) (by decide +kernel)) rfl
theorem ml_X2_214 : Cond.methodLink RX2 214 yX0_grows ∈ lw_good := in_t3 (List.mem_of_getElem? (i := 18) (by decide +kernel)) rfl
theorem ml_X2_217 : Cond.methodLink RX2 217 yX2_refine ∈ lw_good := in_t3 (List.mem_of_getElem? (i := 22) (by decide +kernel)) rfl
theorem ml_X2_221 : Cond.methodLink RX2 221 yX0_adopt ∈ lw_good := in_t3 (List.mem_of_getElem? (i := 30) (by decide +kernel)) rfl
theorem ml_X3_1 : Cond.methodLink RX3 1 Lib.objectInit ∈ lw_good := in_t1 (List.mem_of_getElem? (i := 99) (by decide +kernel)) rfl
theorem ml_X3_22 : Cond.methodLink RX3 22 yX3_width ∈ lw_good := in_t2 (List.mem_of_getElem? (i := 127) (by decide +kernel)) rfl
theorem ml_X3_26 : Cond.methodLink RX3 26 yX3_height ∈ lw_good := in_t2 (List.mem_of_getElem? (i := 131) (by decide +kernel)) rfl
theorem ml_X4_3 : Cond.methodLink RX4 3 Lib.objectInit ∈ lw_good := in_t3 (List.mem_of_getElem? (i := 164) (by decide +kernel)) rfl
theorem ml_X5_3 : Cond.methodLink RX5 3 Lib.objectInit ∈ lw_good := in_t2 (List.mem_of_getElem? (i := 27) (by decide +kernel)) rfl
theorem ml_X5_36 : Cond.methodLink RX5 36 Lib.Math.min.name ∈ lw_good := in_t3 (List.mem_of_getElem? (i := 214) (by decide +kernel)) rfl
theorem ml_X5_42 : Cond.methodLink RX5 42 Lib.Math.max.name ∈ lw_good := in_t3 (List.mem_of_getElem? (i := 215) (by decide +kernel)) rfl
theorem ml_X5_54 : Cond.methodLink RX5 54 yX5_step ∈ lw_good := in_t3 (List.mem_of_getElem? (i := 216) (by decide +kernel)) rfl
theorem ml_X5_60 : Cond.methodLink RX5 60 yX5_readAct ∈ lw_good := in_t3 (List.mem_of_getElem? (i := 224) (by decide +kernel)) rfl
theorem ml_X5_63 : Cond.methodLink RX5 63 yX5_kindOfWord ∈ lw_good := in_t3 (List.mem_of_getElem? (i := 228) (by decide +kernel)) rfl
theorem ml_X5_67 : Cond.methodLink RX5 67 yX5_blame ∈ lw_good := in_t4 (List.mem_of_getElem? (i := 49) (by decide +kernel)) rfl
theorem ml_X5_71 : Cond.methodLink RX5 71 yX5_readPlace ∈ lw_good := in_t4 (List.mem_of_getElem? (i := 53) (by decide +kernel)) rfl
theorem ml_X5_74 : Cond.methodLink RX5 74 yX5_readAdded ∈ lw_good := in_t4 (List.mem_of_getElem? (i := 70) (by decide +kernel)) rfl
theorem ml_X5_80 : Cond.methodLink RX5 80 yX5_readNumber ∈ lw_good := in_t4 (List.mem_of_getElem? (i := 59) (by decide +kernel)) rfl
theorem ml_X5_84 : Cond.methodLink RX5 84 yX5_isSign ∈ lw_good := in_t4 (List.mem_of_getElem? (i := 74) (by decide +kernel)) rfl
theorem ml_X5_94 : Cond.methodLink RX5 94 yX5_numberOfToken ∈ lw_good := in_t4 (List.mem_of_getElem? (i := 63) (by decide +kernel)) rfl
theorem ml_X5_100 : Cond.methodLink RX5 100 yX5_kindOfByte ∈ lw_good := in_t3 (List.mem_of_getElem? (i := 220) (by decide +kernel)) rfl
theorem ml_X5_106 : Cond.methodLink RX5 106 yX5_isWord ∈ lw_good := in_t3 (List.mem_of_getElem? (i := 233) (by decide +kernel)) rfl
theorem ml_X6_3 : Cond.methodLink RX6 3 Lib.objectInit ∈ lw_good := in_t2 (List.mem_of_getElem? (i := 10) (by decide +kernel)) rfl
theorem ml_X6_22 : Cond.methodLink RX6 22 yX6_rowOf ∈ lw_good := in_t3 (List.mem_of_getElem? (i := 40) (by decide +kernel)) rfl
theorem ml_X6_26 : Cond.methodLink RX6 26 yX3_side ∈ lw_good := in_t3 (List.mem_of_getElem? (i := 44) (by decide +kernel)) rfl
theorem ml_X6_31 : Cond.methodLink RX6 31 Lib.Math.max.name ∈ lw_good := in_t3 (List.mem_of_getElem? (i := 193) (by decide +kernel)) rfl
theorem ml_X7_3 : Cond.methodLink RX7 3 Lib.objectInit ∈ lw_good := in_t1 (List.mem_of_getElem? (i := 32) (by decide +kernel)) rfl
theorem ml_X7_11 : Cond.methodLink RX7 11 yX2_init ∈ lw_good := in_t1 (List.mem_of_getElem? (i := 35) (by decide +kernel)) rfl
theorem ml_X7_20 : (RX7, 20, yX3_init) ∈ nestL := by decide +kernel
theorem ml_X7_64 : Cond.methodLink RX7 64 yX7_inner ∈ lw_good := in_t3 (List.mem_of_getElem? (i := 68) (by decide +kernel)) rfl
theorem ml_X7_75 : Cond.methodLink RX7 75 yX1_bandOf ∈ lw_good := in_t3 (List.mem_of_getElem? (i := 62) (by decide +kernel)) rfl
theorem ml_X7_81 : Cond.methodLink RX7 81 yX7_field ∈ lw_good := in_t3 (List.mem_of_getElem? (i := 72) (by decide +kernel)) rfl
theorem ml_X7_85 : Cond.methodLink RX7 85 yX2_unitsAt ∈ lw_good := in_t3 (List.mem_of_getElem? (i := 75) (by decide +kernel)) rfl
theorem ml_X7_89 : Cond.methodLink RX7 89 yX1_overlap ∈ lw_good := in_t3 (List.mem_of_getElem? (i := 63) (by decide +kernel)) rfl
theorem ml_X7_96 : Cond.methodLink RX7 96 yX7_measure ∈ lw_good := in_t3 (List.mem_of_getElem? (i := 64) (by decide +kernel)) rfl
theorem ml_X7_112 : Cond.methodLink RX7 112 yX7_outer ∈ lw_good := in_t3 (List.mem_of_getElem? (i := 58) (by decide +kernel)) rfl
theorem ml_X7_121 : Cond.methodLink RX7 121 Lib.Math.max.name ∈ lw_good := in_t3 (List.mem_of_getElem? (i := 76) (by decide +kernel)) rfl
theorem ml_X7_127 : Cond.methodLink RX7 127 yX7_setOuter ∈ lw_good := in_t3 (List.mem_of_getElem? (i := 77) (by decide +kernel)) rfl
theorem ml_X7_131 : Cond.methodLink RX7 131 yX7_locateInLine ∈ lw_good := in_t3 (List.mem_of_getElem? (i := 81) (by decide +kernel)) rfl
theorem ml_X7_149 : Cond.methodLink RX7 149 yX7_measureWhole ∈ lw_good := in_t4 (List.mem_of_getElem? (i := 213) (by decide +kernel)) rfl
theorem ml_X7_153 : Cond.methodLink RX7 153 yX1_widthOf ∈ lw_good := in_t4 (List.mem_of_getElem? (i := 217) (by decide +kernel)) rfl
theorem ml_X7_158 : Cond.methodLink RX7 158 yX7_distances ∈ lw_good := in_t4 (List.mem_of_getElem? (i := 226) (by decide +kernel)) rfl
theorem ml_X7_164 : Cond.methodLink RX7 164 yX7_sumUpTo ∈ lw_good := in_t4 (List.mem_of_getElem? (i := 229) (by decide +kernel)) rfl
theorem ml_X7_173 : Cond.methodLink RX7 173 yX7_gatherStarts ∈ lw_good := in_t5 (List.mem_of_getElem? (i := 3) (by decide +kernel)) rfl
theorem ml_X7_177 : Cond.methodLink RX7 177 yX7_sumColumnsAbove ∈ lw_good := in_t5 (List.mem_of_getElem? (i := 6) (by decide +kernel)) rfl
theorem ml_X7_181 : Cond.methodLink RX7 181 yX7_sumColumnsBetween ∈ lw_good := in_t5 (List.mem_of_getElem? (i := 11) (by decide +kernel)) rfl
theorem ml_X7_184 : Cond.methodLink RX7 184 yX7_unitsAhead ∈ lw_good := in_t5 (List.mem_of_getElem? (i := 15) (by decide +kernel)) rfl
theorem ml_X7_188 : Cond.methodLink RX7 188 yX7_takeHolesAbove ∈ lw_good := in_t4 (List.mem_of_getElem? (i := 159) (by decide +kernel)) rfl
theorem ml_X7_191 : Cond.methodLink RX7 191 yX7_takeHole ∈ lw_good := in_t4 (List.mem_of_getElem? (i := 163) (by decide +kernel)) rfl
theorem ml_X7_195 : Cond.methodLink RX7 195 yX7_isAheadOfHole ∈ lw_good := in_t4 (List.mem_of_getElem? (i := 167) (by decide +kernel)) rfl
theorem ml_X7_199 : Cond.methodLink RX7 199 yX3_set ∈ lw_good := in_t4 (List.mem_of_getElem? (i := 171) (by decide +kernel)) rfl
theorem ml_X8_1 : Cond.methodLink RX8 1 Lib.objectInit ∈ lw_good := in_t1 (List.mem_of_getElem? (i := 131) (by decide +kernel)) rfl
theorem ml_X8_9 : (RX8, 9, yX3_init) ∈ nestL := by decide +kernel
theorem ml_L_9 : Cond.methodLink RL 9 yX9_init ∈ lw_good := in_t1 (List.mem_of_getElem? (i := 21) (by decide +kernel)) rfl
theorem ml_L_12 : Cond.methodLink RL 12 yX10_init ∈ lw_good := in_t5 (List.mem_of_getElem? (i := 53) (by decide +kernel)) rfl
theorem ml_L_15 : Cond.methodLink RL 15 yX9_world ∈ lw_good := in_t2 (List.mem_of_getElem? (i := 114) (by decide +kernel)) rfl
theorem ml_L_19 : Cond.methodLink RL 19 yX10_world ∈ lw_good := in_t5 (List.mem_of_getElem? (i := 218) (by decide +kernel)) rfl
theorem ml_L_20 : Cond.methodLink RL 20 yX9_add ∈ lw_good := in_t2 (List.mem_of_getElem? (i := 135) (by decide +kernel)) rfl
theorem ml_L_24 : Cond.methodLink RL 24 yX10_add ∈ lw_good := in_t5 (List.mem_of_getElem? (i := 227) (by decide +kernel)) rfl
theorem ml_L_25 : Cond.methodLink RL 25 yX9_pick ∈ lw_good := in_t3 (List.mem_of_getElem? (i := 49) (by decide +kernel)) rfl
theorem ml_L_29 : Cond.methodLink RL 29 yX10_pick ∈ lw_good := in_t6 (List.mem_of_getElem? (i := 84) (by decide +kernel)) rfl
theorem ml_L_30 : Cond.methodLink RL 30 yX9_move ∈ lw_good := in_t3 (List.mem_of_getElem? (i := 96) (by decide +kernel)) rfl
theorem ml_L_34 : Cond.methodLink RL 34 yX10_move ∈ lw_good := in_t6 (List.mem_of_getElem? (i := 105) (by decide +kernel)) rfl
theorem ml_L_35 : Cond.methodLink RL 35 yX9_level ∈ lw_good := in_t3 (List.mem_of_getElem? (i := 129) (by decide +kernel)) rfl
theorem ml_L_39 : Cond.methodLink RL 39 yX10_level ∈ lw_good := in_t6 (List.mem_of_getElem? (i := 140) (by decide +kernel)) rfl
theorem ml_L_40 : Cond.methodLink RL 40 yX9_zone ∈ lw_good := in_t3 (List.mem_of_getElem? (i := 137) (by decide +kernel)) rfl
theorem ml_L_43 : Cond.methodLink RL 43 yX10_zone ∈ lw_good := in_t6 (List.mem_of_getElem? (i := 148) (by decide +kernel)) rfl
theorem ml_L_44 : Cond.methodLink RL 44 yX9_zoneAt ∈ lw_good := in_t3 (List.mem_of_getElem? (i := 146) (by decide +kernel)) rfl
theorem ml_L_48 : Cond.methodLink RL 48 yX10_zoneAt ∈ lw_good := in_t6 (List.mem_of_getElem? (i := 153) (by decide +kernel)) rfl
theorem ml_L_49 : Cond.methodLink RL 49 yX9_begin ∈ lw_good := in_t3 (List.mem_of_getElem? (i := 152) (by decide +kernel)) rfl
theorem ml_L_53 : Cond.methodLink RL 53 yX10_begin ∈ lw_good := in_t6 (List.mem_of_getElem? (i := 158) (by decide +kernel)) rfl
theorem ml_L_54 : Cond.methodLink RL 54 yX9_commit ∈ lw_good := in_t3 (List.mem_of_getElem? (i := 173) (by decide +kernel)) rfl
theorem ml_L_57 : Cond.methodLink RL 57 yX10_commit ∈ lw_good := in_t6 (List.mem_of_getElem? (i := 162) (by decide +kernel)) rfl
theorem ml_L_58 : Cond.methodLink RL 58 yX9_cancel ∈ lw_good := in_t3 (List.mem_of_getElem? (i := 181) (by decide +kernel)) rfl
theorem ml_L_61 : Cond.methodLink RL 61 yX10_cancel ∈ lw_good := in_t6 (List.mem_of_getElem? (i := 166) (by decide +kernel)) rfl
theorem ml_L_62 : Cond.methodLink RL 62 yX9_feed ∈ lw_good := in_t3 (List.mem_of_getElem? (i := 194) (by decide +kernel)) rfl
theorem ml_L_66 : Cond.methodLink RL 66 yX10_feed ∈ lw_good := in_t6 (List.mem_of_getElem? (i := 170) (by decide +kernel)) rfl
theorem ml_L_67 : Cond.methodLink RL 67 yX9_run ∈ lw_good := in_t3 (List.mem_of_getElem? (i := 206) (by decide +kernel)) rfl
theorem ml_L_71 : Cond.methodLink RL 71 yX10_run ∈ lw_good := in_t6 (List.mem_of_getElem? (i := 174) (by decide +kernel)) rfl
theorem ml_L_72 : Cond.methodLink RL 72 yX9_fault ∈ lw_good := in_t4 (List.mem_of_getElem? (i := 101) (by decide +kernel)) rfl
theorem ml_L_75 : Cond.methodLink RL 75 yX10_fault ∈ lw_good := in_t6 (List.mem_of_getElem? (i := 229) (by decide +kernel)) rfl
theorem ml_L_76 : Cond.methodLink RL 76 yX9_sum ∈ lw_good := in_t4 (List.mem_of_getElem? (i := 105) (by decide +kernel)) rfl
theorem ml_L_79 : Cond.methodLink RL 79 yX10_sum ∈ lw_good := in_t6 (List.mem_of_getElem? (i := 233) (by decide +kernel)) rfl
theorem ml_L_80 : Cond.methodLink RL 80 yX9_at ∈ lw_good := in_t4 (List.mem_of_getElem? (i := 112) (by decide +kernel)) rfl
theorem ml_L_84 : Cond.methodLink RL 84 yX10_at ∈ lw_good := in_t7 (List.mem_of_getElem? (i := 0) (by decide +kernel)) rfl
theorem ml_L_85 : Cond.methodLink RL 85 yX9_bound ∈ lw_good := in_t4 (List.mem_of_getElem? (i := 116) (by decide +kernel)) rfl
theorem ml_L_88 : Cond.methodLink RL 88 yX10_bound ∈ lw_good := in_t7 (List.mem_of_getElem? (i := 8) (by decide +kernel)) rfl
theorem ml_L_89 : Cond.methodLink RL 89 yX9_empty ∈ lw_good := in_t4 (List.mem_of_getElem? (i := 122) (by decide +kernel)) rfl
theorem ml_L_93 : Cond.methodLink RL 93 yX10_empty ∈ lw_good := in_t7 (List.mem_of_getElem? (i := 12) (by decide +kernel)) rfl
theorem ml_L_94 : Cond.methodLink RL 94 yX9_share ∈ lw_good := in_t4 (List.mem_of_getElem? (i := 130) (by decide +kernel)) rfl
theorem ml_L_97 : Cond.methodLink RL 97 yX10_share ∈ lw_good := in_t7 (List.mem_of_getElem? (i := 16) (by decide +kernel)) rfl
theorem ml_L_98 : Cond.methodLink RL 98 yX9_atLeast ∈ lw_good := in_t4 (List.mem_of_getElem? (i := 137) (by decide +kernel)) rfl
theorem ml_L_101 : Cond.methodLink RL 101 yX10_atLeast ∈ lw_good := in_t7 (List.mem_of_getElem? (i := 23) (by decide +kernel)) rfl
theorem ml_L_102 : Cond.methodLink RL 102 yX9_value ∈ lw_good := in_t4 (List.mem_of_getElem? (i := 141) (by decide +kernel)) rfl
theorem ml_L_105 : Cond.methodLink RL 105 yX10_value ∈ lw_good := in_t7 (List.mem_of_getElem? (i := 31) (by decide +kernel)) rfl
theorem ml_L_106 : Cond.methodLink RL 106 yX9_hole ∈ lw_good := in_t4 (List.mem_of_getElem? (i := 151) (by decide +kernel)) rfl
theorem ml_L_110 : Cond.methodLink RL 110 yX10_hole ∈ lw_good := in_t7 (List.mem_of_getElem? (i := 36) (by decide +kernel)) rfl
theorem ml_L_111 : Cond.methodLink RL 111 yX9_before ∈ lw_good := in_t4 (List.mem_of_getElem? (i := 172) (by decide +kernel)) rfl
theorem ml_L_114 : Cond.methodLink RL 114 yX10_before ∈ lw_good := in_t7 (List.mem_of_getElem? (i := 45) (by decide +kernel)) rfl
theorem ml_L_115 : Cond.methodLink RL 115 yX9_find ∈ lw_good := in_t4 (List.mem_of_getElem? (i := 181) (by decide +kernel)) rfl
theorem ml_L_118 : Cond.methodLink RL 118 yX10_find ∈ lw_good := in_t7 (List.mem_of_getElem? (i := 49) (by decide +kernel)) rfl
theorem ml_L_119 : Cond.methodLink RL 119 yX9_findIn ∈ lw_good := in_t4 (List.mem_of_getElem? (i := 192) (by decide +kernel)) rfl
theorem ml_L_122 : Cond.methodLink RL 122 yX10_findIn ∈ lw_good := in_t7 (List.mem_of_getElem? (i := 69) (by decide +kernel)) rfl
theorem ml_L_123 : Cond.methodLink RL 123 yX9_touched ∈ lw_good := in_t4 (List.mem_of_getElem? (i := 196) (by decide +kernel)) rfl
theorem ml_L_126 : Cond.methodLink RL 126 yX10_touched ∈ lw_good := in_t7 (List.mem_of_getElem? (i := 73) (by decide +kernel)) rfl
theorem ml_L_127 : Cond.methodLink RL 127 yX9_ahead ∈ lw_good := in_t4 (List.mem_of_getElem? (i := 200) (by decide +kernel)) rfl
theorem ml_L_130 : Cond.methodLink RL 130 yX10_ahead ∈ lw_good := in_t7 (List.mem_of_getElem? (i := 77) (by decide +kernel)) rfl
theorem ml_L_131 : Cond.methodLink RL 131 yX9_depot ∈ lw_good := in_t4 (List.mem_of_getElem? (i := 204) (by decide +kernel)) rfl
theorem ml_L_134 : Cond.methodLink RL 134 yX10_depot ∈ lw_good := in_t7 (List.mem_of_getElem? (i := 81) (by decide +kernel)) rfl
theorem ml_L_135 : Cond.methodLink RL 135 yX9_window ∈ lw_good := in_t4 (List.mem_of_getElem? (i := 234) (by decide +kernel)) rfl
theorem ml_L_138 : Cond.methodLink RL 138 yX10_window ∈ lw_good := in_t7 (List.mem_of_getElem? (i := 100) (by decide +kernel)) rfl
theorem ml_L_139 : Cond.methodLink RL 139 yX9_line ∈ lw_good := in_t5 (List.mem_of_getElem? (i := 19) (by decide +kernel)) rfl
theorem ml_L_142 : Cond.methodLink RL 142 yX10_line ∈ lw_good := in_t7 (List.mem_of_getElem? (i := 108) (by decide +kernel)) rfl
theorem ml_L_143 : Cond.methodLink RL 143 yX9_borders ∈ lw_good := in_t5 (List.mem_of_getElem? (i := 27) (by decide +kernel)) rfl
theorem ml_L_147 : Cond.methodLink RL 147 yX10_borders ∈ lw_good := in_t7 (List.mem_of_getElem? (i := 112) (by decide +kernel)) rfl
theorem ml_L_148 : Cond.methodLink RL 148 yX9_border ∈ lw_good := in_t5 (List.mem_of_getElem? (i := 35) (by decide +kernel)) rfl
theorem ml_L_151 : Cond.methodLink RL 151 yX10_border ∈ lw_good := in_t7 (List.mem_of_getElem? (i := 116) (by decide +kernel)) rfl
theorem ml_L_152 : Cond.methodLink RL 152 yX9_act ∈ lw_good := in_t5 (List.mem_of_getElem? (i := 39) (by decide +kernel)) rfl
theorem ml_L_155 : Cond.methodLink RL 155 yX10_act ∈ lw_good := in_t7 (List.mem_of_getElem? (i := 120) (by decide +kernel)) rfl
theorem ml_L_156 : Cond.methodLink RL 156 yX9_count ∈ lw_good := in_t5 (List.mem_of_getElem? (i := 47) (by decide +kernel)) rfl
theorem ml_L_159 : Cond.methodLink RL 159 yX10_count ∈ lw_good := in_t7 (List.mem_of_getElem? (i := 125) (by decide +kernel)) rfl
theorem ml_X10_7 : Cond.methodLink RX10 7 Lib.objectInit ∈ lw_good := in_t5 (List.mem_of_getElem? (i := 56) (by decide +kernel)) rfl
theorem ml_X10_105 : Cond.methodLink RX10 105 yX10_begins ∈ lw_good := in_t5 (List.mem_of_getElem? (i := 59) (by decide +kernel)) rfl
theorem ml_X10_116 : Cond.methodLink RX10 116 yX10_isIn ∈ lw_good := in_t5 (List.mem_of_getElem? (i := 223) (by decide +kernel)) rfl
theorem ml_X10_122 : Cond.methodLink RX10 122 yX10_sizeOf ∈ lw_good := in_t6 (List.mem_of_getElem? (i := 14) (by decide +kernel)) rfl
theorem ml_X10_126 : Cond.methodLink RX10 126 yX10_edgeAt ∈ lw_good := in_t6 (List.mem_of_getElem? (i := 10) (by decide +kernel)) rfl
theorem ml_X10_130 : Cond.methodLink RX10 130 yX10_slot ∈ lw_good := in_t6 (List.mem_of_getElem? (i := 22) (by decide +kernel)) rfl
theorem ml_X10_134 : Cond.methodLink RX10 134 yX10_isEdge ∈ lw_good := in_t6 (List.mem_of_getElem? (i := 60) (by decide +kernel)) rfl
theorem ml_X10_138 : Cond.methodLink RX10 138 yX10_parts ∈ lw_good := in_t6 (List.mem_of_getElem? (i := 77) (by decide +kernel)) rfl
theorem ml_X10_145 : Cond.methodLink RX10 145 yX10_wants ∈ lw_good := in_t6 (List.mem_of_getElem? (i := 56) (by decide +kernel)) rfl
theorem ml_X10_149 : Cond.methodLink RX10 149 yX10_wantsAll ∈ lw_good := in_t6 (List.mem_of_getElem? (i := 52) (by decide +kernel)) rfl
theorem ml_X10_153 : Cond.methodLink RX10 153 yX10_isRoom ∈ lw_good := in_t6 (List.mem_of_getElem? (i := 64) (by decide +kernel)) rfl
theorem ml_X10_159 : Cond.methodLink RX10 159 yX10_part ∈ lw_good := in_t6 (List.mem_of_getElem? (i := 6) (by decide +kernel)) rfl
theorem ml_X10_163 : Cond.methodLink RX10 163 yX10_in ∈ lw_good := in_t6 (List.mem_of_getElem? (i := 18) (by decide +kernel)) rfl
theorem ml_X10_167 : Cond.methodLink RX10 167 yX10_isGood ∈ lw_good := in_t5 (List.mem_of_getElem? (i := 231) (by decide +kernel)) rfl
theorem ml_X10_170 : Cond.methodLink RX10 170 yX10_isRectangle ∈ lw_good := in_t5 (List.mem_of_getElem? (i := 235) (by decide +kernel)) rfl
theorem ml_X10_180 : Cond.methodLink RX10 180 yX10_breaksBy ∈ lw_good := in_t6 (List.mem_of_getElem? (i := 2) (by decide +kernel)) rfl
theorem ml_X10_184 : Cond.methodLink RX10 184 yX10_meets ∈ lw_good := in_t6 (List.mem_of_getElem? (i := 25) (by decide +kernel)) rfl
theorem ml_X10_188 : Cond.methodLink RX10 188 yX10_zoned ∈ lw_good := in_t6 (List.mem_of_getElem? (i := 29) (by decide +kernel)) rfl
theorem ml_X10_192 : Cond.methodLink RX10 192 yX10_cells ∈ lw_good := in_t6 (List.mem_of_getElem? (i := 41) (by decide +kernel)) rfl
theorem ml_X10_202 : Cond.methodLink RX10 202 yX10_hasRoom ∈ lw_good := in_t6 (List.mem_of_getElem? (i := 48) (by decide +kernel)) rfl
theorem ml_X10_207 : Cond.methodLink RX10 207 yX10_acts ∈ lw_good := in_t6 (List.mem_of_getElem? (i := 69) (by decide +kernel)) rfl
theorem ml_X10_210 : Cond.methodLink RX10 210 yX10_comes ∈ lw_good := in_t6 (List.mem_of_getElem? (i := 73) (by decide +kernel)) rfl
theorem ml_X10_213 : Cond.methodLink RX10 213 yX10_tells ∈ lw_good := in_t6 (List.mem_of_getElem? (i := 80) (by decide +kernel)) rfl
theorem ml_X10_217 : Cond.methodLink RX10 217 yX10_acrossSum ∈ lw_good := in_t6 (List.mem_of_getElem? (i := 37) (by decide +kernel)) rfl
theorem ml_X10_230 : Cond.methodLink RX10 230 yX10_downSum ∈ lw_good := in_t7 (List.mem_of_getElem? (i := 57) (by decide +kernel)) rfl
theorem ml_X10_233 : Cond.methodLink RX10 233 yX10_acrossOf ∈ lw_good := in_t7 (List.mem_of_getElem? (i := 61) (by decide +kernel)) rfl
theorem ml_X10_236 : Cond.methodLink RX10 236 yX10_downOf ∈ lw_good := in_t7 (List.mem_of_getElem? (i := 65) (by decide +kernel)) rfl
theorem ml_X10_251 : Cond.methodLink RX10 251 yX10_sumOf ∈ lw_good := in_t6 (List.mem_of_getElem? (i := 33) (by decide +kernel)) rfl
theorem ml_X10_255 : Cond.methodLink RX10 255 yX10_finds ∈ lw_good := in_t6 (List.mem_of_getElem? (i := 88) (by decide +kernel)) rfl
theorem ml_X10_261 : Cond.methodLink RX10 261 yX10_empties ∈ lw_good := in_t6 (List.mem_of_getElem? (i := 93) (by decide +kernel)) rfl
theorem ml_X10_265 : Cond.methodLink RX10 265 yX10_blockAt ∈ lw_good := in_t6 (List.mem_of_getElem? (i := 97) (by decide +kernel)) rfl
theorem ml_X10_268 : Cond.methodLink RX10 268 yX10_number ∈ lw_good := in_t6 (List.mem_of_getElem? (i := 101) (by decide +kernel)) rfl
theorem ml_X10_279 : Cond.methodLink RX10 279 yX10_wantsMoved ∈ lw_good := in_t6 (List.mem_of_getElem? (i := 111) (by decide +kernel)) rfl
theorem ml_X10_282 : Cond.methodLink RX10 282 yX10_laysThen ∈ lw_good := in_t6 (List.mem_of_getElem? (i := 115) (by decide +kernel)) rfl
theorem ml_X10_286 : Cond.methodLink RX10 286 yX10_keepsAcross ∈ lw_good := in_t6 (List.mem_of_getElem? (i := 119) (by decide +kernel)) rfl
theorem ml_X10_289 : Cond.methodLink RX10 289 yX10_isInside ∈ lw_good := in_t6 (List.mem_of_getElem? (i := 123) (by decide +kernel)) rfl
theorem ml_X10_293 : Cond.methodLink RX10 293 yX10_cell ∈ lw_good := in_t6 (List.mem_of_getElem? (i := 126) (by decide +kernel)) rfl
theorem ml_X10_298 : Cond.methodLink RX10 298 yX10_comesAcross ∈ lw_good := in_t6 (List.mem_of_getElem? (i := 131) (by decide +kernel)) rfl
theorem ml_X10_301 : Cond.methodLink RX10 301 yX10_comesAll ∈ lw_good := in_t6 (List.mem_of_getElem? (i := 135) (by decide +kernel)) rfl
theorem ml_X10_306 : Cond.methodLink RX10 306 yX10_first0 ∈ lw_good := in_t6 (List.mem_of_getElem? (i := 144) (by decide +kernel)) rfl
theorem ml_X10_325 : Cond.methodLink RX10 325 yX10_peek ∈ lw_good := in_t6 (List.mem_of_getElem? (i := 186) (by decide +kernel)) rfl
theorem ml_X10_329 : Cond.methodLink RX10 329 yX10_blanks ∈ lw_good := in_t6 (List.mem_of_getElem? (i := 182) (by decide +kernel)) rfl
theorem ml_X10_336 : Cond.methodLink RX10 336 yX10_lettersHere ∈ lw_good := in_t6 (List.mem_of_getElem? (i := 198) (by decide +kernel)) rfl
theorem ml_X10_360 : Cond.methodLink RX10 360 yX10_fails ∈ lw_good := in_t6 (List.mem_of_getElem? (i := 207) (by decide +kernel)) rfl
theorem ml_X10_363 : Cond.methodLink RX10 363 yX10_wordNext ∈ lw_good := in_t6 (List.mem_of_getElem? (i := 194) (by decide +kernel)) rfl
theorem ml_X10_369 : Cond.methodLink RX10 369 yX10_numeral ∈ lw_good := in_t6 (List.mem_of_getElem? (i := 211) (by decide +kernel)) rfl
theorem ml_X10_373 : Cond.methodLink RX10 373 yX10_add ∈ lw_good := in_t6 (List.mem_of_getElem? (i := 224) (by decide +kernel)) rfl
theorem ml_X10_377 : Cond.methodLink RX10 377 yX10_pick ∈ lw_good := in_t6 (List.mem_of_getElem? (i := 225) (by decide +kernel)) rfl
theorem ml_X10_381 : Cond.methodLink RX10 381 yX10_begin ∈ lw_good := in_t6 (List.mem_of_getElem? (i := 226) (by decide +kernel)) rfl
theorem ml_X10_384 : Cond.methodLink RX10 384 yX10_commit ∈ lw_good := in_t6 (List.mem_of_getElem? (i := 227) (by decide +kernel)) rfl
theorem ml_X10_387 : Cond.methodLink RX10 387 yX10_cancel ∈ lw_good := in_t6 (List.mem_of_getElem? (i := 228) (by decide +kernel)) rfl
theorem ml_X10_393 : Cond.methodLink RX10 393 yX10_isOver ∈ lw_good := in_t6 (List.mem_of_getElem? (i := 178) (by decide +kernel)) rfl
theorem ml_X10_397 : Cond.methodLink RX10 397 yX10_readAct ∈ lw_good := in_t6 (List.mem_of_getElem? (i := 190) (by decide +kernel)) rfl
theorem ml_X10_400 : Cond.methodLink RX10 400 yX10_does ∈ lw_good := in_t6 (List.mem_of_getElem? (i := 220) (by decide +kernel)) rfl
theorem ml_X10_403 : Cond.methodLink RX10 403 yX10_isGoodOrAll ∈ lw_good := in_t6 (List.mem_of_getElem? (i := 237) (by decide +kernel)) rfl
theorem ml_X10_406 : Cond.methodLink RX10 406 yX10_isCell ∈ lw_good := in_t7 (List.mem_of_getElem? (i := 4) (by decide +kernel)) rfl
theorem ml_X10_409 : Cond.methodLink RX10 409 yX10_common ∈ lw_good := in_t7 (List.mem_of_getElem? (i := 20) (by decide +kernel)) rfl
theorem ml_X10_412 : Cond.methodLink RX10 412 yX10_cellsFrom ∈ lw_good := in_t7 (List.mem_of_getElem? (i := 27) (by decide +kernel)) rfl
theorem ml_X10_434 : Cond.methodLink RX10 434 yX10_tries ∈ lw_good := in_t7 (List.mem_of_getElem? (i := 41) (by decide +kernel)) rfl
theorem ml_X10_437 : Cond.methodLink RX10 437 yX10_findsDown ∈ lw_good := in_t7 (List.mem_of_getElem? (i := 53) (by decide +kernel)) rfl
theorem ml_X10_441 : Cond.methodLink RX10 441 yX10_lineOf ∈ lw_good := in_t7 (List.mem_of_getElem? (i := 89) (by decide +kernel)) rfl
theorem ml_X10_444 : Cond.methodLink RX10 444 yX10_farAll ∈ lw_good := in_t7 (List.mem_of_getElem? (i := 97) (by decide +kernel)) rfl
theorem ml_X10_447 : Cond.methodLink RX10 447 yX10_middle ∈ lw_good := in_t7 (List.mem_of_getElem? (i := 85) (by decide +kernel)) rfl
theorem ml_X10_450 : Cond.methodLink RX10 450 yX10_haul ∈ lw_good := in_t7 (List.mem_of_getElem? (i := 93) (by decide +kernel)) rfl
theorem ml_X10_453 : Cond.methodLink RX10 453 yX10_laysPlaces ∈ lw_good := in_t7 (List.mem_of_getElem? (i := 104) (by decide +kernel)) rfl
theorem cl_X9_9 : Cond.classLink RX9 9 (cnm 7) ∈ lw_good := in_t1 (List.mem_of_getElem? (i := 27) (by decide +kernel)) rfl
theorem cl_X9_21 : Cond.classLink RX9 21 (cnm 6) ∈ lw_good := in_t2 (List.mem_of_getElem? (i := 5) (by decide +kernel)) rfl
theorem cl_X9_28 : Cond.classLink RX9 28 (cnm 5) ∈ lw_good := in_t2 (List.mem_of_getElem? (i := 22) (by decide +kernel)) rfl
theorem cl_X9_35 : Cond.classLink RX9 35 (cnm 3) ∈ lw_good := in_t2 (List.mem_of_getElem? (i := 70) (by decide +kernel)) rfl
theorem cl_X0_9 : Cond.classLink RX0 9 (cnm 1) ∈ lw_good := in_t1 (List.mem_of_getElem? (i := 45) (by decide +kernel)) rfl
theorem cl_X2_9 : Cond.classLink RX2 9 (cnm 0) ∈ lw_good := in_t1 (List.mem_of_getElem? (i := 39) (by decide +kernel)) rfl
theorem cl_X2_21 : Cond.classLink RX2 21 (cnm 3) ∈ lw_good := in_t1 (List.mem_of_getElem? (i := 94) (by decide +kernel)) rfl
theorem cl_X2_35 : Cond.classLink RX2 35 (cnm 8) ∈ lw_good := in_t1 (List.mem_of_getElem? (i := 123) (by decide +kernel)) rfl
theorem cl_X2_41 : Cond.classLink RX2 41 (cnm 4) ∈ lw_good := in_t1 (List.mem_of_getElem? (i := 125) (by decide +kernel)) rfl
theorem cl_X7_9 : Cond.classLink RX7 9 (cnm 2) ∈ lw_good := in_t1 (List.mem_of_getElem? (i := 33) (by decide +kernel)) rfl
theorem cl_X7_18 : Cond.classLink RX7 18 (cnm 3) ∈ lw_good := in_t1 (List.mem_of_getElem? (i := 184) (by decide +kernel)) rfl
theorem cl_X8_7 : Cond.classLink RX8 7 (cnm 3) ∈ lw_good := in_t1 (List.mem_of_getElem? (i := 132) (by decide +kernel)) rfl
theorem cl_L_7 : Cond.classLink RL 7 (cnm 9) ∈ lw_good := in_t1 (List.mem_of_getElem? (i := 19) (by decide +kernel)) rfl
theorem cl_L_10 : Cond.classLink RL 10 (cnm 10) ∈ lw_good := in_t5 (List.mem_of_getElem? (i := 51) (by decide +kernel)) rfl
theorem ci_0 : Cond.instantiable (cnm 0) (cN 0) ∈ lw_good := in_t1 (List.mem_of_getElem? (i := 40) (by decide +kernel)) rfl
theorem cz_0 : Cond.initialized (cnm 0) ∈ lw_good := in_t1 (List.mem_of_getElem? (i := 4) (by decide +kernel)) rfl
theorem ci_1 : Cond.instantiable (cnm 1) (cN 1) ∈ lw_good := in_t1 (List.mem_of_getElem? (i := 46) (by decide +kernel)) rfl
theorem cz_1 : Cond.initialized (cnm 1) ∈ lw_good := in_t1 (List.mem_of_getElem? (i := 5) (by decide +kernel)) rfl
theorem ci_2 : Cond.instantiable (cnm 2) (cN 2) ∈ lw_good := in_t1 (List.mem_of_getElem? (i := 34) (by decide +kernel)) rfl
theorem cz_2 : Cond.initialized (cnm 2) ∈ lw_good := in_t1 (List.mem_of_getElem? (i := 3) (by decide +kernel)) rfl
theorem ci_3 : Cond.instantiable (cnm 3) (cN 3) ∈ lw_good := in_t1 (List.mem_of_getElem? (i := 95) (by decide +kernel)) rfl
theorem cz_3 : Cond.initialized (cnm 3) ∈ lw_good := in_t1 (List.mem_of_getElem? (i := 6) (by decide +kernel)) rfl
theorem ci_4 : Cond.instantiable (cnm 4) (cN 4) ∈ lw_good := in_t3 (List.mem_of_getElem? (i := 160) (by decide +kernel)) rfl
theorem cz_4 : Cond.initialized (cnm 4) ∈ lw_good := in_t1 (List.mem_of_getElem? (i := 14) (by decide +kernel)) rfl
theorem ci_5 : Cond.instantiable (cnm 5) (cN 5) ∈ lw_good := in_t2 (List.mem_of_getElem? (i := 23) (by decide +kernel)) rfl
theorem cz_5 : Cond.initialized (cnm 5) ∈ lw_good := in_t1 (List.mem_of_getElem? (i := 9) (by decide +kernel)) rfl
theorem ci_6 : Cond.instantiable (cnm 6) (cN 6) ∈ lw_good := in_t2 (List.mem_of_getElem? (i := 6) (by decide +kernel)) rfl
theorem cz_6 : Cond.initialized (cnm 6) ∈ lw_good := in_t1 (List.mem_of_getElem? (i := 8) (by decide +kernel)) rfl
theorem ci_7 : Cond.instantiable (cnm 7) (cN 7) ∈ lw_good := in_t1 (List.mem_of_getElem? (i := 28) (by decide +kernel)) rfl
theorem cz_7 : Cond.initialized (cnm 7) ∈ lw_good := in_t1 (List.mem_of_getElem? (i := 2) (by decide +kernel)) rfl
theorem ci_8 : Cond.instantiable (cnm 8) (cN 8) ∈ lw_good := in_t1 (List.mem_of_getElem? (i := 127) (by decide +kernel)) rfl
theorem cz_8 : Cond.initialized (cnm 8) ∈ lw_good := in_t1 (List.mem_of_getElem? (i := 7) (by decide +kernel)) rfl
theorem ci_9 : Cond.instantiable (cnm 9) (cN 9) ∈ lw_good := in_t1 (List.mem_of_getElem? (i := 20) (by decide +kernel)) rfl
theorem cz_9 : Cond.initialized (cnm 9) ∈ lw_good := in_t1 (List.mem_of_getElem? (i := 1) (by decide +kernel)) rfl
theorem ci_10 : Cond.instantiable (cnm 10) (cN 10) ∈ lw_good := in_t5 (List.mem_of_getElem? (i := 52) (by decide +kernel)) rfl
theorem cz_10 : Cond.initialized (cnm 10) ∈ lw_good := in_t1 (List.mem_of_getElem? (i := 11) (by decide +kernel)) rfl
theorem lc_X9_45 : Cond.constantLong RX9 45 (Int64.ofInt (1000000000000)) ∈ lw_good := in_t2 (List.mem_of_getElem? (i := 72) (by decide +kernel)) rfl
theorem lc_X9_53 : Cond.constantLong RX9 53 (Int64.ofInt (-3)) ∈ lw_good := in_t2 (List.mem_of_getElem? (i := 118) (by decide +kernel)) rfl
theorem lc_X9_72 : Cond.constantLong RX9 72 (Int64.ofInt (-2)) ∈ lw_good := in_t2 (List.mem_of_getElem? (i := 151) (by decide +kernel)) rfl
theorem lc_X9_88 : Cond.constantLong RX9 88 (Int64.ofInt (-4)) ∈ lw_good := in_t2 (List.mem_of_getElem? (i := 236) (by decide +kernel)) rfl
theorem lc_X9_105 : Cond.constantLong RX9 105 (Int64.ofInt (3000000000000000000)) ∈ lw_good := in_t3 (List.mem_of_getElem? (i := 53) (by decide +kernel)) rfl
theorem lc_X9_111 : Cond.constantLong RX9 111 (Int64.ofInt (-5)) ∈ lw_good := in_t3 (List.mem_of_getElem? (i := 85) (by decide +kernel)) rfl
theorem lc_X9_174 : Cond.constantLong RX9 174 (Int64.ofInt (100000)) ∈ lw_good := in_t3 (List.mem_of_getElem? (i := 128) (by decide +kernel)) rfl
theorem lc_X9_202 : Cond.constantLong RX9 202 (Int64.ofInt (-9)) ∈ lw_good := in_t3 (List.mem_of_getElem? (i := 145) (by decide +kernel)) rfl
theorem lc_X9_216 : Cond.constantLong RX9 216 (Int64.ofInt (-1)) ∈ lw_good := in_t3 (List.mem_of_getElem? (i := 150) (by decide +kernel)) rfl
theorem lc_X9_319 : Cond.constantLong RX9 319 (Int64.ofInt (-6)) ∈ lw_good := in_t4 (List.mem_of_getElem? (i := 233) (by decide +kernel)) rfl
theorem lc_X2_109 : Cond.constantLong RX2 109 (Int64.ofInt (9000000000000000001)) ∈ lw_good := in_t2 (List.mem_of_getElem? (i := 162) (by decide +kernel)) rfl
theorem lc_X2_135 : Cond.constantLong RX2 135 (Int64.ofInt (2)) ∈ lw_good := in_t4 (List.mem_of_getElem? (i := 149) (by decide +kernel)) rfl
theorem lc_X2_187 : Cond.constantLong RX2 187 (Int64.ofInt (3000000000000000000)) ∈ lw_good := in_t2 (List.mem_of_getElem? (i := 203) (by decide +kernel)) rfl
theorem lc_X5_78 : Cond.constantLong RX5 78 (Int64.ofInt (3000000000000000000)) ∈ lw_good := in_t4 (List.mem_of_getElem? (i := 79) (by decide +kernel)) rfl
theorem lc_X5_88 : Cond.constantLong RX5 88 (Int64.ofInt (2)) ∈ lw_good := in_t4 (List.mem_of_getElem? (i := 57) (by decide +kernel)) rfl
theorem lc_X5_90 : Cond.constantLong RX5 90 (Int64.ofInt (9999)) ∈ lw_good := in_t4 (List.mem_of_getElem? (i := 58) (by decide +kernel)) rfl
theorem lc_X5_92 : Cond.constantLong RX5 92 (Int64.ofInt (1000000000)) ∈ lw_good := in_t4 (List.mem_of_getElem? (i := 78) (by decide +kernel)) rfl
theorem lc_X5_127 : Cond.constantLong RX5 127 (Int64.ofInt (300000000000000000)) ∈ lw_good := in_t4 (List.mem_of_getElem? (i := 67) (by decide +kernel)) rfl
theorem lc_X5_129 : Cond.constantLong RX5 129 (Int64.ofInt (9000000000000000001)) ∈ lw_good := in_t4 (List.mem_of_getElem? (i := 68) (by decide +kernel)) rfl
theorem lc_X5_131 : Cond.constantLong RX5 131 (Int64.ofInt (10)) ∈ lw_good := in_t4 (List.mem_of_getElem? (i := 69) (by decide +kernel)) rfl
theorem lc_X7_147 : Cond.constantLong RX7 147 (Int64.ofInt (2)) ∈ lw_good := in_t4 (List.mem_of_getElem? (i := 212) (by decide +kernel)) rfl
theorem lc_X7_156 : Cond.constantLong RX7 156 (Int64.ofInt (3000000000000000000)) ∈ lw_good := in_t4 (List.mem_of_getElem? (i := 225) (by decide +kernel)) rfl
theorem lc_X7_162 : Cond.constantLong RX7 162 (Int64.ofInt (3000000000000000001)) ∈ lw_good := in_t4 (List.mem_of_getElem? (i := 232) (by decide +kernel)) rfl
theorem lc_X7_168 : Cond.constantLong RX7 168 (Int64.ofInt (-1)) ∈ lw_good := in_t5 (List.mem_of_getElem? (i := 10) (by decide +kernel)) rfl
theorem lc_L_13 : Cond.constantLong RL 13 (Int64.ofInt (4294967295)) ∈ lw_good := in_t7 (List.mem_of_getElem? (i := 129) (by decide +kernel)) rfl
theorem lc_X10_19 : Cond.constantLong RX10 19 (Int64.ofInt (1000000000000)) ∈ lw_good := in_t5 (List.mem_of_getElem? (i := 57) (by decide +kernel)) rfl
theorem lc_X10_114 : Cond.constantLong RX10 114 (Int64.ofInt (10000)) ∈ lw_good := in_t5 (List.mem_of_getElem? (i := 222) (by decide +kernel)) rfl
theorem lc_X10_120 : Cond.constantLong RX10 120 (Int64.ofInt (-3)) ∈ lw_good := in_t5 (List.mem_of_getElem? (i := 226) (by decide +kernel)) rfl
theorem lc_X10_157 : Cond.constantLong RX10 157 (Int64.ofInt (2)) ∈ lw_good := in_t5 (List.mem_of_getElem? (i := 234) (by decide +kernel)) rfl
theorem lc_X10_174 : Cond.constantLong RX10 174 (Int64.ofInt (-2)) ∈ lw_good := in_t5 (List.mem_of_getElem? (i := 239) (by decide +kernel)) rfl
theorem lc_X10_176 : Cond.constantLong RX10 176 (Int64.ofInt (-1000000000)) ∈ lw_good := in_t6 (List.mem_of_getElem? (i := 0) (by decide +kernel)) rfl
theorem lc_X10_178 : Cond.constantLong RX10 178 (Int64.ofInt (1000000000)) ∈ lw_good := in_t6 (List.mem_of_getElem? (i := 1) (by decide +kernel)) rfl
theorem lc_X10_196 : Cond.constantLong RX10 196 (Int64.ofInt (-9)) ∈ lw_good := in_t6 (List.mem_of_getElem? (i := 45) (by decide +kernel)) rfl
theorem lc_X10_198 : Cond.constantLong RX10 198 (Int64.ofInt (3000000000000000000)) ∈ lw_good := in_t6 (List.mem_of_getElem? (i := 46) (by decide +kernel)) rfl
theorem lc_X10_200 : Cond.constantLong RX10 200 (Int64.ofInt (-6)) ∈ lw_good := in_t6 (List.mem_of_getElem? (i := 47) (by decide +kernel)) rfl
theorem lc_X10_205 : Cond.constantLong RX10 205 (Int64.ofInt (-4)) ∈ lw_good := in_t6 (List.mem_of_getElem? (i := 68) (by decide +kernel)) rfl
theorem lc_X10_259 : Cond.constantLong RX10 259 (Int64.ofInt (-5)) ∈ lw_good := in_t6 (List.mem_of_getElem? (i := 92) (by decide +kernel)) rfl
theorem lc_X10_275 : Cond.constantLong RX10 275 (Int64.ofInt (-9999)) ∈ lw_good := in_t6 (List.mem_of_getElem? (i := 109) (by decide +kernel)) rfl
theorem lc_X10_277 : Cond.constantLong RX10 277 (Int64.ofInt (9999)) ∈ lw_good := in_t6 (List.mem_of_getElem? (i := 110) (by decide +kernel)) rfl
theorem lc_X10_296 : Cond.constantLong RX10 296 (Int64.ofInt (-7)) ∈ lw_good := in_t6 (List.mem_of_getElem? (i := 130) (by decide +kernel)) rfl
theorem lc_X10_304 : Cond.constantLong RX10 304 (Int64.ofInt (100000)) ∈ lw_good := in_t6 (List.mem_of_getElem? (i := 139) (by decide +kernel)) rfl
theorem lc_X10_309 : Cond.constantLong RX10 309 (Int64.ofInt (5)) ∈ lw_good := in_t6 (List.mem_of_getElem? (i := 152) (by decide +kernel)) rfl
theorem lc_X10_311 : Cond.constantLong RX10 311 (Int64.ofInt (-1)) ∈ lw_good := in_t6 (List.mem_of_getElem? (i := 157) (by decide +kernel)) rfl
theorem lc_X10_332 : Cond.constantLong RX10 332 (Int64.ofInt (97)) ∈ lw_good := in_t6 (List.mem_of_getElem? (i := 202) (by decide +kernel)) rfl
theorem lc_X10_334 : Cond.constantLong RX10 334 (Int64.ofInt (122)) ∈ lw_good := in_t6 (List.mem_of_getElem? (i := 203) (by decide +kernel)) rfl
theorem lc_X10_350 : Cond.constantLong RX10 350 (Int64.ofInt (48)) ∈ lw_good := in_t6 (List.mem_of_getElem? (i := 215) (by decide +kernel)) rfl
theorem lc_X10_352 : Cond.constantLong RX10 352 (Int64.ofInt (57)) ∈ lw_good := in_t6 (List.mem_of_getElem? (i := 216) (by decide +kernel)) rfl
theorem lc_X10_354 : Cond.constantLong RX10 354 (Int64.ofInt (300000000000000001)) ∈ lw_good := in_t6 (List.mem_of_getElem? (i := 217) (by decide +kernel)) rfl
theorem lc_X10_356 : Cond.constantLong RX10 356 (Int64.ofInt (3000000000000000001)) ∈ lw_good := in_t6 (List.mem_of_getElem? (i := 218) (by decide +kernel)) rfl
theorem lc_X10_358 : Cond.constantLong RX10 358 (Int64.ofInt (10)) ∈ lw_good := in_t6 (List.mem_of_getElem? (i := 219) (by decide +kernel)) rfl
theorem lc_X10_415 : Cond.constantLong RX10 415 (Int64.ofInt (3000000000000)) ∈ lw_good := in_t7 (List.mem_of_getElem? (i := 35) (by decide +kernel)) rfl
theorem lc_X10_432 : Cond.constantLong RX10 432 (Int64.ofInt (4)) ∈ lw_good := in_t7 (List.mem_of_getElem? (i := 40) (by decide +kernel)) rfl
theorem lc_X10_457 : Cond.constantLong RX10 457 (Int64.ofInt (6)) ∈ lw_good := in_t7 (List.mem_of_getElem? (i := 124) (by decide +kernel)) rfl
theorem ic_X9_74 : Cond.constant RX9 74 (Int32.ofInt (-1000000000)) ∈ lw_good := in_t2 (List.mem_of_getElem? (i := 152) (by decide +kernel)) rfl
theorem ic_X9_75 : Cond.constant RX9 75 (Int32.ofInt (1000000000)) ∈ lw_good := in_t2 (List.mem_of_getElem? (i := 153) (by decide +kernel)) rfl
theorem ic_X10_39 : Cond.constant RX10 39 (Int32.ofInt (55296)) ∈ lw_good := in_t5 (List.mem_of_getElem? (i := 58) (by decide +kernel)) rfl
theorem ar_20 : Cond.arrayClass (aty 20) ∈ lw_good := in_t1 (List.mem_of_getElem? (i := 69) (by decide +kernel)) rfl
theorem ar_21 : Cond.arrayClass (aty 21) ∈ lw_good := in_t1 (List.mem_of_getElem? (i := 148) (by decide +kernel)) rfl
theorem ar_22 : Cond.arrayClass (aty 22) ∈ lw_good := in_t2 (List.mem_of_getElem? (i := 69) (by decide +kernel)) rfl
theorem ar_23 : Cond.arrayClass (aty 23) ∈ lw_good := in_t5 (List.mem_of_getElem? (i := 217) (by decide +kernel)) rfl
theorem oi_1 : Cond.instanceMethod Lib.objectInit ∈ lw_good := in_t1 (List.mem_of_getElem? (i := 25) (by decide +kernel)) rfl
theorem oi_2 : Cond.code Lib.objectInit ⟨#[0xb1]⟩ 1 none ∈ lw_good := in_t1 (List.mem_of_getElem? (i := 26) (by decide +kernel)) rfl
theorem mh_max_c : Cond.code Lib.Math.max.name Lib.Math.max.code 2 (some .int) ∈ lw_good := in_t2 (List.mem_of_getElem? (i := 189) (by decide +kernel)) rfl
theorem mh_max_s : Cond.static Lib.Math.max.name ∈ lw_good := in_t2 (List.mem_of_getElem? (i := 188) (by decide +kernel)) rfl
theorem mh_min_c : Cond.code Lib.Math.min.name Lib.Math.min.code 2 (some .int) ∈ lw_good := in_t2 (List.mem_of_getElem? (i := 186) (by decide +kernel)) rfl
theorem mh_min_s : Cond.static Lib.Math.min.name ∈ lw_good := in_t2 (List.mem_of_getElem? (i := 185) (by decide +kernel)) rfl
theorem mh_maxJ_c : Cond.code Lib.MathLoose.max_long.x Lib.MathLoose.max_long.code 4 (some .long) ∈ lw_good := in_t2 (List.mem_of_getElem? (i := 180) (by decide +kernel)) rfl
theorem mh_maxJ_s : Cond.static Lib.MathLoose.max_long.x ∈ lw_good := in_t2 (List.mem_of_getElem? (i := 179) (by decide +kernel)) rfl
theorem mh_minJ_c : Cond.code Lib.MathLoose.min_long.x Lib.MathLoose.min_long.code 4 (some .long) ∈ lw_good := in_t2 (List.mem_of_getElem? (i := 173) (by decide +kernel)) rfl
theorem mh_minJ_s : Cond.static Lib.MathLoose.min_long.x ∈ lw_good := in_t2 (List.mem_of_getElem? (i := 172) (by decide +kernel)) rfl
theorem mh_i : Cond.initialized "java/lang/Math" ∈ lw_good := in_t1 (List.mem_of_getElem? (i := 12) (by decide +kernel)) rfl
theorem ac_n : Cond.native arraycopyName ∈ lw_good := in_t2 (List.mem_of_getElem? (i := 214) (by decide +kernel)) rfl
theorem ac_s : Cond.static arraycopyName ∈ lw_good := in_t2 (List.mem_of_getElem? (i := 213) (by decide +kernel)) rfl
theorem ac_i : Cond.initialized "java/lang/System" ∈ lw_good := in_t1 (List.mem_of_getElem? (i := 13) (by decide +kernel)) rfl
