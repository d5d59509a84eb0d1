-- ===== PART A: goes FIRST, ahead of the names: the tables' words, and 'selects' of the private methods out of them =====
/-- a private method of a class that the tables say can be made, by its rows of tables_1 -/
def lw_okq (q : MethodName × Nat) : Prop := (q.1.cls ≠ "java/lang/invoke/MethodHandle" ∧ q.1.cls ≠ "java/lang/invoke/VarHandle") ∧ Cond.instantiable q.1.cls q.2 ∈ tables_1 ∧ Cond.privateMethod q.1 ∈ tables_1 ∧ Cond.instanceMethod q.1 ∈ tables_1
theorem lw_p0 : lw_okq (⟨"StockGrid", "ask", "(IIII)Z"⟩, 7) := ⟨⟨by decide +kernel, by decide +kernel⟩, List.mem_of_getElem? (i := 20) (by decide +kernel), List.mem_of_getElem? (i := 383) (by decide +kernel), List.mem_of_getElem? (i := 384) (by decide +kernel)⟩
theorem lw_p1 : lw_okq (⟨"StockGrid", "keep", "(IIJ)V"⟩, 7) := ⟨⟨by decide +kernel, by decide +kernel⟩, List.mem_of_getElem? (i := 20) (by decide +kernel), List.mem_of_getElem? (i := 491) (by decide +kernel), List.mem_of_getElem? (i := 492) (by decide +kernel)⟩
theorem lw_p2 : lw_okq (⟨"StockGrid", "doTold", "(I)J"⟩, 7) := ⟨⟨by decide +kernel, by decide +kernel⟩, List.mem_of_getElem? (i := 20) (by decide +kernel), List.mem_of_getElem? (i := 801) (by decide +kernel), List.mem_of_getElem? (i := 802) (by decide +kernel)⟩
theorem lw_p3 : lw_okq (⟨"StockGrid", "numberOfUnit", "(IILStockGrid$Rect;J)J"⟩, 7) := ⟨⟨by decide +kernel, by decide +kernel⟩, List.mem_of_getElem? (i := 20) (by decide +kernel), List.mem_of_getElem? (i := 909) (by decide +kernel), List.mem_of_getElem? (i := 910) (by decide +kernel)⟩
theorem lw_p4 : lw_okq (⟨"StockGridModel", "begins", "()V"⟩, 51) := ⟨⟨by decide +kernel, by decide +kernel⟩, List.mem_of_getElem? (i := 1012) (by decide +kernel), List.mem_of_getElem? (i := 1020) (by decide +kernel), List.mem_of_getElem? (i := 1021) (by decide +kernel)⟩
theorem lw_p5 : lw_okq (⟨"StockGridModel", "isRectangle", "(IIII)Z"⟩, 51) := ⟨⟨by decide +kernel, by decide +kernel⟩, List.mem_of_getElem? (i := 1012) (by decide +kernel), List.mem_of_getElem? (i := 1196) (by decide +kernel), List.mem_of_getElem? (i := 1197) (by decide +kernel)⟩
theorem lw_p6 : lw_okq (⟨"StockGridModel", "breaksBy", "(IIIIII)I"⟩, 51) := ⟨⟨by decide +kernel, by decide +kernel⟩, List.mem_of_getElem? (i := 1012) (by decide +kernel), List.mem_of_getElem? (i := 1203) (by decide +kernel), List.mem_of_getElem? (i := 1204) (by decide +kernel)⟩
theorem lw_p7 : lw_okq (⟨"StockGridModel", "part", "(IIII)I"⟩, 51) := ⟨⟨by decide +kernel, by decide +kernel⟩, List.mem_of_getElem? (i := 1012) (by decide +kernel), List.mem_of_getElem? (i := 1207) (by decide +kernel), List.mem_of_getElem? (i := 1208) (by decide +kernel)⟩
theorem lw_p8 : lw_okq (⟨"StockGridModel", "edgeAt", "(II)I"⟩, 51) := ⟨⟨by decide +kernel, by decide +kernel⟩, List.mem_of_getElem? (i := 1012) (by decide +kernel), List.mem_of_getElem? (i := 1211) (by decide +kernel), List.mem_of_getElem? (i := 1212) (by decide +kernel)⟩
theorem lw_p9 : lw_okq (⟨"StockGridModel", "sizeOf", "(I)I"⟩, 51) := ⟨⟨by decide +kernel, by decide +kernel⟩, List.mem_of_getElem? (i := 1012) (by decide +kernel), List.mem_of_getElem? (i := 1215) (by decide +kernel), List.mem_of_getElem? (i := 1216) (by decide +kernel)⟩
theorem lw_p10 : lw_okq (⟨"StockGridModel", "in", "(III)J"⟩, 51) := ⟨⟨by decide +kernel, by decide +kernel⟩, List.mem_of_getElem? (i := 1012) (by decide +kernel), List.mem_of_getElem? (i := 1219) (by decide +kernel), List.mem_of_getElem? (i := 1220) (by decide +kernel)⟩
theorem lw_p11 : lw_okq (⟨"StockGridModel", "meets", "(IIIII)Z"⟩, 51) := ⟨⟨by decide +kernel, by decide +kernel⟩, List.mem_of_getElem? (i := 1012) (by decide +kernel), List.mem_of_getElem? (i := 1226) (by decide +kernel), List.mem_of_getElem? (i := 1227) (by decide +kernel)⟩
theorem lw_p12 : lw_okq (⟨"StockGridModel", "zoned", "(I)J"⟩, 51) := ⟨⟨by decide +kernel, by decide +kernel⟩, List.mem_of_getElem? (i := 1012) (by decide +kernel), List.mem_of_getElem? (i := 1230) (by decide +kernel), List.mem_of_getElem? (i := 1231) (by decide +kernel)⟩
theorem lw_p13 : lw_okq (⟨"StockGridModel", "sumOf", "(IIIII)J"⟩, 51) := ⟨⟨by decide +kernel, by decide +kernel⟩, List.mem_of_getElem? (i := 1012) (by decide +kernel), List.mem_of_getElem? (i := 1234) (by decide +kernel), List.mem_of_getElem? (i := 1235) (by decide +kernel)⟩
theorem lw_p14 : lw_okq (⟨"StockGridModel", "acrossSum", "(IIII)J"⟩, 51) := ⟨⟨by decide +kernel, by decide +kernel⟩, List.mem_of_getElem? (i := 1012) (by decide +kernel), List.mem_of_getElem? (i := 1238) (by decide +kernel), List.mem_of_getElem? (i := 1239) (by decide +kernel)⟩
theorem lw_p15 : lw_okq (⟨"StockGridModel", "cells", "()J"⟩, 51) := ⟨⟨by decide +kernel, by decide +kernel⟩, List.mem_of_getElem? (i := 1012) (by decide +kernel), List.mem_of_getElem? (i := 1242) (by decide +kernel), List.mem_of_getElem? (i := 1243) (by decide +kernel)⟩
def lw_privs_1 : List (MethodName × Nat) := [(⟨"StockGrid", "ask", "(IIII)Z"⟩, 7), (⟨"StockGrid", "keep", "(IIJ)V"⟩, 7), (⟨"StockGrid", "doTold", "(I)J"⟩, 7), (⟨"StockGrid", "numberOfUnit", "(IILStockGrid$Rect;J)J"⟩, 7), (⟨"StockGridModel", "begins", "()V"⟩, 51), (⟨"StockGridModel", "isRectangle", "(IIII)Z"⟩, 51), (⟨"StockGridModel", "breaksBy", "(IIIIII)I"⟩, 51), (⟨"StockGridModel", "part", "(IIII)I"⟩, 51), (⟨"StockGridModel", "edgeAt", "(II)I"⟩, 51), (⟨"StockGridModel", "sizeOf", "(I)I"⟩, 51), (⟨"StockGridModel", "in", "(III)J"⟩, 51), (⟨"StockGridModel", "meets", "(IIIII)Z"⟩, 51), (⟨"StockGridModel", "zoned", "(I)J"⟩, 51), (⟨"StockGridModel", "sumOf", "(IIIII)J"⟩, 51), (⟨"StockGridModel", "acrossSum", "(IIII)J"⟩, 51), (⟨"StockGridModel", "cells", "()J"⟩, 51)]
theorem lw_r1 : ∀ q ∈ lw_privs_1, lw_okq q := List.forall_mem_cons.mpr ⟨lw_p0, List.forall_mem_cons.mpr ⟨lw_p1, List.forall_mem_cons.mpr ⟨lw_p2, List.forall_mem_cons.mpr ⟨lw_p3, List.forall_mem_cons.mpr ⟨lw_p4, List.forall_mem_cons.mpr ⟨lw_p5, List.forall_mem_cons.mpr ⟨lw_p6, List.forall_mem_cons.mpr ⟨lw_p7, List.forall_mem_cons.mpr ⟨lw_p8, List.forall_mem_cons.mpr ⟨lw_p9, List.forall_mem_cons.mpr ⟨lw_p10, List.forall_mem_cons.mpr ⟨lw_p11, List.forall_mem_cons.mpr ⟨lw_p12, List.forall_mem_cons.mpr ⟨lw_p13, List.forall_mem_cons.mpr ⟨lw_p14, List.forall_mem_cons.mpr ⟨lw_p15, fun _ h => absurd h List.not_mem_nil⟩⟩⟩⟩⟩⟩⟩⟩⟩⟩⟩⟩⟩⟩⟩⟩
theorem lw_p16 : lw_okq (⟨"StockGridModel", "hasRoom", "(IIII)Z"⟩, 51) := ⟨⟨by decide +kernel, by decide +kernel⟩, List.mem_of_getElem? (i := 1012) (by decide +kernel), List.mem_of_getElem? (i := 1249) (by decide +kernel), List.mem_of_getElem? (i := 1250) (by decide +kernel)⟩
theorem lw_p17 : lw_okq (⟨"StockGridModel", "wantsAll", "(IIII)V"⟩, 51) := ⟨⟨by decide +kernel, by decide +kernel⟩, List.mem_of_getElem? (i := 1012) (by decide +kernel), List.mem_of_getElem? (i := 1253) (by decide +kernel), List.mem_of_getElem? (i := 1254) (by decide +kernel)⟩
theorem lw_p18 : lw_okq (⟨"StockGridModel", "wants", "(II)V"⟩, 51) := ⟨⟨by decide +kernel, by decide +kernel⟩, List.mem_of_getElem? (i := 1012) (by decide +kernel), List.mem_of_getElem? (i := 1257) (by decide +kernel), List.mem_of_getElem? (i := 1258) (by decide +kernel)⟩
theorem lw_p19 : lw_okq (⟨"StockGridModel", "isEdge", "(II)Z"⟩, 51) := ⟨⟨by decide +kernel, by decide +kernel⟩, List.mem_of_getElem? (i := 1012) (by decide +kernel), List.mem_of_getElem? (i := 1261) (by decide +kernel), List.mem_of_getElem? (i := 1262) (by decide +kernel)⟩
theorem lw_p20 : lw_okq (⟨"StockGridModel", "isRoom", "(I)Z"⟩, 51) := ⟨⟨by decide +kernel, by decide +kernel⟩, List.mem_of_getElem? (i := 1012) (by decide +kernel), List.mem_of_getElem? (i := 1265) (by decide +kernel), List.mem_of_getElem? (i := 1266) (by decide +kernel)⟩
theorem lw_p21 : lw_okq (⟨"StockGridModel", "acts", "()V"⟩, 51) := ⟨⟨by decide +kernel, by decide +kernel⟩, List.mem_of_getElem? (i := 1012) (by decide +kernel), List.mem_of_getElem? (i := 1270) (by decide +kernel), List.mem_of_getElem? (i := 1271) (by decide +kernel)⟩
theorem lw_p22 : lw_okq (⟨"StockGridModel", "comes", "(II)V"⟩, 51) := ⟨⟨by decide +kernel, by decide +kernel⟩, List.mem_of_getElem? (i := 1012) (by decide +kernel), List.mem_of_getElem? (i := 1274) (by decide +kernel), List.mem_of_getElem? (i := 1275) (by decide +kernel)⟩
theorem lw_p23 : lw_okq (⟨"StockGridModel", "tells", "(IIIIIIJ)V"⟩, 51) := ⟨⟨by decide +kernel, by decide +kernel⟩, List.mem_of_getElem? (i := 1012) (by decide +kernel), List.mem_of_getElem? (i := 1281) (by decide +kernel), List.mem_of_getElem? (i := 1282) (by decide +kernel)⟩
theorem lw_p24 : lw_okq (⟨"StockGridModel", "finds", "(IIIIIJ)Z"⟩, 51) := ⟨⟨by decide +kernel, by decide +kernel⟩, List.mem_of_getElem? (i := 1012) (by decide +kernel), List.mem_of_getElem? (i := 1289) (by decide +kernel), List.mem_of_getElem? (i := 1290) (by decide +kernel)⟩
theorem lw_p25 : lw_okq (⟨"StockGridModel", "empties", "(IIIII)V"⟩, 51) := ⟨⟨by decide +kernel, by decide +kernel⟩, List.mem_of_getElem? (i := 1012) (by decide +kernel), List.mem_of_getElem? (i := 1294) (by decide +kernel), List.mem_of_getElem? (i := 1295) (by decide +kernel)⟩
theorem lw_p26 : lw_okq (⟨"StockGridModel", "blockAt", "(II)I"⟩, 51) := ⟨⟨by decide +kernel, by decide +kernel⟩, List.mem_of_getElem? (i := 1012) (by decide +kernel), List.mem_of_getElem? (i := 1298) (by decide +kernel), List.mem_of_getElem? (i := 1299) (by decide +kernel)⟩
theorem lw_p27 : lw_okq (⟨"StockGridModel", "number", "(II)J"⟩, 51) := ⟨⟨by decide +kernel, by decide +kernel⟩, List.mem_of_getElem? (i := 1012) (by decide +kernel), List.mem_of_getElem? (i := 1302) (by decide +kernel), List.mem_of_getElem? (i := 1303) (by decide +kernel)⟩
theorem lw_p28 : lw_okq (⟨"StockGridModel", "wantsMoved", "(IIII)V"⟩, 51) := ⟨⟨by decide +kernel, by decide +kernel⟩, List.mem_of_getElem? (i := 1012) (by decide +kernel), List.mem_of_getElem? (i := 1312) (by decide +kernel), List.mem_of_getElem? (i := 1313) (by decide +kernel)⟩
theorem lw_p29 : lw_okq (⟨"StockGridModel", "laysThen", "(I)V"⟩, 51) := ⟨⟨by decide +kernel, by decide +kernel⟩, List.mem_of_getElem? (i := 1012) (by decide +kernel), List.mem_of_getElem? (i := 1316) (by decide +kernel), List.mem_of_getElem? (i := 1317) (by decide +kernel)⟩
theorem lw_p30 : lw_okq (⟨"StockGridModel", "keepsAcross", "()V"⟩, 51) := ⟨⟨by decide +kernel, by decide +kernel⟩, List.mem_of_getElem? (i := 1012) (by decide +kernel), List.mem_of_getElem? (i := 1320) (by decide +kernel), List.mem_of_getElem? (i := 1321) (by decide +kernel)⟩
theorem lw_p31 : lw_okq (⟨"StockGridModel", "cell", "(III)J"⟩, 51) := ⟨⟨by decide +kernel, by decide +kernel⟩, List.mem_of_getElem? (i := 1012) (by decide +kernel), List.mem_of_getElem? (i := 1327) (by decide +kernel), List.mem_of_getElem? (i := 1328) (by decide +kernel)⟩
def lw_privs_2 : List (MethodName × Nat) := [(⟨"StockGridModel", "hasRoom", "(IIII)Z"⟩, 51), (⟨"StockGridModel", "wantsAll", "(IIII)V"⟩, 51), (⟨"StockGridModel", "wants", "(II)V"⟩, 51), (⟨"StockGridModel", "isEdge", "(II)Z"⟩, 51), (⟨"StockGridModel", "isRoom", "(I)Z"⟩, 51), (⟨"StockGridModel", "acts", "()V"⟩, 51), (⟨"StockGridModel", "comes", "(II)V"⟩, 51), (⟨"StockGridModel", "tells", "(IIIIIIJ)V"⟩, 51), (⟨"StockGridModel", "finds", "(IIIIIJ)Z"⟩, 51), (⟨"StockGridModel", "empties", "(IIIII)V"⟩, 51), (⟨"StockGridModel", "blockAt", "(II)I"⟩, 51), (⟨"StockGridModel", "number", "(II)J"⟩, 51), (⟨"StockGridModel", "wantsMoved", "(IIII)V"⟩, 51), (⟨"StockGridModel", "laysThen", "(I)V"⟩, 51), (⟨"StockGridModel", "keepsAcross", "()V"⟩, 51), (⟨"StockGridModel", "cell", "(III)J"⟩, 51)]
theorem lw_r2 : ∀ q ∈ lw_privs_2, lw_okq q := List.forall_mem_cons.mpr ⟨lw_p16, List.forall_mem_cons.mpr ⟨lw_p17, List.forall_mem_cons.mpr ⟨lw_p18, List.forall_mem_cons.mpr ⟨lw_p19, List.forall_mem_cons.mpr ⟨lw_p20, List.forall_mem_cons.mpr ⟨lw_p21, List.forall_mem_cons.mpr ⟨lw_p22, List.forall_mem_cons.mpr ⟨lw_p23, List.forall_mem_cons.mpr ⟨lw_p24, List.forall_mem_cons.mpr ⟨lw_p25, List.forall_mem_cons.mpr ⟨lw_p26, List.forall_mem_cons.mpr ⟨lw_p27, List.forall_mem_cons.mpr ⟨lw_p28, List.forall_mem_cons.mpr ⟨lw_p29, List.forall_mem_cons.mpr ⟨lw_p30, List.forall_mem_cons.mpr ⟨lw_p31, fun _ h => absurd h List.not_mem_nil⟩⟩⟩⟩⟩⟩⟩⟩⟩⟩⟩⟩⟩⟩⟩⟩
theorem lw_p32 : lw_okq (⟨"StockGridModel", "comesAcross", "()V"⟩, 51) := ⟨⟨by decide +kernel, by decide +kernel⟩, List.mem_of_getElem? (i := 1012) (by decide +kernel), List.mem_of_getElem? (i := 1332) (by decide +kernel), List.mem_of_getElem? (i := 1333) (by decide +kernel)⟩
theorem lw_p33 : lw_okq (⟨"StockGridModel", "comesAll", "(I)V"⟩, 51) := ⟨⟨by decide +kernel, by decide +kernel⟩, List.mem_of_getElem? (i := 1012) (by decide +kernel), List.mem_of_getElem? (i := 1336) (by decide +kernel), List.mem_of_getElem? (i := 1337) (by decide +kernel)⟩
theorem lw_p34 : lw_okq (⟨"StockGridModel", "first0", "(II)J"⟩, 51) := ⟨⟨by decide +kernel, by decide +kernel⟩, List.mem_of_getElem? (i := 1012) (by decide +kernel), List.mem_of_getElem? (i := 1345) (by decide +kernel), List.mem_of_getElem? (i := 1346) (by decide +kernel)⟩
theorem lw_p35 : lw_okq (⟨"StockGridModel", "isOver", "()Z"⟩, 51) := ⟨⟨by decide +kernel, by decide +kernel⟩, List.mem_of_getElem? (i := 1012) (by decide +kernel), List.mem_of_getElem? (i := 1379) (by decide +kernel), List.mem_of_getElem? (i := 1380) (by decide +kernel)⟩
theorem lw_p36 : lw_okq (⟨"StockGridModel", "blanks", "()V"⟩, 51) := ⟨⟨by decide +kernel, by decide +kernel⟩, List.mem_of_getElem? (i := 1012) (by decide +kernel), List.mem_of_getElem? (i := 1383) (by decide +kernel), List.mem_of_getElem? (i := 1384) (by decide +kernel)⟩
theorem lw_p37 : lw_okq (⟨"StockGridModel", "peek", "()I"⟩, 51) := ⟨⟨by decide +kernel, by decide +kernel⟩, List.mem_of_getElem? (i := 1012) (by decide +kernel), List.mem_of_getElem? (i := 1387) (by decide +kernel), List.mem_of_getElem? (i := 1388) (by decide +kernel)⟩
theorem lw_p38 : lw_okq (⟨"StockGridModel", "readAct", "()V"⟩, 51) := ⟨⟨by decide +kernel, by decide +kernel⟩, List.mem_of_getElem? (i := 1012) (by decide +kernel), List.mem_of_getElem? (i := 1391) (by decide +kernel), List.mem_of_getElem? (i := 1392) (by decide +kernel)⟩
theorem lw_p39 : lw_okq (⟨"StockGridModel", "wordNext", "()I"⟩, 51) := ⟨⟨by decide +kernel, by decide +kernel⟩, List.mem_of_getElem? (i := 1012) (by decide +kernel), List.mem_of_getElem? (i := 1395) (by decide +kernel), List.mem_of_getElem? (i := 1396) (by decide +kernel)⟩
theorem lw_p40 : lw_okq (⟨"StockGridModel", "lettersHere", "()I"⟩, 51) := ⟨⟨by decide +kernel, by decide +kernel⟩, List.mem_of_getElem? (i := 1012) (by decide +kernel), List.mem_of_getElem? (i := 1399) (by decide +kernel), List.mem_of_getElem? (i := 1400) (by decide +kernel)⟩
theorem lw_p41 : lw_okq (⟨"StockGridModel", "fails", "(II)V"⟩, 51) := ⟨⟨by decide +kernel, by decide +kernel⟩, List.mem_of_getElem? (i := 1012) (by decide +kernel), List.mem_of_getElem? (i := 1408) (by decide +kernel), List.mem_of_getElem? (i := 1409) (by decide +kernel)⟩
theorem lw_p42 : lw_okq (⟨"StockGridModel", "numeral", "(JJ)J"⟩, 51) := ⟨⟨by decide +kernel, by decide +kernel⟩, List.mem_of_getElem? (i := 1012) (by decide +kernel), List.mem_of_getElem? (i := 1412) (by decide +kernel), List.mem_of_getElem? (i := 1413) (by decide +kernel)⟩
theorem lw_p43 : lw_okq (⟨"StockGridModel", "does", "(I)J"⟩, 51) := ⟨⟨by decide +kernel, by decide +kernel⟩, List.mem_of_getElem? (i := 1012) (by decide +kernel), List.mem_of_getElem? (i := 1421) (by decide +kernel), List.mem_of_getElem? (i := 1422) (by decide +kernel)⟩
theorem lw_p44 : lw_okq (⟨"StockGridModel", "isCell", "(II)Z"⟩, 51) := ⟨⟨by decide +kernel, by decide +kernel⟩, List.mem_of_getElem? (i := 1012) (by decide +kernel), List.mem_of_getElem? (i := 1445) (by decide +kernel), List.mem_of_getElem? (i := 1446) (by decide +kernel)⟩
theorem lw_p45 : lw_okq (⟨"StockGridModel", "cellsFrom", "(IIIIIJ)J"⟩, 51) := ⟨⟨by decide +kernel, by decide +kernel⟩, List.mem_of_getElem? (i := 1012) (by decide +kernel), List.mem_of_getElem? (i := 1468) (by decide +kernel), List.mem_of_getElem? (i := 1469) (by decide +kernel)⟩
theorem lw_p46 : lw_okq (⟨"StockGridModel", "tries", "(IIII)V"⟩, 51) := ⟨⟨by decide +kernel, by decide +kernel⟩, List.mem_of_getElem? (i := 1012) (by decide +kernel), List.mem_of_getElem? (i := 1482) (by decide +kernel), List.mem_of_getElem? (i := 1483) (by decide +kernel)⟩
theorem lw_p47 : lw_okq (⟨"StockGridModel", "findsDown", "(IJ)Z"⟩, 51) := ⟨⟨by decide +kernel, by decide +kernel⟩, List.mem_of_getElem? (i := 1012) (by decide +kernel), List.mem_of_getElem? (i := 1494) (by decide +kernel), List.mem_of_getElem? (i := 1495) (by decide +kernel)⟩
def lw_privs_3 : List (MethodName × Nat) := [(⟨"StockGridModel", "comesAcross", "()V"⟩, 51), (⟨"StockGridModel", "comesAll", "(I)V"⟩, 51), (⟨"StockGridModel", "first0", "(II)J"⟩, 51), (⟨"StockGridModel", "isOver", "()Z"⟩, 51), (⟨"StockGridModel", "blanks", "()V"⟩, 51), (⟨"StockGridModel", "peek", "()I"⟩, 51), (⟨"StockGridModel", "readAct", "()V"⟩, 51), (⟨"StockGridModel", "wordNext", "()I"⟩, 51), (⟨"StockGridModel", "lettersHere", "()I"⟩, 51), (⟨"StockGridModel", "fails", "(II)V"⟩, 51), (⟨"StockGridModel", "numeral", "(JJ)J"⟩, 51), (⟨"StockGridModel", "does", "(I)J"⟩, 51), (⟨"StockGridModel", "isCell", "(II)Z"⟩, 51), (⟨"StockGridModel", "cellsFrom", "(IIIIIJ)J"⟩, 51), (⟨"StockGridModel", "tries", "(IIII)V"⟩, 51), (⟨"StockGridModel", "findsDown", "(IJ)Z"⟩, 51)]
theorem lw_r3 : ∀ q ∈ lw_privs_3, lw_okq q := List.forall_mem_cons.mpr ⟨lw_p32, List.forall_mem_cons.mpr ⟨lw_p33, List.forall_mem_cons.mpr ⟨lw_p34, List.forall_mem_cons.mpr ⟨lw_p35, List.forall_mem_cons.mpr ⟨lw_p36, List.forall_mem_cons.mpr ⟨lw_p37, List.forall_mem_cons.mpr ⟨lw_p38, List.forall_mem_cons.mpr ⟨lw_p39, List.forall_mem_cons.mpr ⟨lw_p40, List.forall_mem_cons.mpr ⟨lw_p41, List.forall_mem_cons.mpr ⟨lw_p42, List.forall_mem_cons.mpr ⟨lw_p43, List.forall_mem_cons.mpr ⟨lw_p44, List.forall_mem_cons.mpr ⟨lw_p45, List.forall_mem_cons.mpr ⟨lw_p46, List.forall_mem_cons.mpr ⟨lw_p47, fun _ h => absurd h List.not_mem_nil⟩⟩⟩⟩⟩⟩⟩⟩⟩⟩⟩⟩⟩⟩⟩⟩
theorem lw_p48 : lw_okq (⟨"StockGridModel", "downSum", "(IIII)J"⟩, 51) := ⟨⟨by decide +kernel, by decide +kernel⟩, List.mem_of_getElem? (i := 1012) (by decide +kernel), List.mem_of_getElem? (i := 1498) (by decide +kernel), List.mem_of_getElem? (i := 1499) (by decide +kernel)⟩
theorem lw_p49 : lw_okq (⟨"StockGridModel", "acrossOf", "(I)I"⟩, 51) := ⟨⟨by decide +kernel, by decide +kernel⟩, List.mem_of_getElem? (i := 1012) (by decide +kernel), List.mem_of_getElem? (i := 1502) (by decide +kernel), List.mem_of_getElem? (i := 1503) (by decide +kernel)⟩
theorem lw_p50 : lw_okq (⟨"StockGridModel", "downOf", "(I)I"⟩, 51) := ⟨⟨by decide +kernel, by decide +kernel⟩, List.mem_of_getElem? (i := 1012) (by decide +kernel), List.mem_of_getElem? (i := 1506) (by decide +kernel), List.mem_of_getElem? (i := 1507) (by decide +kernel)⟩
theorem lw_p51 : lw_okq (⟨"StockGridModel", "middle", "(II)I"⟩, 51) := ⟨⟨by decide +kernel, by decide +kernel⟩, List.mem_of_getElem? (i := 1012) (by decide +kernel), List.mem_of_getElem? (i := 1526) (by decide +kernel), List.mem_of_getElem? (i := 1527) (by decide +kernel)⟩
theorem lw_p52 : lw_okq (⟨"StockGridModel", "lineOf", "(III)J"⟩, 51) := ⟨⟨by decide +kernel, by decide +kernel⟩, List.mem_of_getElem? (i := 1012) (by decide +kernel), List.mem_of_getElem? (i := 1530) (by decide +kernel), List.mem_of_getElem? (i := 1531) (by decide +kernel)⟩
theorem lw_p53 : lw_okq (⟨"StockGridModel", "haul", "(III)J"⟩, 51) := ⟨⟨by decide +kernel, by decide +kernel⟩, List.mem_of_getElem? (i := 1012) (by decide +kernel), List.mem_of_getElem? (i := 1534) (by decide +kernel), List.mem_of_getElem? (i := 1535) (by decide +kernel)⟩
theorem lw_p54 : lw_okq (⟨"StockGridModel", "laysPlaces", "(II[I)I"⟩, 51) := ⟨⟨by decide +kernel, by decide +kernel⟩, List.mem_of_getElem? (i := 1012) (by decide +kernel), List.mem_of_getElem? (i := 1545) (by decide +kernel), List.mem_of_getElem? (i := 1546) (by decide +kernel)⟩
def lw_privs_4 : List (MethodName × Nat) := [(⟨"StockGridModel", "downSum", "(IIII)J"⟩, 51), (⟨"StockGridModel", "acrossOf", "(I)I"⟩, 51), (⟨"StockGridModel", "downOf", "(I)I"⟩, 51), (⟨"StockGridModel", "middle", "(II)I"⟩, 51), (⟨"StockGridModel", "lineOf", "(III)J"⟩, 51), (⟨"StockGridModel", "haul", "(III)J"⟩, 51), (⟨"StockGridModel", "laysPlaces", "(II[I)I"⟩, 51)]
theorem lw_r4 : ∀ q ∈ lw_privs_4, lw_okq q := List.forall_mem_cons.mpr ⟨lw_p48, List.forall_mem_cons.mpr ⟨lw_p49, List.forall_mem_cons.mpr ⟨lw_p50, List.forall_mem_cons.mpr ⟨lw_p51, List.forall_mem_cons.mpr ⟨lw_p52, List.forall_mem_cons.mpr ⟨lw_p53, List.forall_mem_cons.mpr ⟨lw_p54, fun _ h => absurd h List.not_mem_nil⟩⟩⟩⟩⟩⟩⟩
def lw_privs : List (MethodName × Nat) := lw_privs_1 ++ (lw_privs_2 ++ (lw_privs_3 ++ (lw_privs_4)))
def lw_tbl : List Cond := k2_sels lw_privs ++ tables_1
theorem lw_privs_ok : ∀ q ∈ lw_privs, lw_okq q := by
  show ∀ q ∈ lw_privs_1 ++ (lw_privs_2 ++ (lw_privs_3 ++ (lw_privs_4))), lw_okq q
  exact List.forall_mem_append.mpr ⟨lw_r1, List.forall_mem_append.mpr ⟨lw_r2, List.forall_mem_append.mpr ⟨lw_r3, lw_r4⟩⟩⟩
def RX0 : String := "StockGrid$Axis"
def TX0 : u_T := fun k => match k with
  | 0 => ("StockGrid$Axis", "now", "LStockGrid$Cuts;", true)
  | 1 => ("StockGrid$Axis", "next", "LStockGrid$Cuts;", true)
  | 2 => ("StockGrid$Axis", "origin", "[I", true)
  | 3 => ("StockGrid$Axis", "source", "[I", true)
  | _ => ("StockGrid$Axis", "late", "I", false)
def tyX0 : Nat → FieldType := fun k => match k with
  | 0 => .object "StockGrid$Cuts"
  | 1 => .object "StockGrid$Cuts"
  | 2 => .array .int
  | 3 => .array .int
  | _ => .int
abbrev wsX00 : List Cond := u_ws RX0 TX0 5
theorem nmX0 : ∀ a, a < 5 → ∀ b, b < 5 → a ≠ b → (TX0 a).2.1 ≠ (TX0 b).2.1 := by decide +kernel
theorem tyX0_ok : ∀ k, k < 5 → parseFieldDescriptor (TX0 k).2.2.1 = some (tyX0 k) := by decide +kernel
abbrev cX0_init : ByteArray := prog_2_method_1_code
def yX0_init : MethodName := ⟨RX0, "<init>", "()V"⟩
abbrev cX0_clear : ByteArray := prog_2_method_2_code
def yX0_clear : MethodName := ⟨RX0, "clear", "(I)V"⟩
abbrev cX0_planSpan : ByteArray := prog_2_method_3_code
def yX0_planSpan : MethodName := ⟨RX0, "planSpan", "(II)V"⟩
abbrev cX0_planShifted : ByteArray := prog_2_method_4_code
def yX0_planShifted : MethodName := ⟨RX0, "planShifted", "(III)V"⟩
abbrev cX0_plansTooMany : ByteArray := prog_2_method_5_code
def yX0_plansTooMany : MethodName := ⟨RX0, "plansTooMany", "()Z"⟩
abbrev cX0_grows : ByteArray := prog_2_method_6_code
def yX0_grows : MethodName := ⟨RX0, "grows", "()Z"⟩
abbrev cX0_traceOrigins : ByteArray := prog_2_method_7_code
def yX0_traceOrigins : MethodName := ⟨RX0, "traceOrigins", "()V"⟩
abbrev cX0_traceSources : ByteArray := prog_2_method_8_code
def yX0_traceSources : MethodName := ⟨RX0, "traceSources", "(III)V"⟩
abbrev cX0_adopt : ByteArray := prog_2_method_9_code
def yX0_adopt : MethodName := ⟨RX0, "adopt", "()V"⟩
def RX1 : String := "StockGrid$Cuts"
def TX1 : u_T := fun k => match k with
  | 0 => ("StockGrid$Cuts", "from", "[I", true)
  | 1 => ("StockGrid$Cuts", "size", "I", false)
  | _ => ("StockGrid$Cuts", "length", "I", false)
def tyX1 : Nat → FieldType := fun k => match k with
  | 0 => .array .int
  | 1 => .int
  | _ => .int
abbrev wsX10 : List Cond := u_ws RX1 TX1 3
theorem nmX1 : ∀ a, a < 3 → ∀ b, b < 3 → a ≠ b → (TX1 a).2.1 ≠ (TX1 b).2.1 := by decide +kernel
theorem tyX1_ok : ∀ k, k < 3 → parseFieldDescriptor (TX1 k).2.2.1 = some (tyX1 k) := by decide +kernel
abbrev cX1_init : ByteArray := prog_3_method_1_code
def yX1_init : MethodName := ⟨RX1, "<init>", "()V"⟩
abbrev cX1_clear : ByteArray := prog_3_method_2_code
def yX1_clear : MethodName := ⟨RX1, "clear", "(I)V"⟩
abbrev cX1_copy : ByteArray := prog_3_method_3_code
def yX1_copy : MethodName := ⟨RX1, "copy", "(LStockGrid$Cuts;)V"⟩
abbrev cX1_put : ByteArray := prog_3_method_4_code
def yX1_put : MethodName := ⟨RX1, "put", "(I)V"⟩
abbrev cX1_bandOf : ByteArray := prog_3_method_5_code
def yX1_bandOf : MethodName := ⟨RX1, "bandOf", "(I)I"⟩
abbrev cX1_widthOf : ByteArray := prog_3_method_6_code
def yX1_widthOf : MethodName := ⟨RX1, "widthOf", "(I)I"⟩
abbrev cX1_overlap : ByteArray := prog_3_method_7_code
def yX1_overlap : MethodName := ⟨RX1, "overlap", "(III)I"⟩
def RX2 : String := "StockGrid$Floor"
def TX2 : u_T := fun k => match k with
  | 0 => ("StockGrid$Floor", "across", "LStockGrid$Axis;", true)
  | 1 => ("StockGrid$Floor", "down", "LStockGrid$Axis;", true)
  | 2 => ("StockGrid$Floor", "whole", "LStockGrid$Rect;", true)
  | 3 => ("StockGrid$Floor", "units", "[J", true)
  | 4 => ("StockGrid$Floor", "trial", "[J", true)
  | 5 => ("StockGrid$Floor", "zones", "[LStockGrid$Zone;", true)
  | 6 => ("StockGrid$Floor", "saved", "[LStockGrid$Saved;", true)
  | 7 => ("StockGrid$Floor", "cap", "J", false)
  | _ => ("StockGrid$Floor", "open", "I", false)
def tyX2 : Nat → FieldType := fun k => match k with
  | 0 => .object "StockGrid$Axis"
  | 1 => .object "StockGrid$Axis"
  | 2 => .object "StockGrid$Rect"
  | 3 => .array .long
  | 4 => .array .long
  | 5 => .array (.object "StockGrid$Zone")
  | 6 => .array (.object "StockGrid$Saved")
  | 7 => .long
  | _ => .int
abbrev wsX20 : List Cond := u_ws RX2 TX2 9
theorem nmX2 : ∀ a, a < 9 → ∀ b, b < 9 → a ≠ b → (TX2 a).2.1 ≠ (TX2 b).2.1 := by decide +kernel
theorem tyX2_ok : ∀ k, k < 9 → parseFieldDescriptor (TX2 k).2.2.1 = some (tyX2 k) := by decide +kernel
abbrev cX2_init : ByteArray := prog_4_method_1_code
def yX2_init : MethodName := ⟨RX2, "<init>", "()V"⟩
abbrev cX2_clear : ByteArray := prog_4_method_2_code
def yX2_clear : MethodName := ⟨RX2, "clear", "(IIJ)V"⟩
abbrev cX2_axisOf : ByteArray := prog_4_method_3_code
def yX2_axisOf : MethodName := ⟨RX2, "axisOf", "(I)LStockGrid$Axis;"⟩
abbrev cX2_zoneOf : ByteArray := prog_4_method_4_code
def yX2_zoneOf : MethodName := ⟨RX2, "zoneOf", "(I)LStockGrid$Zone;"⟩
abbrev cX2_savedAt : ByteArray := prog_4_method_5_code
def yX2_savedAt : MethodName := ⟨RX2, "savedAt", "(I)LStockGrid$Saved;"⟩
abbrev cX2_holds : ByteArray := prog_4_method_6_code
def yX2_holds : MethodName := ⟨RX2, "holds", "(LStockGrid$Rect;)Z"⟩
abbrev cX2_number : ByteArray := prog_4_method_7_code
def yX2_number : MethodName := ⟨RX2, "number", "(II)J"⟩
abbrev cX2_unitsAt : ByteArray := prog_4_method_8_code
def yX2_unitsAt : MethodName := ⟨RX2, "unitsAt", "(II)J"⟩
abbrev cX2_sumOf : ByteArray := prog_4_method_9_code
def yX2_sumOf : MethodName := ⟨RX2, "sumOf", "(ILStockGrid$Rect;)J"⟩
abbrev cX2_sumWhenSaved : ByteArray := prog_4_method_10_code
def yX2_sumWhenSaved : MethodName := ⟨RX2, "sumWhenSaved", "(LStockGrid$Saved;ILStockGrid$Rect;)J"⟩
abbrev cX2_sumBy : ByteArray := prog_4_method_11_code
def yX2_sumBy : MethodName := ⟨RX2, "sumBy", "(LStockGrid$Cuts;LStockGrid$Cuts;[JILStockGrid$Rect;)J"⟩
abbrev cX2_leastIn : ByteArray := prog_4_method_12_code
def yX2_leastIn : MethodName := ⟨RX2, "leastIn", "(ILStockGrid$Rect;)J"⟩
abbrev cX2_mostIn : ByteArray := prog_4_method_13_code
def yX2_mostIn : MethodName := ⟨RX2, "mostIn", "(ILStockGrid$Rect;)J"⟩
abbrev cX2_cellsFrom : ByteArray := prog_4_method_14_code
def yX2_cellsFrom : MethodName := ⟨RX2, "cellsFrom", "(ILStockGrid$Rect;J)J"⟩
abbrev cX2_valueOfRank : ByteArray := prog_4_method_15_code
def yX2_valueOfRank : MethodName := ⟨RX2, "valueOfRank", "(ILStockGrid$Rect;J)J"⟩
abbrev cX2_save : ByteArray := prog_4_method_16_code
def yX2_save : MethodName := ⟨RX2, "save", "()V"⟩
abbrev cX2_joinInnermost : ByteArray := prog_4_method_17_code
def yX2_joinInnermost : MethodName := ⟨RX2, "joinInnermost", "()V"⟩
abbrev cX2_restore : ByteArray := prog_4_method_18_code
def yX2_restore : MethodName := ⟨RX2, "restore", "()I"⟩
abbrev cX2_plan : ByteArray := prog_4_method_19_code
def yX2_plan : MethodName := ⟨RX2, "plan", "(LStockGrid$Rect;)V"⟩
abbrev cX2_planMore : ByteArray := prog_4_method_20_code
def yX2_planMore : MethodName := ⟨RX2, "planMore", "(LStockGrid$Rect;)V"⟩
abbrev cX2_plansTooMany : ByteArray := prog_4_method_21_code
def yX2_plansTooMany : MethodName := ⟨RX2, "plansTooMany", "()Z"⟩
abbrev cX2_addRefusal : ByteArray := prog_4_method_22_code
def yX2_addRefusal : MethodName := ⟨RX2, "addRefusal", "(ILStockGrid$Rect;I)I"⟩
abbrev cX2_commonCells : ByteArray := prog_4_method_23_code
def yX2_commonCells : MethodName := ⟨RX2, "commonCells", "(LStockGrid$Rect;LStockGrid$Rect;)J"⟩
abbrev cX2_startTrial : ByteArray := prog_4_method_24_code
def yX2_startTrial : MethodName := ⟨RX2, "startTrial", "(I)V"⟩
abbrev cX2_raise : ByteArray := prog_4_method_25_code
def yX2_raise : MethodName := ⟨RX2, "raise", "(LStockGrid$Rect;J)V"⟩
abbrev cX2_fill : ByteArray := prog_4_method_26_code
def yX2_fill : MethodName := ⟨RX2, "fill", "(IIIIJ)V"⟩
abbrev cX2_bring : ByteArray := prog_4_method_27_code
def yX2_bring : MethodName := ⟨RX2, "bring", "(ILStockGrid$Rect;)V"⟩
abbrev cX2_trialRefusal : ByteArray := prog_4_method_28_code
def yX2_trialRefusal : MethodName := ⟨RX2, "trialRefusal", "(I)I"⟩
abbrev cX2_trialOverCap : ByteArray := prog_4_method_29_code
def yX2_trialOverCap : MethodName := ⟨RX2, "trialOverCap", "(I)Z"⟩
abbrev cX2_trialOverLimit : ByteArray := prog_4_method_30_code
def yX2_trialOverLimit : MethodName := ⟨RX2, "trialOverLimit", "(I)Z"⟩
abbrev cX2_adopt : ByteArray := prog_4_method_31_code
def yX2_adopt : MethodName := ⟨RX2, "adopt", "(I)V"⟩
abbrev cX2_refine : ByteArray := prog_4_method_32_code
def yX2_refine : MethodName := ⟨RX2, "refine", "([J)V"⟩
def RX3 : String := "StockGrid$Rect"
def TX3 : u_T := fun k => match k with
  | 0 => ("StockGrid$Rect", "x1", "I", false)
  | 1 => ("StockGrid$Rect", "y1", "I", false)
  | 2 => ("StockGrid$Rect", "x2", "I", false)
  | _ => ("StockGrid$Rect", "y2", "I", false)
def tyX3 : Nat → FieldType := fun k => match k with
  | 0 => .int
  | 1 => .int
  | 2 => .int
  | _ => .int
abbrev wsX30 : List Cond := u_ws RX3 TX3 4
theorem nmX3 : ∀ a, a < 4 → ∀ b, b < 4 → a ≠ b → (TX3 a).2.1 ≠ (TX3 b).2.1 := by decide +kernel
theorem tyX3_ok : ∀ k, k < 4 → parseFieldDescriptor (TX3 k).2.2.1 = some (tyX3 k) := by decide +kernel
abbrev cX3_init : ByteArray := prog_5_method_1_code
def yX3_init : MethodName := ⟨RX3, "<init>", "()V"⟩
abbrev cX3_set : ByteArray := prog_5_method_2_code
def yX3_set : MethodName := ⟨RX3, "set", "(IIII)V"⟩
abbrev cX3_side : ByteArray := prog_5_method_3_code
def yX3_side : MethodName := ⟨RX3, "side", "(I)I"⟩
abbrev cX3_width : ByteArray := prog_5_method_4_code
def yX3_width : MethodName := ⟨RX3, "width", "()I"⟩
abbrev cX3_height : ByteArray := prog_5_method_5_code
def yX3_height : MethodName := ⟨RX3, "height", "()I"⟩
abbrev cX3_cells : ByteArray := prog_5_method_6_code
def yX3_cells : MethodName := ⟨RX3, "cells", "()J"⟩
def RX4 : String := "StockGrid$Saved"
def TX4 : u_T := fun k => match k with
  | 0 => ("StockGrid$Saved", "units", "[J", true)
  | _ => ("StockGrid$Saved", "acts", "I", false)
def tyX4 : Nat → FieldType := fun k => match k with
  | 0 => .array .long
  | _ => .int
abbrev wsX40 : List Cond := u_ws RX4 TX4 2
theorem nmX4 : ∀ a, a < 2 → ∀ b, b < 2 → a ≠ b → (TX4 a).2.1 ≠ (TX4 b).2.1 := by decide +kernel
theorem tyX4_ok : ∀ k, k < 2 → parseFieldDescriptor (TX4 k).2.2.1 = some (tyX4 k) := by decide +kernel
abbrev cX4_init : ByteArray := prog_6_method_1_code
def yX4_init : MethodName := ⟨RX4, "<init>", "()V"⟩
def RX5 : String := "StockGrid$Script"
def TX5 : u_T := fun k => match k with
  | 0 => ("StockGrid$Script", "tape", "[B", true)
  | 1 => ("StockGrid$Script", "fed", "I", false)
  | 2 => ("StockGrid$Script", "textEnd", "I", false)
  | 3 => ("StockGrid$Script", "token", "I", false)
  | 4 => ("StockGrid$Script", "tokenAt", "I", false)
  | 5 => ("StockGrid$Script", "tokenEnd", "I", false)
  | 6 => ("StockGrid$Script", "kinds", "[I", true)
  | 7 => ("StockGrid$Script", "numbers", "[I", true)
  | 8 => ("StockGrid$Script", "amounts", "[J", true)
  | 9 => ("StockGrid$Script", "acts", "I", false)
  | 10 => ("StockGrid$Script", "wrong", "I", false)
  | _ => ("StockGrid$Script", "wrongAt", "I", false)
def tyX5 : Nat → FieldType := fun k => match k with
  | 0 => .array .byte
  | 1 => .int
  | 2 => .int
  | 3 => .int
  | 4 => .int
  | 5 => .int
  | 6 => .array .int
  | 7 => .array .int
  | 8 => .array .long
  | 9 => .int
  | 10 => .int
  | _ => .int
abbrev wsX50 : List Cond := u_ws RX5 TX5 12
theorem nmX5 : ∀ a, a < 12 → ∀ b, b < 12 → a ≠ b → (TX5 a).2.1 ≠ (TX5 b).2.1 := by decide +kernel
theorem tyX5_ok : ∀ k, k < 12 → parseFieldDescriptor (TX5 k).2.2.1 = some (tyX5 k) := by decide +kernel
abbrev cX5_init : ByteArray := prog_7_method_1_code
def yX5_init : MethodName := ⟨RX5, "<init>", "()V"⟩
abbrev cX5_hasRoom : ByteArray := prog_7_method_2_code
def yX5_hasRoom : MethodName := ⟨RX5, "hasRoom", "()Z"⟩
abbrev cX5_put : ByteArray := prog_7_method_3_code
def yX5_put : MethodName := ⟨RX5, "put", "(I)V"⟩
abbrev cX5_kind : ByteArray := prog_7_method_4_code
def yX5_kind : MethodName := ⟨RX5, "kind", "(I)I"⟩
abbrev cX5_number : ByteArray := prog_7_method_5_code
def yX5_number : MethodName := ⟨RX5, "number", "(II)I"⟩
abbrev cX5_amount : ByteArray := prog_7_method_6_code
def yX5_amount : MethodName := ⟨RX5, "amount", "(I)J"⟩
abbrev cX5_read : ByteArray := prog_7_method_7_code
def yX5_read : MethodName := ⟨RX5, "read", "(I)I"⟩
abbrev cX5_readAct : ByteArray := prog_7_method_8_code
def yX5_readAct : MethodName := ⟨RX5, "readAct", "()V"⟩
abbrev cX5_readPlace : ByteArray := prog_7_method_9_code
def yX5_readPlace : MethodName := ⟨RX5, "readPlace", "()V"⟩
abbrev cX5_readAdded : ByteArray := prog_7_method_10_code
def yX5_readAdded : MethodName := ⟨RX5, "readAdded", "()J"⟩
abbrev cX5_readNumber : ByteArray := prog_7_method_11_code
def yX5_readNumber : MethodName := ⟨RX5, "readNumber", "(JJ)J"⟩
abbrev cX5_blame : ByteArray := prog_7_method_12_code
def yX5_blame : MethodName := ⟨RX5, "blame", "(I)V"⟩
abbrev cX5_step : ByteArray := prog_7_method_13_code
def yX5_step : MethodName := ⟨RX5, "step", "()V"⟩
abbrev cX5_kindOfByte : ByteArray := prog_7_method_14_code
def yX5_kindOfByte : MethodName := ⟨RX5, "kindOfByte", "(I)I"⟩
abbrev cX5_isSign : ByteArray := prog_7_method_15_code
def yX5_isSign : MethodName := ⟨RX5, "isSign", "(C)Z"⟩
abbrev cX5_kindOfWord : ByteArray := prog_7_method_16_code
def yX5_kindOfWord : MethodName := ⟨RX5, "kindOfWord", "()I"⟩
abbrev cX5_isWord : ByteArray := prog_7_method_17_code
def yX5_isWord : MethodName := ⟨RX5, "isWord", "(Ljava/lang/String;)Z"⟩
abbrev cX5_numberOfToken : ByteArray := prog_7_method_18_code
def yX5_numberOfToken : MethodName := ⟨RX5, "numberOfToken", "()J"⟩
def RX6 : String := "StockGrid$Standing"
def TX6 : u_T := fun k => match k with
  | 0 => ("StockGrid$Standing", "rows", "[J", true)
  | 1 => ("StockGrid$Standing", "eldest", "I", false)
  | _ => ("StockGrid$Standing", "size", "I", false)
def tyX6 : Nat → FieldType := fun k => match k with
  | 0 => .array .long
  | 1 => .int
  | _ => .int
abbrev wsX60 : List Cond := u_ws RX6 TX6 3
theorem nmX6 : ∀ a, a < 3 → ∀ b, b < 3 → a ≠ b → (TX6 a).2.1 ≠ (TX6 b).2.1 := by decide +kernel
theorem tyX6_ok : ∀ k, k < 3 → parseFieldDescriptor (TX6 k).2.2.1 = some (tyX6 k) := by decide +kernel
abbrev cX6_init : ByteArray := prog_8_method_1_code
def yX6_init : MethodName := ⟨RX6, "<init>", "()V"⟩
abbrev cX6_clear : ByteArray := prog_8_method_2_code
def yX6_clear : MethodName := ⟨RX6, "clear", "()V"⟩
abbrev cX6_put : ByteArray := prog_8_method_3_code
def yX6_put : MethodName := ⟨RX6, "put", "(IILStockGrid$Rect;J)V"⟩
abbrev cX6_rowOf : ByteArray := prog_8_method_4_code
def yX6_rowOf : MethodName := ⟨RX6, "rowOf", "(I)I"⟩
abbrev cX6_told : ByteArray := prog_8_method_5_code
def yX6_told : MethodName := ⟨RX6, "told", "(II)J"⟩
abbrev cX6_dropLatest : ByteArray := prog_8_method_6_code
def yX6_dropLatest : MethodName := ⟨RX6, "dropLatest", "(I)V"⟩
def RX7 : String := "StockGrid$Survey"
def TX7 : u_T := fun k => match k with
  | 0 => ("StockGrid$Survey", "floor", "LStockGrid$Floor;", true)
  | 1 => ("StockGrid$Survey", "hollow", "LStockGrid$Rect;", true)
  | 2 => ("StockGrid$Survey", "inLine", "J", false)
  | 3 => ("StockGrid$Survey", "filled", "J", false)
  | 4 => ("StockGrid$Survey", "x", "I", false)
  | 5 => ("StockGrid$Survey", "y", "I", false)
  | 6 => ("StockGrid$Survey", "left", "J", false)
  | 7 => ("StockGrid$Survey", "reached", "J", false)
  | 8 => ("StockGrid$Survey", "most", "J", false)
  | 9 => ("StockGrid$Survey", "clearFrom", "[I", true)
  | 10 => ("StockGrid$Survey", "begunLeft", "[I", true)
  | 11 => ("StockGrid$Survey", "begunTop", "[I", true)
  | 12 => ("StockGrid$Survey", "above", "[J", true)
  | 13 => ("StockGrid$Survey", "inColumn", "[J", true)
  | 14 => ("StockGrid$Survey", "columnsAhead", "[J", true)
  | 15 => ("StockGrid$Survey", "startsAcross", "[I", true)
  | _ => ("StockGrid$Survey", "startsDown", "[I", true)
def tyX7 : Nat → FieldType := fun k => match k with
  | 0 => .object "StockGrid$Floor"
  | 1 => .object "StockGrid$Rect"
  | 2 => .long
  | 3 => .long
  | 4 => .int
  | 5 => .int
  | 6 => .long
  | 7 => .long
  | 8 => .long
  | 9 => .array .int
  | 10 => .array .int
  | 11 => .array .int
  | 12 => .array .long
  | 13 => .array .long
  | 14 => .array .long
  | 15 => .array .int
  | _ => .array .int
abbrev wsX70 : List Cond := u_ws RX7 TX7 17
theorem nmX7 : ∀ a, a < 17 → ∀ b, b < 17 → a ≠ b → (TX7 a).2.1 ≠ (TX7 b).2.1 := by decide +kernel
theorem tyX7_ok : ∀ k, k < 17 → parseFieldDescriptor (TX7 k).2.2.1 = some (tyX7 k) := by decide +kernel
abbrev cX7_init : ByteArray := prog_9_method_1_code
def yX7_init : MethodName := ⟨RX7, "<init>", "()V"⟩
abbrev cX7_outer : ByteArray := prog_9_method_2_code
def yX7_outer : MethodName := ⟨RX7, "outer", "(I)LStockGrid$Cuts;"⟩
abbrev cX7_inner : ByteArray := prog_9_method_3_code
def yX7_inner : MethodName := ⟨RX7, "inner", "(I)LStockGrid$Cuts;"⟩
abbrev cX7_field : ByteArray := prog_9_method_4_code
def yX7_field : MethodName := ⟨RX7, "field", "(III)I"⟩
abbrev cX7_measure : ByteArray := prog_9_method_5_code
def yX7_measure : MethodName := ⟨RX7, "measure", "(IIIII)V"⟩
abbrev cX7_measureWhole : ByteArray := prog_9_method_6_code
def yX7_measureWhole : MethodName := ⟨RX7, "measureWhole", "(III)V"⟩
abbrev cX7_locate : ByteArray := prog_9_method_7_code
def yX7_locate : MethodName := ⟨RX7, "locate", "(IILStockGrid$Rect;J)Z"⟩
abbrev cX7_locateInLine : ByteArray := prog_9_method_8_code
def yX7_locateInLine : MethodName := ⟨RX7, "locateInLine", "(IIIJI)Z"⟩
abbrev cX7_setOuter : ByteArray := prog_9_method_9_code
def yX7_setOuter : MethodName := ⟨RX7, "setOuter", "(II)V"⟩
abbrev cX7_middle : ByteArray := prog_9_method_10_code
def yX7_middle : MethodName := ⟨RX7, "middle", "(IIJ)I"⟩
abbrev cX7_haulAcross : ByteArray := prog_9_method_11_code
def yX7_haulAcross : MethodName := ⟨RX7, "haulAcross", "(IIIJ)J"⟩
abbrev cX7_distances : ByteArray := prog_9_method_12_code
def yX7_distances : MethodName := ⟨RX7, "distances", "(III)J"⟩
abbrev cX7_sumUpTo : ByteArray := prog_9_method_13_code
def yX7_sumUpTo : MethodName := ⟨RX7, "sumUpTo", "(J)J"⟩
abbrev cX7_findLine : ByteArray := prog_9_method_14_code
def yX7_findLine : MethodName := ⟨RX7, "findLine", "(II)I"⟩
abbrev cX7_findWindow : ByteArray := prog_9_method_15_code
def yX7_findWindow : MethodName := ⟨RX7, "findWindow", "(III)V"⟩
abbrev cX7_gatherStarts : ByteArray := prog_9_method_16_code
def yX7_gatherStarts : MethodName := ⟨RX7, "gatherStarts", "(LStockGrid$Cuts;I[I)I"⟩
abbrev cX7_sumColumnsAbove : ByteArray := prog_9_method_17_code
def yX7_sumColumnsAbove : MethodName := ⟨RX7, "sumColumnsAbove", "(I)V"⟩
abbrev cX7_sumColumnsBetween : ByteArray := prog_9_method_18_code
def yX7_sumColumnsBetween : MethodName := ⟨RX7, "sumColumnsBetween", "(III)V"⟩
abbrev cX7_unitsAhead : ByteArray := prog_9_method_19_code
def yX7_unitsAhead : MethodName := ⟨RX7, "unitsAhead", "(I)J"⟩
abbrev cX7_findHole : ByteArray := prog_9_method_20_code
def yX7_findHole : MethodName := ⟨RX7, "findHole", "()Z"⟩
abbrev cX7_takeHolesAbove : ByteArray := prog_9_method_21_code
def yX7_takeHolesAbove : MethodName := ⟨RX7, "takeHolesAbove", "(I)V"⟩
abbrev cX7_takeHole : ByteArray := prog_9_method_22_code
def yX7_takeHole : MethodName := ⟨RX7, "takeHole", "(IIII)V"⟩
abbrev cX7_isAheadOfHole : ByteArray := prog_9_method_23_code
def yX7_isAheadOfHole : MethodName := ⟨RX7, "isAheadOfHole", "(III)Z"⟩
def RX8 : String := "StockGrid$Zone"
def TX8 : u_T := fun k => match k with
  | 0 => ("StockGrid$Zone", "rect", "LStockGrid$Rect;", true)
  | 1 => ("StockGrid$Zone", "limit", "J", false)
  | _ => ("StockGrid$Zone", "there", "Z", false)
def tyX8 : Nat → FieldType := fun k => match k with
  | 0 => .object "StockGrid$Rect"
  | 1 => .long
  | _ => .boolean
abbrev wsX80 : List Cond := u_ws RX8 TX8 3
theorem nmX8 : ∀ a, a < 3 → ∀ b, b < 3 → a ≠ b → (TX8 a).2.1 ≠ (TX8 b).2.1 := by decide +kernel
theorem tyX8_ok : ∀ k, k < 3 → parseFieldDescriptor (TX8 k).2.2.1 = some (tyX8 k) := by decide +kernel
abbrev cX8_init : ByteArray := prog_10_method_1_code
def yX8_init : MethodName := ⟨RX8, "<init>", "()V"⟩
def RX9 : String := "StockGrid"
def TX9 : u_T := fun k => match k with
  | 0 => ("StockGrid", "survey", "LStockGrid$Survey;", true)
  | 1 => ("StockGrid", "floor", "LStockGrid$Floor;", true)
  | 2 => ("StockGrid", "standing", "LStockGrid$Standing;", true)
  | 3 => ("StockGrid", "script", "LStockGrid$Script;", true)
  | 4 => ("StockGrid", "asked", "LStockGrid$Rect;", true)
  | 5 => ("StockGrid", "other", "LStockGrid$Rect;", true)
  | _ => ("StockGrid", "refusal", "I", false)
def tyX9 : Nat → FieldType := fun k => match k with
  | 0 => .object "StockGrid$Survey"
  | 1 => .object "StockGrid$Floor"
  | 2 => .object "StockGrid$Standing"
  | 3 => .object "StockGrid$Script"
  | 4 => .object "StockGrid$Rect"
  | 5 => .object "StockGrid$Rect"
  | _ => .int
abbrev wsX90 : List Cond := u_ws RX9 TX9 7
theorem nmX9 : ∀ a, a < 7 → ∀ b, b < 7 → a ≠ b → (TX9 a).2.1 ≠ (TX9 b).2.1 := by decide +kernel
theorem tyX9_ok : ∀ k, k < 7 → parseFieldDescriptor (TX9 k).2.2.1 = some (tyX9 k) := by decide +kernel
abbrev cX9_init : ByteArray := prog_1_method_1_code
def yX9_init : MethodName := ⟨RX9, "<init>", "()V"⟩
abbrev cX9_world : ByteArray := prog_1_method_2_code
def yX9_world : MethodName := ⟨RX9, "world", "(IIJ)J"⟩
abbrev cX9_add : ByteArray := prog_1_method_3_code
def yX9_add : MethodName := ⟨RX9, "add", "(IIIIII)J"⟩
abbrev cX9_pick : ByteArray := prog_1_method_4_code
def yX9_pick : MethodName := ⟨RX9, "pick", "(IIIIIJ)J"⟩
abbrev cX9_move : ByteArray := prog_1_method_5_code
def yX9_move : MethodName := ⟨RX9, "move", "(IIIIIII)J"⟩
abbrev cX9_level : ByteArray := prog_1_method_6_code
def yX9_level : MethodName := ⟨RX9, "level", "(IIIII)J"⟩
abbrev cX9_zone : ByteArray := prog_1_method_7_code
def yX9_zone : MethodName := ⟨RX9, "zone", "(IIIIIJ)J"⟩
abbrev cX9_zoneAt : ByteArray := prog_1_method_8_code
def yX9_zoneAt : MethodName := ⟨RX9, "zoneAt", "(II)J"⟩
abbrev cX9_begin : ByteArray := prog_1_method_9_code
def yX9_begin : MethodName := ⟨RX9, "begin", "()I"⟩
abbrev cX9_commit : ByteArray := prog_1_method_10_code
def yX9_commit : MethodName := ⟨RX9, "commit", "()I"⟩
abbrev cX9_cancel : ByteArray := prog_1_method_11_code
def yX9_cancel : MethodName := ⟨RX9, "cancel", "()I"⟩
abbrev cX9_feed : ByteArray := prog_1_method_12_code
def yX9_feed : MethodName := ⟨RX9, "feed", "(IIIII)I"⟩
abbrev cX9_run : ByteArray := prog_1_method_13_code
def yX9_run : MethodName := ⟨RX9, "run", "(I)I"⟩
abbrev cX9_fault : ByteArray := prog_1_method_14_code
def yX9_fault : MethodName := ⟨RX9, "fault", "(I)I"⟩
abbrev cX9_sum : ByteArray := prog_1_method_15_code
def yX9_sum : MethodName := ⟨RX9, "sum", "(IIIII)J"⟩
abbrev cX9_at : ByteArray := prog_1_method_16_code
def yX9_at : MethodName := ⟨RX9, "at", "(III)J"⟩
abbrev cX9_bound : ByteArray := prog_1_method_17_code
def yX9_bound : MethodName := ⟨RX9, "bound", "(IIIIII)J"⟩
abbrev cX9_empty : ByteArray := prog_1_method_18_code
def yX9_empty : MethodName := ⟨RX9, "empty", "(IIII)J"⟩
abbrev cX9_share : ByteArray := prog_1_method_19_code
def yX9_share : MethodName := ⟨RX9, "share", "(IIIIII)J"⟩
abbrev cX9_atLeast : ByteArray := prog_1_method_20_code
def yX9_atLeast : MethodName := ⟨RX9, "atLeast", "(IIIIIJ)J"⟩
abbrev cX9_value : ByteArray := prog_1_method_21_code
def yX9_value : MethodName := ⟨RX9, "value", "(IIIIIJ)J"⟩
abbrev cX9_hole : ByteArray := prog_1_method_22_code
def yX9_hole : MethodName := ⟨RX9, "hole", "(I)J"⟩
abbrev cX9_before : ByteArray := prog_1_method_23_code
def yX9_before : MethodName := ⟨RX9, "before", "(IIIIII)J"⟩
abbrev cX9_find : ByteArray := prog_1_method_24_code
def yX9_find : MethodName := ⟨RX9, "find", "(IIJ)J"⟩
abbrev cX9_findIn : ByteArray := prog_1_method_25_code
def yX9_findIn : MethodName := ⟨RX9, "findIn", "(IIIIIJ)J"⟩
abbrev cX9_touched : ByteArray := prog_1_method_26_code
def yX9_touched : MethodName := ⟨RX9, "touched", "(IIIIIJ)J"⟩
abbrev cX9_ahead : ByteArray := prog_1_method_27_code
def yX9_ahead : MethodName := ⟨RX9, "ahead", "(IIII)J"⟩
abbrev cX9_depot : ByteArray := prog_1_method_28_code
def yX9_depot : MethodName := ⟨RX9, "depot", "(II)J"⟩
abbrev cX9_window : ByteArray := prog_1_method_29_code
def yX9_window : MethodName := ⟨RX9, "window", "(IIII)J"⟩
abbrev cX9_line : ByteArray := prog_1_method_30_code
def yX9_line : MethodName := ⟨RX9, "line", "(III)J"⟩
abbrev cX9_borders : ByteArray := prog_1_method_31_code
def yX9_borders : MethodName := ⟨RX9, "borders", "(II)I"⟩
abbrev cX9_border : ByteArray := prog_1_method_32_code
def yX9_border : MethodName := ⟨RX9, "border", "(II)I"⟩
abbrev cX9_act : ByteArray := prog_1_method_33_code
def yX9_act : MethodName := ⟨RX9, "act", "(II)J"⟩
abbrev cX9_count : ByteArray := prog_1_method_34_code
def yX9_count : MethodName := ⟨RX9, "count", "(I)J"⟩
abbrev cX9_isGood : ByteArray := prog_1_method_35_code
def yX9_isGood : MethodName := ⟨RX9, "isGood", "(I)Z"⟩
abbrev cX9_isGoodOrAll : ByteArray := prog_1_method_36_code
def yX9_isGoodOrAll : MethodName := ⟨RX9, "isGoodOrAll", "(I)Z"⟩
abbrev cX9_isAxis : ByteArray := prog_1_method_37_code
def yX9_isAxis : MethodName := ⟨RX9, "isAxis", "(I)Z"⟩
abbrev cX9_isShift : ByteArray := prog_1_method_38_code
def yX9_isShift : MethodName := ⟨RX9, "isShift", "(I)Z"⟩
abbrev cX9_commonDivisor : ByteArray := prog_1_method_39_code
def yX9_commonDivisor : MethodName := ⟨RX9, "commonDivisor", "(JJ)J"⟩
abbrev cX9_ask : ByteArray := prog_1_method_40_code
def yX9_ask : MethodName := ⟨RX9, "ask", "(IIII)Z"⟩
abbrev cX9_keep : ByteArray := prog_1_method_41_code
def yX9_keep : MethodName := ⟨RX9, "keep", "(IIJ)V"⟩
abbrev cX9_numberOfUnit : ByteArray := prog_1_method_42_code
def yX9_numberOfUnit : MethodName := ⟨RX9, "numberOfUnit", "(IILStockGrid$Rect;J)J"⟩
abbrev cX9_doTold : ByteArray := prog_1_method_43_code
def yX9_doTold : MethodName := ⟨RX9, "doTold", "(I)J"⟩
def RX10 : String := "StockGridModel"
def TX10 : u_T := fun k => match k with
  | 0 => ("StockGridModel", "thrown", "I", false)
  | 1 => ("StockGridModel", "wide", "I", false)
  | 2 => ("StockGridModel", "high", "I", false)
  | 3 => ("StockGridModel", "cap", "J", false)
  | 4 => ("StockGridModel", "edge", "[I", true)
  | 5 => ("StockGridModel", "edges", "[I", true)
  | 6 => ("StockGridModel", "late", "[I", true)
  | 7 => ("StockGridModel", "units", "[J", true)
  | 8 => ("StockGridModel", "kept", "[J", true)
  | 9 => ("StockGridModel", "all", "[J", true)
  | 10 => ("StockGridModel", "keptAll", "[J", true)
  | 11 => ("StockGridModel", "open", "I", false)
  | 12 => ("StockGridModel", "done", "[I", true)
  | 13 => ("StockGridModel", "told", "[J", true)
  | 14 => ("StockGridModel", "toldMany", "I", false)
  | 15 => ("StockGridModel", "zone", "[I", true)
  | 16 => ("StockGridModel", "limit", "[J", true)
  | 17 => ("StockGridModel", "isZone", "[Z", true)
  | 18 => ("StockGridModel", "topmost", "[I", true)
  | 19 => ("StockGridModel", "coming", "[I", true)
  | 20 => ("StockGridModel", "comingMany", "I", false)
  | 21 => ("StockGridModel", "foundX", "I", false)
  | 22 => ("StockGridModel", "foundY", "I", false)
  | 23 => ("StockGridModel", "foundIn", "J", false)
  | 24 => ("StockGridModel", "metX", "I", false)
  | 25 => ("StockGridModel", "metY", "I", false)
  | 26 => ("StockGridModel", "metX2", "I", false)
  | 27 => ("StockGridModel", "metY2", "I", false)
  | 28 => ("StockGridModel", "then", "[I", true)
  | 29 => ("StockGridModel", "thens", "[I", true)
  | 30 => ("StockGridModel", "old", "[J", true)
  | 31 => ("StockGridModel", "comingAcross", "[I", true)
  | 32 => ("StockGridModel", "acrossMany", "I", false)
  | 33 => ("StockGridModel", "tape", "[B", true)
  | 34 => ("StockGridModel", "taped", "I", false)
  | 35 => ("StockGridModel", "size", "I", false)
  | 36 => ("StockGridModel", "spot", "I", false)
  | 37 => ("StockGridModel", "wrong", "I", false)
  | 38 => ("StockGridModel", "wrongAt", "I", false)
  | 39 => ("StockGridModel", "refused", "I", false)
  | 40 => ("StockGridModel", "read", "[J", true)
  | 41 => ("StockGridModel", "readMany", "I", false)
  | 42 => ("StockGridModel", "holeI", "I", false)
  | 43 => ("StockGridModel", "holeJ", "I", false)
  | 44 => ("StockGridModel", "holeI2", "I", false)
  | 45 => ("StockGridModel", "holeJ2", "I", false)
  | 46 => ("StockGridModel", "holeCells", "J", false)
  | 47 => ("StockGridModel", "isBare", "[Z", true)
  | 48 => ("StockGridModel", "placesX", "[I", true)
  | 49 => ("StockGridModel", "placesY", "[I", true)
  | _ => ("StockGridModel", "strip", "[J", true)
def tyX10 : Nat → FieldType := fun k => match k with
  | 0 => .int
  | 1 => .int
  | 2 => .int
  | 3 => .long
  | 4 => .array .int
  | 5 => .array .int
  | 6 => .array .int
  | 7 => .array .long
  | 8 => .array .long
  | 9 => .array .long
  | 10 => .array .long
  | 11 => .int
  | 12 => .array .int
  | 13 => .array .long
  | 14 => .int
  | 15 => .array .int
  | 16 => .array .long
  | 17 => .array .boolean
  | 18 => .array .int
  | 19 => .array .int
  | 20 => .int
  | 21 => .int
  | 22 => .int
  | 23 => .long
  | 24 => .int
  | 25 => .int
  | 26 => .int
  | 27 => .int
  | 28 => .array .int
  | 29 => .array .int
  | 30 => .array .long
  | 31 => .array .int
  | 32 => .int
  | 33 => .array .byte
  | 34 => .int
  | 35 => .int
  | 36 => .int
  | 37 => .int
  | 38 => .int
  | 39 => .int
  | 40 => .array .long
  | 41 => .int
  | 42 => .int
  | 43 => .int
  | 44 => .int
  | 45 => .int
  | 46 => .long
  | 47 => .array .boolean
  | 48 => .array .int
  | 49 => .array .int
  | _ => .array .long
abbrev wsX100 : List Cond := u_ws RX10 TX10 51
theorem nmX10 : ∀ a, a < 51 → ∀ b, b < 51 → a ≠ b → (TX10 a).2.1 ≠ (TX10 b).2.1 := by decide +kernel
theorem tyX10_ok : ∀ k, k < 51 → parseFieldDescriptor (TX10 k).2.2.1 = some (tyX10 k) := by decide +kernel
abbrev cX10_isIn : ByteArray := prog_12_method_2_code
def yX10_isIn : MethodName := ⟨RX10, "isIn", "(JJJ)Z"⟩
abbrev cX10_init : ByteArray := prog_12_method_3_code
def yX10_init : MethodName := ⟨RX10, "<init>", "()V"⟩
abbrev cX10_begins : ByteArray := prog_12_method_4_code
def yX10_begins : MethodName := ⟨RX10, "begins", "()V"⟩
abbrev cX10_world : ByteArray := prog_12_method_5_code
def yX10_world : MethodName := ⟨RX10, "world", "(IIJ)J"⟩
abbrev cX10_sizeOf : ByteArray := prog_12_method_6_code
def yX10_sizeOf : MethodName := ⟨RX10, "sizeOf", "(I)I"⟩
abbrev cX10_edgeAt : ByteArray := prog_12_method_7_code
def yX10_edgeAt : MethodName := ⟨RX10, "edgeAt", "(II)I"⟩
abbrev cX10_acrossOf : ByteArray := prog_12_method_8_code
def yX10_acrossOf : MethodName := ⟨RX10, "acrossOf", "(I)I"⟩
abbrev cX10_downOf : ByteArray := prog_12_method_9_code
def yX10_downOf : MethodName := ⟨RX10, "downOf", "(I)I"⟩
abbrev cX10_slot : ByteArray := prog_12_method_10_code
def yX10_slot : MethodName := ⟨RX10, "slot", "(III)I"⟩
abbrev cX10_in : ByteArray := prog_12_method_11_code
def yX10_in : MethodName := ⟨RX10, "in", "(III)J"⟩
abbrev cX10_part : ByteArray := prog_12_method_12_code
def yX10_part : MethodName := ⟨RX10, "part", "(IIII)I"⟩
abbrev cX10_isEdge : ByteArray := prog_12_method_13_code
def yX10_isEdge : MethodName := ⟨RX10, "isEdge", "(II)Z"⟩
abbrev cX10_parts : ByteArray := prog_12_method_14_code
def yX10_parts : MethodName := ⟨RX10, "parts", "([JIIII)V"⟩
abbrev cX10_comes : ByteArray := prog_12_method_15_code
def yX10_comes : MethodName := ⟨RX10, "comes", "(II)V"⟩
abbrev cX10_acts : ByteArray := prog_12_method_16_code
def yX10_acts : MethodName := ⟨RX10, "acts", "()V"⟩
abbrev cX10_wants : ByteArray := prog_12_method_17_code
def yX10_wants : MethodName := ⟨RX10, "wants", "(II)V"⟩
abbrev cX10_wantsAll : ByteArray := prog_12_method_18_code
def yX10_wantsAll : MethodName := ⟨RX10, "wantsAll", "(IIII)V"⟩
abbrev cX10_isRoom : ByteArray := prog_12_method_19_code
def yX10_isRoom : MethodName := ⟨RX10, "isRoom", "(I)Z"⟩
abbrev cX10_hasRoom : ByteArray := prog_12_method_20_code
def yX10_hasRoom : MethodName := ⟨RX10, "hasRoom", "(IIII)Z"⟩
abbrev cX10_isRectangle : ByteArray := prog_12_method_21_code
def yX10_isRectangle : MethodName := ⟨RX10, "isRectangle", "(IIII)Z"⟩
abbrev cX10_isGood : ByteArray := prog_12_method_22_code
def yX10_isGood : MethodName := ⟨RX10, "isGood", "(I)Z"⟩
abbrev cX10_isCell : ByteArray := prog_12_method_23_code
def yX10_isCell : MethodName := ⟨RX10, "isCell", "(II)Z"⟩
abbrev cX10_breaksBy : ByteArray := prog_12_method_24_code
def yX10_breaksBy : MethodName := ⟨RX10, "breaksBy", "(IIIIII)I"⟩
abbrev cX10_tells : ByteArray := prog_12_method_25_code
def yX10_tells : MethodName := ⟨RX10, "tells", "(IIIIIIJ)V"⟩
abbrev cX10_add : ByteArray := prog_12_method_26_code
def yX10_add : MethodName := ⟨RX10, "add", "(IIIIII)J"⟩
abbrev cX10_acrossSum : ByteArray := prog_12_method_27_code
def yX10_acrossSum : MethodName := ⟨RX10, "acrossSum", "(IIII)J"⟩
abbrev cX10_downSum : ByteArray := prog_12_method_28_code
def yX10_downSum : MethodName := ⟨RX10, "downSum", "(IIII)J"⟩
abbrev cX10_finds : ByteArray := prog_12_method_29_code
def yX10_finds : MethodName := ⟨RX10, "finds", "(IIIIIJ)Z"⟩
abbrev cX10_findsDown : ByteArray := prog_12_method_30_code
def yX10_findsDown : MethodName := ⟨RX10, "findsDown", "(IJ)Z"⟩
abbrev cX10_sumOf : ByteArray := prog_12_method_31_code
def yX10_sumOf : MethodName := ⟨RX10, "sumOf", "(IIIII)J"⟩
abbrev cX10_meets : ByteArray := prog_12_method_32_code
def yX10_meets : MethodName := ⟨RX10, "meets", "(IIIII)Z"⟩
abbrev cX10_cells : ByteArray := prog_12_method_33_code
def yX10_cells : MethodName := ⟨RX10, "cells", "()J"⟩
abbrev cX10_zoned : ByteArray := prog_12_method_34_code
def yX10_zoned : MethodName := ⟨RX10, "zoned", "(I)J"⟩
abbrev cX10_empties : ByteArray := prog_12_method_35_code
def yX10_empties : MethodName := ⟨RX10, "empties", "(IIIII)V"⟩
abbrev cX10_blockAt : ByteArray := prog_12_method_36_code
def yX10_blockAt : MethodName := ⟨RX10, "blockAt", "(II)I"⟩
abbrev cX10_number : ByteArray := prog_12_method_37_code
def yX10_number : MethodName := ⟨RX10, "number", "(II)J"⟩
abbrev cX10_pick : ByteArray := prog_12_method_38_code
def yX10_pick : MethodName := ⟨RX10, "pick", "(IIIIIJ)J"⟩
abbrev cX10_laysThen : ByteArray := prog_12_method_39_code
def yX10_laysThen : MethodName := ⟨RX10, "laysThen", "(I)V"⟩
abbrev cX10_comesAll : ByteArray := prog_12_method_40_code
def yX10_comesAll : MethodName := ⟨RX10, "comesAll", "(I)V"⟩
abbrev cX10_keepsAcross : ByteArray := prog_12_method_41_code
def yX10_keepsAcross : MethodName := ⟨RX10, "keepsAcross", "()V"⟩
abbrev cX10_comesAcross : ByteArray := prog_12_method_42_code
def yX10_comesAcross : MethodName := ⟨RX10, "comesAcross", "()V"⟩
abbrev cX10_wantsMoved : ByteArray := prog_12_method_43_code
def yX10_wantsMoved : MethodName := ⟨RX10, "wantsMoved", "(IIII)V"⟩
abbrev cX10_cell : ByteArray := prog_12_method_44_code
def yX10_cell : MethodName := ⟨RX10, "cell", "(III)J"⟩
abbrev cX10_isInside : ByteArray := prog_12_method_45_code
def yX10_isInside : MethodName := ⟨RX10, "isInside", "(IIIIII)Z"⟩
abbrev cX10_move : ByteArray := prog_12_method_46_code
def yX10_move : MethodName := ⟨RX10, "move", "(IIIIIII)J"⟩
abbrev cX10_first0 : ByteArray := prog_12_method_47_code
def yX10_first0 : MethodName := ⟨RX10, "first0", "(II)J"⟩
abbrev cX10_level : ByteArray := prog_12_method_48_code
def yX10_level : MethodName := ⟨RX10, "level", "(IIIII)J"⟩
abbrev cX10_zone : ByteArray := prog_12_method_49_code
def yX10_zone : MethodName := ⟨RX10, "zone", "(IIIIIJ)J"⟩
abbrev cX10_zoneAt : ByteArray := prog_12_method_50_code
def yX10_zoneAt : MethodName := ⟨RX10, "zoneAt", "(II)J"⟩
abbrev cX10_begin : ByteArray := prog_12_method_51_code
def yX10_begin : MethodName := ⟨RX10, "begin", "()I"⟩
abbrev cX10_commit : ByteArray := prog_12_method_52_code
def yX10_commit : MethodName := ⟨RX10, "commit", "()I"⟩
abbrev cX10_cancel : ByteArray := prog_12_method_53_code
def yX10_cancel : MethodName := ⟨RX10, "cancel", "()I"⟩
abbrev cX10_feed : ByteArray := prog_12_method_54_code
def yX10_feed : MethodName := ⟨RX10, "feed", "(IIIII)I"⟩
abbrev cX10_peek : ByteArray := prog_12_method_55_code
def yX10_peek : MethodName := ⟨RX10, "peek", "()I"⟩
abbrev cX10_fails : ByteArray := prog_12_method_56_code
def yX10_fails : MethodName := ⟨RX10, "fails", "(II)V"⟩
abbrev cX10_blanks : ByteArray := prog_12_method_57_code
def yX10_blanks : MethodName := ⟨RX10, "blanks", "()V"⟩
abbrev cX10_lettersHere : ByteArray := prog_12_method_58_code
def yX10_lettersHere : MethodName := ⟨RX10, "lettersHere", "()I"⟩
abbrev cX10_wordNext : ByteArray := prog_12_method_59_code
def yX10_wordNext : MethodName := ⟨RX10, "wordNext", "()I"⟩
abbrev cX10_numeral : ByteArray := prog_12_method_60_code
def yX10_numeral : MethodName := ⟨RX10, "numeral", "(JJ)J"⟩
abbrev cX10_readAct : ByteArray := prog_12_method_61_code
def yX10_readAct : MethodName := ⟨RX10, "readAct", "()V"⟩
abbrev cX10_isOver : ByteArray := prog_12_method_62_code
def yX10_isOver : MethodName := ⟨RX10, "isOver", "()Z"⟩
abbrev cX10_does : ByteArray := prog_12_method_63_code
def yX10_does : MethodName := ⟨RX10, "does", "(I)J"⟩
abbrev cX10_run : ByteArray := prog_12_method_64_code
def yX10_run : MethodName := ⟨RX10, "run", "(I)I"⟩
abbrev cX10_fault : ByteArray := prog_12_method_65_code
def yX10_fault : MethodName := ⟨RX10, "fault", "(I)I"⟩
abbrev cX10_isGoodOrAll : ByteArray := prog_12_method_66_code
def yX10_isGoodOrAll : MethodName := ⟨RX10, "isGoodOrAll", "(I)Z"⟩
abbrev cX10_sum : ByteArray := prog_12_method_67_code
def yX10_sum : MethodName := ⟨RX10, "sum", "(IIIII)J"⟩
abbrev cX10_at : ByteArray := prog_12_method_68_code
def yX10_at : MethodName := ⟨RX10, "at", "(III)J"⟩
abbrev cX10_bound : ByteArray := prog_12_method_69_code
def yX10_bound : MethodName := ⟨RX10, "bound", "(IIIIII)J"⟩
abbrev cX10_empty : ByteArray := prog_12_method_70_code
def yX10_empty : MethodName := ⟨RX10, "empty", "(IIII)J"⟩
abbrev cX10_common : ByteArray := prog_12_method_71_code
def yX10_common : MethodName := ⟨RX10, "common", "(JJ)J"⟩
abbrev cX10_share : ByteArray := prog_12_method_72_code
def yX10_share : MethodName := ⟨RX10, "share", "(IIIIII)J"⟩
abbrev cX10_atLeast : ByteArray := prog_12_method_73_code
def yX10_atLeast : MethodName := ⟨RX10, "atLeast", "(IIIIIJ)J"⟩
abbrev cX10_cellsFrom : ByteArray := prog_12_method_74_code
def yX10_cellsFrom : MethodName := ⟨RX10, "cellsFrom", "(IIIIIJ)J"⟩
abbrev cX10_value : ByteArray := prog_12_method_75_code
def yX10_value : MethodName := ⟨RX10, "value", "(IIIIIJ)J"⟩
abbrev cX10_tries : ByteArray := prog_12_method_76_code
def yX10_tries : MethodName := ⟨RX10, "tries", "(IIII)V"⟩
abbrev cX10_hole : ByteArray := prog_12_method_77_code
def yX10_hole : MethodName := ⟨RX10, "hole", "(I)J"⟩
abbrev cX10_before : ByteArray := prog_12_method_78_code
def yX10_before : MethodName := ⟨RX10, "before", "(IIIIII)J"⟩
abbrev cX10_find : ByteArray := prog_12_method_79_code
def yX10_find : MethodName := ⟨RX10, "find", "(IIJ)J"⟩
abbrev cX10_findIn : ByteArray := prog_12_method_80_code
def yX10_findIn : MethodName := ⟨RX10, "findIn", "(IIIIIJ)J"⟩
abbrev cX10_touched : ByteArray := prog_12_method_81_code
def yX10_touched : MethodName := ⟨RX10, "touched", "(IIIIIJ)J"⟩
abbrev cX10_ahead : ByteArray := prog_12_method_82_code
def yX10_ahead : MethodName := ⟨RX10, "ahead", "(IIII)J"⟩
abbrev cX10_lineOf : ByteArray := prog_12_method_83_code
def yX10_lineOf : MethodName := ⟨RX10, "lineOf", "(III)J"⟩
abbrev cX10_middle : ByteArray := prog_12_method_84_code
def yX10_middle : MethodName := ⟨RX10, "middle", "(II)I"⟩
abbrev cX10_farAll : ByteArray := prog_12_method_85_code
def yX10_farAll : MethodName := ⟨RX10, "farAll", "(III)J"⟩
abbrev cX10_haul : ByteArray := prog_12_method_86_code
def yX10_haul : MethodName := ⟨RX10, "haul", "(III)J"⟩
abbrev cX10_depot : ByteArray := prog_12_method_87_code
def yX10_depot : MethodName := ⟨RX10, "depot", "(II)J"⟩
abbrev cX10_laysPlaces : ByteArray := prog_12_method_88_code
def yX10_laysPlaces : MethodName := ⟨RX10, "laysPlaces", "(II[I)I"⟩
abbrev cX10_window : ByteArray := prog_12_method_89_code
def yX10_window : MethodName := ⟨RX10, "window", "(IIII)J"⟩
abbrev cX10_line : ByteArray := prog_12_method_90_code
def yX10_line : MethodName := ⟨RX10, "line", "(III)J"⟩
abbrev cX10_borders : ByteArray := prog_12_method_91_code
def yX10_borders : MethodName := ⟨RX10, "borders", "(II)I"⟩
abbrev cX10_border : ByteArray := prog_12_method_92_code
def yX10_border : MethodName := ⟨RX10, "border", "(II)I"⟩
abbrev cX10_act : ByteArray := prog_12_method_93_code
def yX10_act : MethodName := ⟨RX10, "act", "(II)J"⟩
abbrev cX10_count : ByteArray := prog_12_method_94_code
def yX10_count : MethodName := ⟨RX10, "count", "(I)J"⟩
def RJ9 : String := "java/lang/Math"
abbrev cJ9_max_7cf53 : ByteArray := prog_13_method_65_code
def yJ9_max_7cf53 : MethodName := ⟨RJ9, "max", "(II)I"⟩
abbrev cJ9_max_f86c9 : ByteArray := prog_13_method_66_code
def yJ9_max_f86c9 : MethodName := ⟨RJ9, "max", "(JJ)J"⟩
abbrev cJ9_min_7cf53 : ByteArray := prog_13_method_69_code
def yJ9_min_7cf53 : MethodName := ⟨RJ9, "min", "(II)I"⟩
abbrev cJ9_min_f86c9 : ByteArray := prog_13_method_70_code
def yJ9_min_f86c9 : MethodName := ⟨RJ9, "min", "(JJ)J"⟩
def RJ0 : String := "java/lang/String"
abbrev cJ0_length_8abf5 : ByteArray := prog_14_method_54_code
def yJ0_length_8abf5 : MethodName := ⟨RJ0, "length", "()I"⟩
abbrev cJ0_charAt_5068e : ByteArray := prog_14_method_56_code
def yJ0_charAt_5068e : MethodName := ⟨RJ0, "charAt", "(I)C"⟩
abbrev cJ0_coder_7d493 : ByteArray := prog_14_method_152_code
def yJ0_coder_7d493 : MethodName := ⟨RJ0, "coder", "()B"⟩
abbrev cJ0_isLatin1_aae02 : ByteArray := prog_14_method_154_code
def yJ0_isLatin1_aae02 : MethodName := ⟨RJ0, "isLatin1", "()Z"⟩
abbrev cJ0_checkIndex_df160 : ByteArray := prog_14_method_155_code
def yJ0_checkIndex_df160 : MethodName := ⟨RJ0, "checkIndex", "(II)V"⟩
def RJ1 : String := "java/lang/StringLatin1"
abbrev cJ1_charAt_3b067 : ByteArray := prog_15_method_2_code
def yJ1_charAt_3b067 : MethodName := ⟨RJ1, "charAt", "([BI)C"⟩
def RJ2 : String := "java/lang/StringUTF16"
abbrev cJ2_getChar_3b067 : ByteArray := prog_16_method_5_code
def yJ2_getChar_3b067 : MethodName := ⟨RJ2, "getChar", "([BI)C"⟩
abbrev cJ2_length_9d52b : ByteArray := prog_16_method_6_code
def yJ2_length_9d52b : MethodName := ⟨RJ2, "length", "([B)I"⟩
abbrev cJ2_charAt_3b067 : ByteArray := prog_16_method_83_code
def yJ2_charAt_3b067 : MethodName := ⟨RJ2, "charAt", "([BI)C"⟩
abbrev cJ2_checkIndex_2214a : ByteArray := prog_16_method_91_code
def yJ2_checkIndex_2214a : MethodName := ⟨RJ2, "checkIndex", "(I[B)V"⟩
def RJ10 : String := "java/lang/System"
def RJ7 : String := "java/util/Arrays"
abbrev cJ7_fill_d0a16 : ByteArray := prog_18_method_101_code
def yJ7_fill_d0a16 : MethodName := ⟨RJ7, "fill", "([JJ)V"⟩
def RJ3 : String := "jdk/internal/util/Preconditions"
abbrev cJ3_checkIndex_8e157 : ByteArray := prog_19_method_11_code
def yJ3_checkIndex_8e157 : MethodName := ⟨RJ3, "checkIndex", "(IILjava/util/function/BiFunction;)I"⟩
def RL : String := "StockGridLaw"
abbrev cL_law : ByteArray := code
def yL_law : MethodName := ⟨RL, "law", "([I)Z"⟩
